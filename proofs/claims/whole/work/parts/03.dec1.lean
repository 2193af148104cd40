theorem dX5_init_0 : decode cX5_init 0 = .ok (.aload_n 0, 1) := by decide +kernel
theorem dX5_init_1 : decode cX5_init 1 = .ok (.invokespecial 3, 3) := by decide +kernel
theorem dX5_init_4 : decode cX5_init 4 = .ok (.aload_n 0, 1) := by decide +kernel
theorem dX5_init_5 : decode cX5_init 5 = .ok (.iload_n 1, 1) := by decide +kernel
theorem dX5_init_6 : decode cX5_init 6 = .ok (.putfield 9, 3) := by decide +kernel
theorem dX5_init_9 : decode cX5_init 9 = .ok (.aload_n 0, 1) := by decide +kernel
theorem dX5_init_10 : decode cX5_init 10 = .ok (.iload_n 2, 1) := by decide +kernel
theorem dX5_init_11 : decode cX5_init 11 = .ok (.putfield 15, 3) := by decide +kernel
theorem dX5_init_14 : decode cX5_init 14 = .ok (.aload_n 0, 1) := by decide +kernel
theorem dX5_init_15 : decode cX5_init 15 = .ok (.iload_n 3, 1) := by decide +kernel
theorem dX5_init_16 : decode cX5_init 16 = .ok (.putfield 18, 3) := by decide +kernel
theorem dX5_init_19 : decode cX5_init 19 = .ok (.aload_n 0, 1) := by decide +kernel
theorem dX5_init_20 : decode cX5_init 20 = .ok (.iload 4, 2) := by decide +kernel
theorem dX5_init_22 : decode cX5_init 22 = .ok (.putfield 21, 3) := by decide +kernel
theorem dX5_init_25 : decode cX5_init 25 = .ok (.return_, 1) := by decide +kernel
theorem dX5_number_0 : decode cX5_number 0 = .ok (.iload_n 1, 1) := by decide +kernel
theorem dX5_number_1 : decode cX5_number 1 = .ok (.tableswitch 42 0 2 #[27, 32, 37], 27) := by decide +kernel
theorem dX5_number_28 : decode cX5_number 28 = .ok (.aload_n 0, 1) := by decide +kernel
theorem dX5_number_29 : decode cX5_number 29 = .ok (.getfield 9, 3) := by decide +kernel
theorem dX5_number_32 : decode cX5_number 32 = .ok (.ireturn, 1) := by decide +kernel
theorem dX5_number_33 : decode cX5_number 33 = .ok (.aload_n 0, 1) := by decide +kernel
theorem dX5_number_34 : decode cX5_number 34 = .ok (.getfield 15, 3) := by decide +kernel
theorem dX5_number_37 : decode cX5_number 37 = .ok (.ireturn, 1) := by decide +kernel
theorem dX5_number_38 : decode cX5_number 38 = .ok (.aload_n 0, 1) := by decide +kernel
theorem dX5_number_39 : decode cX5_number 39 = .ok (.getfield 18, 3) := by decide +kernel
theorem dX5_number_42 : decode cX5_number 42 = .ok (.ireturn, 1) := by decide +kernel
theorem dX5_number_43 : decode cX5_number 43 = .ok (.aload_n 0, 1) := by decide +kernel
theorem dX5_number_44 : decode cX5_number 44 = .ok (.getfield 21, 3) := by decide +kernel
theorem dX5_number_47 : decode cX5_number 47 = .ok (.ireturn, 1) := by decide +kernel
theorem dX5_isA_0 : decode cX5_isA 0 = .ok (.aload_n 0, 1) := by decide +kernel
theorem dX5_isA_1 : decode cX5_isA 1 = .ok (.getfield 9, 3) := by decide +kernel
theorem dX5_isA_4 : decode cX5_isA 4 = .ok (.iload_n 1, 1) := by decide +kernel
theorem dX5_isA_5 : decode cX5_isA 5 = .ok (.if_icmp .eq 15, 3) := by decide +kernel
theorem dX5_isA_8 : decode cX5_isA 8 = .ok (.getstatic 24, 3) := by decide +kernel
theorem dX5_isA_11 : decode cX5_isA 11 = .ok (.aload_n 0, 1) := by decide +kernel
theorem dX5_isA_12 : decode cX5_isA 12 = .ok (.getfield 9, 3) := by decide +kernel
theorem dX5_isA_15 : decode cX5_isA 15 = .ok (.iaload, 1) := by decide +kernel
theorem dX5_isA_16 : decode cX5_isA 16 = .ok (.iload_n 1, 1) := by decide +kernel
theorem dX5_isA_17 : decode cX5_isA 17 = .ok (.if_icmp .ne 7, 3) := by decide +kernel
theorem dX5_isA_20 : decode cX5_isA 20 = .ok (.iconst 1, 1) := by decide +kernel
theorem dX5_isA_21 : decode cX5_isA 21 = .ok (.goto 4, 3) := by decide +kernel
theorem dX5_isA_24 : decode cX5_isA 24 = .ok (.iconst 0, 1) := by decide +kernel
theorem dX5_isA_25 : decode cX5_isA 25 = .ok (.ireturn, 1) := by decide +kernel
theorem dX5_canBeUndone_0 : decode cX5_canBeUndone 0 = .ok (.aload_n 0, 1) := by decide +kernel
theorem dX5_canBeUndone_1 : decode cX5_canBeUndone 1 = .ok (.getfield 9, 3) := by decide +kernel
theorem dX5_canBeUndone_4 : decode cX5_canBeUndone 4 = .ok (.iconst 4, 1) := by decide +kernel
theorem dX5_canBeUndone_5 : decode cX5_canBeUndone 5 = .ok (.if_icmp .eq 7, 3) := by decide +kernel
theorem dX5_canBeUndone_8 : decode cX5_canBeUndone 8 = .ok (.iconst 1, 1) := by decide +kernel
theorem dX5_canBeUndone_9 : decode cX5_canBeUndone 9 = .ok (.goto 4, 3) := by decide +kernel
theorem dX5_canBeUndone_12 : decode cX5_canBeUndone 12 = .ok (.iconst 0, 1) := by decide +kernel
theorem dX5_canBeUndone_13 : decode cX5_canBeUndone 13 = .ok (.ireturn, 1) := by decide +kernel
theorem dX5_growth_0 : decode cX5_growth 0 = .ok (.aload_n 0, 1) := by decide +kernel
theorem dX5_growth_1 : decode cX5_growth 1 = .ok (.getfield 9, 3) := by decide +kernel
theorem dX5_growth_4 : decode cX5_growth 4 = .ok (.tableswitch 78 0 5 #[40, 45, 78, 78, 61, 69], 40) := by decide +kernel
theorem dX5_growth_44 : decode cX5_growth 44 = .ok (.aload_n 1, 1) := by decide +kernel
theorem dX5_growth_45 : decode cX5_growth 45 = .ok (.invokestatic 28, 3) := by decide +kernel
theorem dX5_growth_48 : decode cX5_growth 48 = .ok (.ireturn, 1) := by decide +kernel
theorem dX5_growth_49 : decode cX5_growth 49 = .ok (.aload_n 1, 1) := by decide +kernel
theorem dX5_growth_50 : decode cX5_growth 50 = .ok (.iconst 2, 1) := by decide +kernel
theorem dX5_growth_51 : decode cX5_growth 51 = .ok (.invokevirtual 32, 3) := by decide +kernel
theorem dX5_growth_54 : decode cX5_growth 54 = .ok (.pop, 1) := by decide +kernel
theorem dX5_growth_55 : decode cX5_growth 55 = .ok (.aload_n 1, 1) := by decide +kernel
theorem dX5_growth_56 : decode cX5_growth 56 = .ok (.invokestatic 28, 3) := by decide +kernel
theorem dX5_growth_59 : decode cX5_growth 59 = .ok (.aload_n 1, 1) := by decide +kernel
theorem dX5_growth_60 : decode cX5_growth 60 = .ok (.invokestatic 28, 3) := by decide +kernel
theorem dX5_growth_63 : decode cX5_growth 63 = .ok (.iadd, 1) := by decide +kernel
theorem dX5_growth_64 : decode cX5_growth 64 = .ok (.ireturn, 1) := by decide +kernel
theorem dX5_growth_65 : decode cX5_growth 65 = .ok (.aload_n 1, 1) := by decide +kernel
theorem dX5_growth_66 : decode cX5_growth 66 = .ok (.iconst 5, 1) := by decide +kernel
theorem dX5_growth_67 : decode cX5_growth 67 = .ok (.invokevirtual 32, 3) := by decide +kernel
theorem dX5_growth_70 : decode cX5_growth 70 = .ok (.pop, 1) := by decide +kernel
theorem dX5_growth_71 : decode cX5_growth 71 = .ok (.iconst (-1), 1) := by decide +kernel
theorem dX5_growth_72 : decode cX5_growth 72 = .ok (.ireturn, 1) := by decide +kernel
theorem dX5_growth_73 : decode cX5_growth 73 = .ok (.aload_n 1, 1) := by decide +kernel
theorem dX5_growth_74 : decode cX5_growth 74 = .ok (.bipush 6, 2) := by decide +kernel
theorem dX5_growth_76 : decode cX5_growth 76 = .ok (.invokevirtual 32, 3) := by decide +kernel
theorem dX5_growth_79 : decode cX5_growth 79 = .ok (.pop, 1) := by decide +kernel
theorem dX5_growth_80 : decode cX5_growth 80 = .ok (.iconst 0, 1) := by decide +kernel
theorem dX5_growth_81 : decode cX5_growth 81 = .ok (.ireturn, 1) := by decide +kernel
theorem dX5_growth_82 : decode cX5_growth 82 = .ok (.aload_n 1, 1) := by decide +kernel
theorem dX5_growth_83 : decode cX5_growth 83 = .ok (.iconst 3, 1) := by decide +kernel
theorem dX5_growth_84 : decode cX5_growth 84 = .ok (.invokevirtual 32, 3) := by decide +kernel
theorem dX5_growth_87 : decode cX5_growth 87 = .ok (.pop, 1) := by decide +kernel
theorem dX5_growth_88 : decode cX5_growth 88 = .ok (.iconst 0, 1) := by decide +kernel
theorem dX5_growth_89 : decode cX5_growth 89 = .ok (.ireturn, 1) := by decide +kernel
theorem dX5_twistGrowth_0 : decode cX5_twistGrowth 0 = .ok (.aload_n 0, 1) := by decide +kernel
theorem dX5_twistGrowth_1 : decode cX5_twistGrowth 1 = .ok (.iconst 1, 1) := by decide +kernel
theorem dX5_twistGrowth_2 : decode cX5_twistGrowth 2 = .ok (.invokevirtual 32, 3) := by decide +kernel
theorem dX5_twistGrowth_5 : decode cX5_twistGrowth 5 = .ok (.pop, 1) := by decide +kernel
theorem dX5_twistGrowth_6 : decode cX5_twistGrowth 6 = .ok (.iconst 1, 1) := by decide +kernel
theorem dX5_twistGrowth_7 : decode cX5_twistGrowth 7 = .ok (.ireturn, 1) := by decide +kernel
theorem dX5_applyTo_0 : decode cX5_applyTo 0 = .ok (.aload_n 0, 1) := by decide +kernel
theorem dX5_applyTo_1 : decode cX5_applyTo 1 = .ok (.getfield 9, 3) := by decide +kernel
theorem dX5_applyTo_4 : decode cX5_applyTo 4 = .ok (.tableswitch 77 0 4 #[36, 43, 50, 60, 71], 36) := by decide +kernel
theorem dX5_applyTo_40 : decode cX5_applyTo 40 = .ok (.aload_n 0, 1) := by decide +kernel
theorem dX5_applyTo_41 : decode cX5_applyTo 41 = .ok (.aload_n 1, 1) := by decide +kernel
theorem dX5_applyTo_42 : decode cX5_applyTo 42 = .ok (.aload_n 2, 1) := by decide +kernel
theorem dX5_applyTo_43 : decode cX5_applyTo 43 = .ok (.invokevirtual 38, 3) := by decide +kernel
theorem dX5_applyTo_46 : decode cX5_applyTo 46 = .ok (.ireturn, 1) := by decide +kernel
theorem dX5_applyTo_47 : decode cX5_applyTo 47 = .ok (.aload_n 0, 1) := by decide +kernel
theorem dX5_applyTo_48 : decode cX5_applyTo 48 = .ok (.aload_n 1, 1) := by decide +kernel
theorem dX5_applyTo_49 : decode cX5_applyTo 49 = .ok (.aload_n 2, 1) := by decide +kernel
theorem dX5_applyTo_50 : decode cX5_applyTo 50 = .ok (.invokevirtual 42, 3) := by decide +kernel
theorem dX5_applyTo_53 : decode cX5_applyTo 53 = .ok (.ireturn, 1) := by decide +kernel
theorem dX5_applyTo_54 : decode cX5_applyTo 54 = .ok (.aload_n 1, 1) := by decide +kernel
theorem dX5_applyTo_55 : decode cX5_applyTo 55 = .ok (.aload_n 2, 1) := by decide +kernel
theorem dX5_applyTo_56 : decode cX5_applyTo 56 = .ok (.aload_n 0, 1) := by decide +kernel
theorem dX5_applyTo_57 : decode cX5_applyTo 57 = .ok (.getfield 15, 3) := by decide +kernel
theorem dX5_applyTo_60 : decode cX5_applyTo 60 = .ok (.invokestatic 45, 3) := by decide +kernel
theorem dX5_applyTo_63 : decode cX5_applyTo 63 = .ok (.ireturn, 1) := by decide +kernel
theorem dX5_applyTo_64 : decode cX5_applyTo 64 = .ok (.aload_n 0, 1) := by decide +kernel
theorem dX5_applyTo_65 : decode cX5_applyTo 65 = .ok (.aload_n 1, 1) := by decide +kernel
theorem dX5_applyTo_66 : decode cX5_applyTo 66 = .ok (.aload_n 2, 1) := by decide +kernel
theorem dX5_applyTo_67 : decode cX5_applyTo 67 = .ok (.aload_n 0, 1) := by decide +kernel
theorem dX5_applyTo_68 : decode cX5_applyTo 68 = .ok (.getfield 15, 3) := by decide +kernel
theorem dX5_applyTo_71 : decode cX5_applyTo 71 = .ok (.invokevirtual 49, 3) := by decide +kernel
theorem dX5_applyTo_74 : decode cX5_applyTo 74 = .ok (.ireturn, 1) := by decide +kernel
theorem dX5_applyTo_75 : decode cX5_applyTo 75 = .ok (.aload_n 0, 1) := by decide +kernel
theorem dX5_applyTo_76 : decode cX5_applyTo 76 = .ok (.aload_n 1, 1) := by decide +kernel
theorem dX5_applyTo_77 : decode cX5_applyTo 77 = .ok (.invokevirtual 52, 3) := by decide +kernel
theorem dX5_applyTo_80 : decode cX5_applyTo 80 = .ok (.ireturn, 1) := by decide +kernel
theorem dX5_applyTo_81 : decode cX5_applyTo 81 = .ok (.aload_n 0, 1) := by decide +kernel
theorem dX5_applyTo_82 : decode cX5_applyTo 82 = .ok (.aload_n 1, 1) := by decide +kernel
theorem dX5_applyTo_83 : decode cX5_applyTo 83 = .ok (.iconst 1, 1) := by decide +kernel
theorem dX5_applyTo_84 : decode cX5_applyTo 84 = .ok (.invokevirtual 56, 3) := by decide +kernel
theorem dX5_applyTo_87 : decode cX5_applyTo 87 = .ok (.ireturn, 1) := by decide +kernel
theorem dX5_withdrawFrom_0 : decode cX5_withdrawFrom 0 = .ok (.aload_n 0, 1) := by decide +kernel
theorem dX5_withdrawFrom_1 : decode cX5_withdrawFrom 1 = .ok (.getfield 9, 3) := by decide +kernel
theorem dX5_withdrawFrom_4 : decode cX5_withdrawFrom 4 = .ok (.tableswitch 81 0 3 #[32, 42, 52, 66], 32) := by decide +kernel
theorem dX5_withdrawFrom_36 : decode cX5_withdrawFrom 36 = .ok (.aload_n 1, 1) := by decide +kernel
theorem dX5_withdrawFrom_37 : decode cX5_withdrawFrom 37 = .ok (.aload_n 2, 1) := by decide +kernel
theorem dX5_withdrawFrom_38 : decode cX5_withdrawFrom 38 = .ok (.aload_n 0, 1) := by decide +kernel
theorem dX5_withdrawFrom_39 : decode cX5_withdrawFrom 39 = .ok (.getfield 15, 3) := by decide +kernel
theorem dX5_withdrawFrom_42 : decode cX5_withdrawFrom 42 = .ok (.invokestatic 60, 3) := by decide +kernel
theorem dX5_withdrawFrom_45 : decode cX5_withdrawFrom 45 = .ok (.ireturn, 1) := by decide +kernel
theorem dX5_withdrawFrom_46 : decode cX5_withdrawFrom 46 = .ok (.aload_n 1, 1) := by decide +kernel
theorem dX5_withdrawFrom_47 : decode cX5_withdrawFrom 47 = .ok (.aload_n 2, 1) := by decide +kernel
theorem dX5_withdrawFrom_48 : decode cX5_withdrawFrom 48 = .ok (.aload_n 0, 1) := by decide +kernel
theorem dX5_withdrawFrom_49 : decode cX5_withdrawFrom 49 = .ok (.getfield 15, 3) := by decide +kernel
theorem dX5_withdrawFrom_52 : decode cX5_withdrawFrom 52 = .ok (.invokestatic 63, 3) := by decide +kernel
theorem dX5_withdrawFrom_55 : decode cX5_withdrawFrom 55 = .ok (.ireturn, 1) := by decide +kernel
theorem dX5_withdrawFrom_56 : decode cX5_withdrawFrom 56 = .ok (.aload_n 1, 1) := by decide +kernel
theorem dX5_withdrawFrom_57 : decode cX5_withdrawFrom 57 = .ok (.aload_n 2, 1) := by decide +kernel
theorem dX5_withdrawFrom_58 : decode cX5_withdrawFrom 58 = .ok (.aload_n 0, 1) := by decide +kernel
theorem dX5_withdrawFrom_59 : decode cX5_withdrawFrom 59 = .ok (.getfield 15, 3) := by decide +kernel
theorem dX5_withdrawFrom_62 : decode cX5_withdrawFrom 62 = .ok (.iconst 2, 1) := by decide +kernel
theorem dX5_withdrawFrom_63 : decode cX5_withdrawFrom 63 = .ok (.invokestatic 66, 3) := by decide +kernel
theorem dX5_withdrawFrom_66 : decode cX5_withdrawFrom 66 = .ok (.invokestatic 45, 3) := by decide +kernel
theorem dX5_withdrawFrom_69 : decode cX5_withdrawFrom 69 = .ok (.ireturn, 1) := by decide +kernel
theorem dX5_withdrawFrom_70 : decode cX5_withdrawFrom 70 = .ok (.aload_n 0, 1) := by decide +kernel
theorem dX5_withdrawFrom_71 : decode cX5_withdrawFrom 71 = .ok (.aload_n 1, 1) := by decide +kernel
theorem dX5_withdrawFrom_72 : decode cX5_withdrawFrom 72 = .ok (.aload_n 2, 1) := by decide +kernel
theorem dX5_withdrawFrom_73 : decode cX5_withdrawFrom 73 = .ok (.aload_n 0, 1) := by decide +kernel
theorem dX5_withdrawFrom_74 : decode cX5_withdrawFrom 74 = .ok (.getfield 15, 3) := by decide +kernel
theorem dX5_withdrawFrom_77 : decode cX5_withdrawFrom 77 = .ok (.iconst 2, 1) := by decide +kernel
theorem dX5_withdrawFrom_78 : decode cX5_withdrawFrom 78 = .ok (.invokestatic 66, 3) := by decide +kernel
theorem dX5_withdrawFrom_81 : decode cX5_withdrawFrom 81 = .ok (.invokevirtual 49, 3) := by decide +kernel
theorem dX5_withdrawFrom_84 : decode cX5_withdrawFrom 84 = .ok (.ireturn, 1) := by decide +kernel
theorem dX5_withdrawFrom_85 : decode cX5_withdrawFrom 85 = .ok (.aload_n 0, 1) := by decide +kernel
theorem dX5_withdrawFrom_86 : decode cX5_withdrawFrom 86 = .ok (.aload_n 1, 1) := by decide +kernel
theorem dX5_withdrawFrom_87 : decode cX5_withdrawFrom 87 = .ok (.iconst 3, 1) := by decide +kernel
theorem dX5_withdrawFrom_88 : decode cX5_withdrawFrom 88 = .ok (.invokevirtual 56, 3) := by decide +kernel
theorem dX5_withdrawFrom_91 : decode cX5_withdrawFrom 91 = .ok (.ireturn, 1) := by decide +kernel
theorem dX5_takeStep_0 : decode cX5_takeStep 0 = .ok (.iload_n 2, 1) := by decide +kernel
theorem dX5_takeStep_1 : decode cX5_takeStep 1 = .ok (.iconst 3, 1) := by decide +kernel
theorem dX5_takeStep_2 : decode cX5_takeStep 2 = .ok (.idiv, 1) := by decide +kernel
theorem dX5_takeStep_3 : decode cX5_takeStep 3 = .ok (.istore_n 3, 1) := by decide +kernel
theorem dX5_takeStep_4 : decode cX5_takeStep 4 = .ok (.iload_n 2, 1) := by decide +kernel
theorem dX5_takeStep_5 : decode cX5_takeStep 5 = .ok (.iconst 3, 1) := by decide +kernel
theorem dX5_takeStep_6 : decode cX5_takeStep 6 = .ok (.irem, 1) := by decide +kernel
theorem dX5_takeStep_7 : decode cX5_takeStep 7 = .ok (.lookupswitch 57 #[(0, 25), (1, 41)], 25) := by decide +kernel
theorem dX5_takeStep_32 : decode cX5_takeStep 32 = .ok (.aload_n 0, 1) := by decide +kernel
theorem dX5_takeStep_33 : decode cX5_takeStep 33 = .ok (.aload_n 1, 1) := by decide +kernel
theorem dX5_takeStep_34 : decode cX5_takeStep 34 = .ok (.iload_n 3, 1) := by decide +kernel
theorem dX5_takeStep_35 : decode cX5_takeStep 35 = .ok (.invokestatic 60, 3) := by decide +kernel
theorem dX5_takeStep_38 : decode cX5_takeStep 38 = .ok (.iconst 1, 1) := by decide +kernel
theorem dX5_takeStep_39 : decode cX5_takeStep 39 = .ok (.if_icmp .ne 7, 3) := by decide +kernel
theorem dX5_takeStep_42 : decode cX5_takeStep 42 = .ok (.iconst 1, 1) := by decide +kernel
theorem dX5_takeStep_43 : decode cX5_takeStep 43 = .ok (.goto 4, 3) := by decide +kernel
theorem dX5_takeStep_46 : decode cX5_takeStep 46 = .ok (.iconst 0, 1) := by decide +kernel
theorem dX5_takeStep_47 : decode cX5_takeStep 47 = .ok (.ireturn, 1) := by decide +kernel
theorem dX5_takeStep_48 : decode cX5_takeStep 48 = .ok (.aload_n 0, 1) := by decide +kernel
theorem dX5_takeStep_49 : decode cX5_takeStep 49 = .ok (.aload_n 1, 1) := by decide +kernel
theorem dX5_takeStep_50 : decode cX5_takeStep 50 = .ok (.iload_n 3, 1) := by decide +kernel
theorem dX5_takeStep_51 : decode cX5_takeStep 51 = .ok (.invokestatic 63, 3) := by decide +kernel
theorem dX5_takeStep_54 : decode cX5_takeStep 54 = .ok (.iconst 1, 1) := by decide +kernel
theorem dX5_takeStep_55 : decode cX5_takeStep 55 = .ok (.if_icmp .ne 7, 3) := by decide +kernel
theorem dX5_takeStep_58 : decode cX5_takeStep 58 = .ok (.iconst 1, 1) := by decide +kernel
theorem dX5_takeStep_59 : decode cX5_takeStep 59 = .ok (.goto 4, 3) := by decide +kernel
theorem dX5_takeStep_62 : decode cX5_takeStep 62 = .ok (.iconst 0, 1) := by decide +kernel
theorem dX5_takeStep_63 : decode cX5_takeStep 63 = .ok (.ireturn, 1) := by decide +kernel
theorem dX5_takeStep_64 : decode cX5_takeStep 64 = .ok (.aload_n 0, 1) := by decide +kernel
theorem dX5_takeStep_65 : decode cX5_takeStep 65 = .ok (.aload_n 1, 1) := by decide +kernel
theorem dX5_takeStep_66 : decode cX5_takeStep 66 = .ok (.iload_n 3, 1) := by decide +kernel
theorem dX5_takeStep_67 : decode cX5_takeStep 67 = .ok (.invokestatic 45, 3) := by decide +kernel
theorem dX5_takeStep_70 : decode cX5_takeStep 70 = .ok (.iconst 1, 1) := by decide +kernel
theorem dX5_takeStep_71 : decode cX5_takeStep 71 = .ok (.if_icmp .ne 7, 3) := by decide +kernel
theorem dX5_takeStep_74 : decode cX5_takeStep 74 = .ok (.iconst 1, 1) := by decide +kernel
theorem dX5_takeStep_75 : decode cX5_takeStep 75 = .ok (.goto 4, 3) := by decide +kernel
theorem dX5_takeStep_78 : decode cX5_takeStep 78 = .ok (.iconst 0, 1) := by decide +kernel
theorem dX5_takeStep_79 : decode cX5_takeStep 79 = .ok (.ireturn, 1) := by decide +kernel
theorem dX5_seemsOpen_0 : decode cX5_seemsOpen 0 = .ok (.iload_n 1, 1) := by decide +kernel
theorem dX5_seemsOpen_1 : decode cX5_seemsOpen 1 = .ok (.iconst 3, 1) := by decide +kernel
theorem dX5_seemsOpen_2 : decode cX5_seemsOpen 2 = .ok (.idiv, 1) := by decide +kernel
theorem dX5_seemsOpen_3 : decode cX5_seemsOpen 3 = .ok (.istore_n 2, 1) := by decide +kernel
theorem dX5_seemsOpen_4 : decode cX5_seemsOpen 4 = .ok (.iload_n 1, 1) := by decide +kernel
theorem dX5_seemsOpen_5 : decode cX5_seemsOpen 5 = .ok (.iconst 3, 1) := by decide +kernel
theorem dX5_seemsOpen_6 : decode cX5_seemsOpen 6 = .ok (.irem, 1) := by decide +kernel
theorem dX5_seemsOpen_7 : decode cX5_seemsOpen 7 = .ok (.lookupswitch 37 #[(0, 25), (1, 31)], 25) := by decide +kernel
theorem dX5_seemsOpen_32 : decode cX5_seemsOpen 32 = .ok (.aload_n 0, 1) := by decide +kernel
theorem dX5_seemsOpen_33 : decode cX5_seemsOpen 33 = .ok (.iload_n 2, 1) := by decide +kernel
theorem dX5_seemsOpen_34 : decode cX5_seemsOpen 34 = .ok (.invokestatic 70, 3) := by decide +kernel
theorem dX5_seemsOpen_37 : decode cX5_seemsOpen 37 = .ok (.ireturn, 1) := by decide +kernel
theorem dX5_seemsOpen_38 : decode cX5_seemsOpen 38 = .ok (.aload_n 0, 1) := by decide +kernel
theorem dX5_seemsOpen_39 : decode cX5_seemsOpen 39 = .ok (.iload_n 2, 1) := by decide +kernel
theorem dX5_seemsOpen_40 : decode cX5_seemsOpen 40 = .ok (.invokestatic 74, 3) := by decide +kernel
theorem dX5_seemsOpen_43 : decode cX5_seemsOpen 43 = .ok (.ireturn, 1) := by decide +kernel
theorem dX5_seemsOpen_44 : decode cX5_seemsOpen 44 = .ok (.aload_n 0, 1) := by decide +kernel
theorem dX5_seemsOpen_45 : decode cX5_seemsOpen 45 = .ok (.iload_n 2, 1) := by decide +kernel
theorem dX5_seemsOpen_46 : decode cX5_seemsOpen 46 = .ok (.invokestatic 77, 3) := by decide +kernel
theorem dX5_seemsOpen_49 : decode cX5_seemsOpen 49 = .ok (.ireturn, 1) := by decide +kernel
theorem dX5_loopsAnswer_0 : decode cX5_loopsAnswer 0 = .ok (.aload_n 0, 1) := by decide +kernel
theorem dX5_loopsAnswer_1 : decode cX5_loopsAnswer 1 = .ok (.getfield 80, 3) := by decide +kernel
theorem dX5_loopsAnswer_4 : decode cX5_loopsAnswer 4 = .ok (.bipush 9, 2) := by decide +kernel
theorem dX5_loopsAnswer_6 : decode cX5_loopsAnswer 6 = .ok (.if_icmp .le 8, 3) := by decide +kernel
theorem dX5_loopsAnswer_9 : decode cX5_loopsAnswer 9 = .ok (.bipush (-18), 2) := by decide +kernel
theorem dX5_loopsAnswer_11 : decode cX5_loopsAnswer 11 = .ok (.goto 4, 3) := by decide +kernel
theorem dX5_loopsAnswer_14 : decode cX5_loopsAnswer 14 = .ok (.iconst 1, 1) := by decide +kernel
theorem dX5_loopsAnswer_15 : decode cX5_loopsAnswer 15 = .ok (.ireturn, 1) := by decide +kernel
theorem dX5_twist_0 : decode cX5_twist 0 = .ok (.aload_n 0, 1) := by decide +kernel
theorem dX5_twist_1 : decode cX5_twist 1 = .ok (.getfield 15, 3) := by decide +kernel
theorem dX5_twist_4 : decode cX5_twist 4 = .ok (.iconst (-1), 1) := by decide +kernel
theorem dX5_twist_5 : decode cX5_twist 5 = .ok (.if_icmp .ne 7, 3) := by decide +kernel
theorem dX5_twist_8 : decode cX5_twist 8 = .ok (.iconst 1, 1) := by decide +kernel
theorem dX5_twist_9 : decode cX5_twist 9 = .ok (.goto 4, 3) := by decide +kernel
theorem dX5_twist_12 : decode cX5_twist 12 = .ok (.iconst 0, 1) := by decide +kernel
theorem dX5_twist_13 : decode cX5_twist 13 = .ok (.istore_n 3, 1) := by decide +kernel
theorem dX5_twist_14 : decode cX5_twist 14 = .ok (.aload_n 0, 1) := by decide +kernel
theorem dX5_twist_15 : decode cX5_twist 15 = .ok (.getfield 18, 3) := by decide +kernel
theorem dX5_twist_18 : decode cX5_twist 18 = .ok (.ifCond .lt 37, 3) := by decide +kernel
theorem dX5_twist_21 : decode cX5_twist 21 = .ok (.aload_n 0, 1) := by decide +kernel
theorem dX5_twist_22 : decode cX5_twist 22 = .ok (.getfield 18, 3) := by decide +kernel
theorem dX5_twist_25 : decode cX5_twist 25 = .ok (.iconst 3, 1) := by decide +kernel
theorem dX5_twist_26 : decode cX5_twist 26 = .ok (.if_icmp .gt 29, 3) := by decide +kernel
theorem dX5_twist_29 : decode cX5_twist 29 = .ok (.iload_n 3, 1) := by decide +kernel
theorem dX5_twist_30 : decode cX5_twist 30 = .ok (.ifCond .eq 14, 3) := by decide +kernel
theorem dX5_twist_33 : decode cX5_twist 33 = .ok (.aload_n 1, 1) := by decide +kernel
theorem dX5_twist_34 : decode cX5_twist 34 = .ok (.getfield 80, 3) := by decide +kernel
theorem dX5_twist_37 : decode cX5_twist 37 = .ok (.iconst 1, 1) := by decide +kernel
theorem dX5_twist_38 : decode cX5_twist 38 = .ok (.if_icmp .ge 20, 3) := by decide +kernel
theorem dX5_twist_41 : decode cX5_twist 41 = .ok (.goto 14, 3) := by decide +kernel
theorem dX5_twist_44 : decode cX5_twist 44 = .ok (.aload_n 2, 1) := by decide +kernel
theorem dX5_twist_45 : decode cX5_twist 45 = .ok (.aload_n 0, 1) := by decide +kernel
theorem dX5_twist_46 : decode cX5_twist 46 = .ok (.getfield 15, 3) := by decide +kernel
theorem dX5_twist_49 : decode cX5_twist 49 = .ok (.invokevirtual 85, 3) := by decide +kernel
theorem dX5_twist_52 : decode cX5_twist 52 = .ok (.ifCond .ne 6, 3) := by decide +kernel
theorem dX5_twist_55 : decode cX5_twist 55 = .ok (.bipush (-15), 2) := by decide +kernel
theorem dX5_twist_57 : decode cX5_twist 57 = .ok (.ireturn, 1) := by decide +kernel
theorem dX5_twist_58 : decode cX5_twist 58 = .ok (.aload_n 1, 1) := by decide +kernel
theorem dX5_twist_59 : decode cX5_twist 59 = .ok (.getfield 90, 3) := by decide +kernel
theorem dX5_twist_62 : decode cX5_twist 62 = .ok (.bipush 40, 2) := by decide +kernel
theorem dX5_twist_64 : decode cX5_twist 64 = .ok (.if_icmp .lt 6, 3) := by decide +kernel
theorem dX5_twist_67 : decode cX5_twist 67 = .ok (.bipush (-18), 2) := by decide +kernel
theorem dX5_twist_69 : decode cX5_twist 69 = .ok (.ireturn, 1) := by decide +kernel
theorem dX5_twist_70 : decode cX5_twist 70 = .ok (.iload_n 3, 1) := by decide +kernel
theorem dX5_twist_71 : decode cX5_twist 71 = .ok (.ifCond .eq 37, 3) := by decide +kernel
theorem dX5_twist_74 : decode cX5_twist 74 = .ok (.aload_n 1, 1) := by decide +kernel
theorem dX5_twist_75 : decode cX5_twist 75 = .ok (.iconst (-1), 1) := by decide +kernel
theorem dX5_twist_76 : decode cX5_twist 76 = .ok (.invokevirtual 93, 3) := by decide +kernel
theorem dX5_twist_79 : decode cX5_twist 79 = .ok (.istore 4, 2) := by decide +kernel
theorem dX5_twist_81 : decode cX5_twist 81 = .ok (.aload_n 1, 1) := by decide +kernel
theorem dX5_twist_82 : decode cX5_twist 82 = .ok (.dup, 1) := by decide +kernel
theorem dX5_twist_83 : decode cX5_twist 83 = .ok (.getfield 80, 3) := by decide +kernel
theorem dX5_twist_86 : decode cX5_twist 86 = .ok (.iconst 1, 1) := by decide +kernel
theorem dX5_twist_87 : decode cX5_twist 87 = .ok (.isub, 1) := by decide +kernel
theorem dX5_twist_88 : decode cX5_twist 88 = .ok (.putfield 80, 3) := by decide +kernel
theorem dX5_twist_91 : decode cX5_twist 91 = .ok (.aload_n 0, 1) := by decide +kernel
theorem dX5_twist_92 : decode cX5_twist 92 = .ok (.aload_n 1, 1) := by decide +kernel
theorem dX5_twist_93 : decode cX5_twist 93 = .ok (.iload 4, 2) := by decide +kernel
theorem dX5_twist_95 : decode cX5_twist 95 = .ok (.aload_n 1, 1) := by decide +kernel
theorem dX5_twist_96 : decode cX5_twist 96 = .ok (.iload 4, 2) := by decide +kernel
theorem dX5_twist_98 : decode cX5_twist 98 = .ok (.invokevirtual 93, 3) := by decide +kernel
theorem dX5_twist_101 : decode cX5_twist 101 = .ok (.iload 4, 2) := by decide +kernel
theorem dX5_twist_103 : decode cX5_twist 103 = .ok (.invokevirtual 97, 3) := by decide +kernel
theorem dX5_twist_106 : decode cX5_twist 106 = .ok (.iconst 1, 1) := by decide +kernel
theorem dX5_twist_107 : decode cX5_twist 107 = .ok (.ireturn, 1) := by decide +kernel
theorem dX5_twist_108 : decode cX5_twist 108 = .ok (.aload_n 1, 1) := by decide +kernel
theorem dX5_twist_109 : decode cX5_twist 109 = .ok (.getfield 101, 3) := by decide +kernel
theorem dX5_twist_112 : decode cX5_twist 112 = .ok (.aload_n 0, 1) := by decide +kernel
theorem dX5_twist_113 : decode cX5_twist 113 = .ok (.getfield 15, 3) := by decide +kernel
theorem dX5_twist_116 : decode cX5_twist 116 = .ok (.iaload, 1) := by decide +kernel
theorem dX5_twist_117 : decode cX5_twist 117 = .ok (.istore 4, 2) := by decide +kernel
theorem dX5_twist_119 : decode cX5_twist 119 = .ok (.aload_n 1, 1) := by decide +kernel
theorem dX5_twist_120 : decode cX5_twist 120 = .ok (.iconst (-1), 1) := by decide +kernel
theorem dX5_twist_121 : decode cX5_twist 121 = .ok (.invokevirtual 93, 3) := by decide +kernel
theorem dX5_twist_124 : decode cX5_twist 124 = .ok (.istore 5, 2) := by decide +kernel
theorem dX5_twist_126 : decode cX5_twist 126 = .ok (.aload_n 1, 1) := by decide +kernel
theorem dX5_twist_127 : decode cX5_twist 127 = .ok (.iload 5, 2) := by decide +kernel
theorem dX5_twist_129 : decode cX5_twist 129 = .ok (.invokevirtual 93, 3) := by decide +kernel
theorem dX5_twist_132 : decode cX5_twist 132 = .ok (.istore 6, 2) := by decide +kernel
theorem dX5_twist_134 : decode cX5_twist 134 = .ok (.aload_n 1, 1) := by decide +kernel
theorem dX5_twist_135 : decode cX5_twist 135 = .ok (.getfield 101, 3) := by decide +kernel
theorem dX5_twist_138 : decode cX5_twist 138 = .ok (.aload_n 2, 1) := by decide +kernel
theorem dX5_twist_139 : decode cX5_twist 139 = .ok (.getfield 104, 3) := by decide +kernel
theorem dX5_twist_142 : decode cX5_twist 142 = .ok (.aload_n 0, 1) := by decide +kernel
theorem dX5_twist_143 : decode cX5_twist 143 = .ok (.getfield 15, 3) := by decide +kernel
theorem dX5_twist_146 : decode cX5_twist 146 = .ok (.iaload, 1) := by decide +kernel
theorem dX5_twist_147 : decode cX5_twist 147 = .ok (.iload 6, 2) := by decide +kernel
theorem dX5_twist_149 : decode cX5_twist 149 = .ok (.iastore, 1) := by decide +kernel
theorem dX5_twist_150 : decode cX5_twist 150 = .ok (.aload_n 0, 1) := by decide +kernel
theorem dX5_twist_151 : decode cX5_twist 151 = .ok (.aload_n 1, 1) := by decide +kernel
theorem dX5_twist_152 : decode cX5_twist 152 = .ok (.iload 4, 2) := by decide +kernel
theorem dX5_twist_154 : decode cX5_twist 154 = .ok (.iload 5, 2) := by decide +kernel
theorem dX5_twist_156 : decode cX5_twist 156 = .ok (.iload 6, 2) := by decide +kernel
theorem dX5_twist_158 : decode cX5_twist 158 = .ok (.invokevirtual 97, 3) := by decide +kernel
theorem dX5_twist_161 : decode cX5_twist 161 = .ok (.iconst 1, 1) := by decide +kernel
theorem dX5_twist_162 : decode cX5_twist 162 = .ok (.ireturn, 1) := by decide +kernel
theorem dX5_addKink_0 : decode cX5_addKink 0 = .ok (.aload_n 0, 1) := by decide +kernel
theorem dX5_addKink_1 : decode cX5_addKink 1 = .ok (.getfield 18, 3) := by decide +kernel
theorem dX5_addKink_4 : decode cX5_addKink 4 = .ok (.tableswitch 64 0 2 #[28, 40, 52], 28) := by decide +kernel
theorem dX5_addKink_32 : decode cX5_addKink 32 = .ok (.aload_n 1, 1) := by decide +kernel
theorem dX5_addKink_33 : decode cX5_addKink 33 = .ok (.iload_n 2, 1) := by decide +kernel
theorem dX5_addKink_34 : decode cX5_addKink 34 = .ok (.iload_n 3, 1) := by decide +kernel
theorem dX5_addKink_35 : decode cX5_addKink 35 = .ok (.iload_n 3, 1) := by decide +kernel
theorem dX5_addKink_36 : decode cX5_addKink 36 = .ok (.iload 4, 2) := by decide +kernel
theorem dX5_addKink_38 : decode cX5_addKink 38 = .ok (.invokevirtual 107, 3) := by decide +kernel
theorem dX5_addKink_41 : decode cX5_addKink 41 = .ok (.goto 36, 3) := by decide +kernel
theorem dX5_addKink_44 : decode cX5_addKink 44 = .ok (.aload_n 1, 1) := by decide +kernel
theorem dX5_addKink_45 : decode cX5_addKink 45 = .ok (.iload_n 2, 1) := by decide +kernel
theorem dX5_addKink_46 : decode cX5_addKink 46 = .ok (.iload 4, 2) := by decide +kernel
theorem dX5_addKink_48 : decode cX5_addKink 48 = .ok (.iload_n 3, 1) := by decide +kernel
theorem dX5_addKink_49 : decode cX5_addKink 49 = .ok (.iload_n 3, 1) := by decide +kernel
theorem dX5_addKink_50 : decode cX5_addKink 50 = .ok (.invokevirtual 107, 3) := by decide +kernel
theorem dX5_addKink_53 : decode cX5_addKink 53 = .ok (.goto 24, 3) := by decide +kernel
theorem dX5_addKink_56 : decode cX5_addKink 56 = .ok (.aload_n 1, 1) := by decide +kernel
theorem dX5_addKink_57 : decode cX5_addKink 57 = .ok (.iload_n 3, 1) := by decide +kernel
theorem dX5_addKink_58 : decode cX5_addKink 58 = .ok (.iload_n 3, 1) := by decide +kernel
theorem dX5_addKink_59 : decode cX5_addKink 59 = .ok (.iload 4, 2) := by decide +kernel
theorem dX5_addKink_61 : decode cX5_addKink 61 = .ok (.iload_n 2, 1) := by decide +kernel
theorem dX5_addKink_62 : decode cX5_addKink 62 = .ok (.invokevirtual 107, 3) := by decide +kernel
theorem dX5_addKink_65 : decode cX5_addKink 65 = .ok (.goto 12, 3) := by decide +kernel
theorem dX5_addKink_68 : decode cX5_addKink 68 = .ok (.aload_n 1, 1) := by decide +kernel
theorem dX5_addKink_69 : decode cX5_addKink 69 = .ok (.iload 4, 2) := by decide +kernel
theorem dX5_addKink_71 : decode cX5_addKink 71 = .ok (.iload_n 3, 1) := by decide +kernel
theorem dX5_addKink_72 : decode cX5_addKink 72 = .ok (.iload_n 3, 1) := by decide +kernel
theorem dX5_addKink_73 : decode cX5_addKink 73 = .ok (.iload_n 2, 1) := by decide +kernel
theorem dX5_addKink_74 : decode cX5_addKink 74 = .ok (.invokevirtual 107, 3) := by decide +kernel
theorem dX5_addKink_77 : decode cX5_addKink 77 = .ok (.return_, 1) := by decide +kernel
theorem dX5_poke_0 : decode cX5_poke 0 = .ok (.aload_n 2, 1) := by decide +kernel
theorem dX5_poke_1 : decode cX5_poke 1 = .ok (.aload_n 0, 1) := by decide +kernel
theorem dX5_poke_2 : decode cX5_poke 2 = .ok (.getfield 15, 3) := by decide +kernel
theorem dX5_poke_5 : decode cX5_poke 5 = .ok (.invokevirtual 85, 3) := by decide +kernel
theorem dX5_poke_8 : decode cX5_poke 8 = .ok (.ifCond .eq 71, 3) := by decide +kernel
theorem dX5_poke_11 : decode cX5_poke 11 = .ok (.aload_n 2, 1) := by decide +kernel
theorem dX5_poke_12 : decode cX5_poke 12 = .ok (.aload_n 0, 1) := by decide +kernel
theorem dX5_poke_13 : decode cX5_poke 13 = .ok (.getfield 18, 3) := by decide +kernel
theorem dX5_poke_16 : decode cX5_poke 16 = .ok (.invokevirtual 85, 3) := by decide +kernel
theorem dX5_poke_19 : decode cX5_poke 19 = .ok (.ifCond .eq 60, 3) := by decide +kernel
theorem dX5_poke_22 : decode cX5_poke 22 = .ok (.aload_n 0, 1) := by decide +kernel
theorem dX5_poke_23 : decode cX5_poke 23 = .ok (.getfield 21, 3) := by decide +kernel
theorem dX5_poke_26 : decode cX5_poke 26 = .ok (.ifCond .lt 53, 3) := by decide +kernel
theorem dX5_poke_29 : decode cX5_poke 29 = .ok (.aload_n 0, 1) := by decide +kernel
theorem dX5_poke_30 : decode cX5_poke 30 = .ok (.getfield 21, 3) := by decide +kernel
theorem dX5_poke_33 : decode cX5_poke 33 = .ok (.iconst 1, 1) := by decide +kernel
theorem dX5_poke_34 : decode cX5_poke 34 = .ok (.if_icmp .gt 45, 3) := by decide +kernel
theorem dX5_poke_37 : decode cX5_poke 37 = .ok (.aload_n 2, 1) := by decide +kernel
theorem dX5_poke_38 : decode cX5_poke 38 = .ok (.getfield 110, 3) := by decide +kernel
theorem dX5_poke_41 : decode cX5_poke 41 = .ok (.aload_n 0, 1) := by decide +kernel
theorem dX5_poke_42 : decode cX5_poke 42 = .ok (.getfield 15, 3) := by decide +kernel
theorem dX5_poke_45 : decode cX5_poke 45 = .ok (.iaload, 1) := by decide +kernel
theorem dX5_poke_46 : decode cX5_poke 46 = .ok (.aload_n 2, 1) := by decide +kernel
theorem dX5_poke_47 : decode cX5_poke 47 = .ok (.getfield 110, 3) := by decide +kernel
theorem dX5_poke_50 : decode cX5_poke 50 = .ok (.aload_n 0, 1) := by decide +kernel
theorem dX5_poke_51 : decode cX5_poke 51 = .ok (.getfield 18, 3) := by decide +kernel
theorem dX5_poke_54 : decode cX5_poke 54 = .ok (.iaload, 1) := by decide +kernel
theorem dX5_poke_55 : decode cX5_poke 55 = .ok (.if_icmp .ne 24, 3) := by decide +kernel
theorem dX5_poke_58 : decode cX5_poke 58 = .ok (.aload_n 1, 1) := by decide +kernel
theorem dX5_poke_59 : decode cX5_poke 59 = .ok (.getfield 101, 3) := by decide +kernel
theorem dX5_poke_62 : decode cX5_poke 62 = .ok (.aload_n 0, 1) := by decide +kernel
theorem dX5_poke_63 : decode cX5_poke 63 = .ok (.getfield 15, 3) := by decide +kernel
theorem dX5_poke_66 : decode cX5_poke 66 = .ok (.iaload, 1) := by decide +kernel
theorem dX5_poke_67 : decode cX5_poke 67 = .ok (.aload_n 1, 1) := by decide +kernel
theorem dX5_poke_68 : decode cX5_poke 68 = .ok (.getfield 101, 3) := by decide +kernel
theorem dX5_poke_71 : decode cX5_poke 71 = .ok (.aload_n 0, 1) := by decide +kernel
theorem dX5_poke_72 : decode cX5_poke 72 = .ok (.getfield 18, 3) := by decide +kernel
theorem dX5_poke_75 : decode cX5_poke 75 = .ok (.iaload, 1) := by decide +kernel
theorem dX5_poke_76 : decode cX5_poke 76 = .ok (.if_icmp .ne 6, 3) := by decide +kernel
theorem dX5_poke_79 : decode cX5_poke 79 = .ok (.bipush (-15), 2) := by decide +kernel
theorem dX5_poke_81 : decode cX5_poke 81 = .ok (.ireturn, 1) := by decide +kernel
theorem dX5_poke_82 : decode cX5_poke 82 = .ok (.aload_n 1, 1) := by decide +kernel
theorem dX5_poke_83 : decode cX5_poke 83 = .ok (.getfield 90, 3) := by decide +kernel
theorem dX5_poke_86 : decode cX5_poke 86 = .ok (.iconst 2, 1) := by decide +kernel
theorem dX5_poke_87 : decode cX5_poke 87 = .ok (.iadd, 1) := by decide +kernel
theorem dX5_poke_88 : decode cX5_poke 88 = .ok (.bipush 40, 2) := by decide +kernel
theorem dX5_poke_90 : decode cX5_poke 90 = .ok (.if_icmp .le 6, 3) := by decide +kernel
theorem dX5_poke_93 : decode cX5_poke 93 = .ok (.bipush (-18), 2) := by decide +kernel
theorem dX5_poke_95 : decode cX5_poke 95 = .ok (.ireturn, 1) := by decide +kernel
theorem dX5_poke_96 : decode cX5_poke 96 = .ok (.aload_n 1, 1) := by decide +kernel
theorem dX5_poke_97 : decode cX5_poke 97 = .ok (.getfield 101, 3) := by decide +kernel
theorem dX5_poke_100 : decode cX5_poke 100 = .ok (.aload_n 0, 1) := by decide +kernel
theorem dX5_poke_101 : decode cX5_poke 101 = .ok (.getfield 15, 3) := by decide +kernel
theorem dX5_poke_104 : decode cX5_poke 104 = .ok (.iaload, 1) := by decide +kernel
theorem dX5_poke_105 : decode cX5_poke 105 = .ok (.istore_n 3, 1) := by decide +kernel
theorem dX5_poke_106 : decode cX5_poke 106 = .ok (.aload_n 1, 1) := by decide +kernel
theorem dX5_poke_107 : decode cX5_poke 107 = .ok (.getfield 101, 3) := by decide +kernel
theorem dX5_poke_110 : decode cX5_poke 110 = .ok (.aload_n 0, 1) := by decide +kernel
theorem dX5_poke_111 : decode cX5_poke 111 = .ok (.getfield 18, 3) := by decide +kernel
theorem dX5_poke_114 : decode cX5_poke 114 = .ok (.iaload, 1) := by decide +kernel
theorem dX5_poke_115 : decode cX5_poke 115 = .ok (.istore 4, 2) := by decide +kernel
theorem dX5_poke_117 : decode cX5_poke 117 = .ok (.aload_n 1, 1) := by decide +kernel
theorem dX5_poke_118 : decode cX5_poke 118 = .ok (.iconst (-1), 1) := by decide +kernel
theorem dX5_poke_119 : decode cX5_poke 119 = .ok (.invokevirtual 93, 3) := by decide +kernel
theorem dX5_poke_122 : decode cX5_poke 122 = .ok (.istore 5, 2) := by decide +kernel
theorem dX5_poke_124 : decode cX5_poke 124 = .ok (.aload_n 1, 1) := by decide +kernel
theorem dX5_poke_125 : decode cX5_poke 125 = .ok (.iload 5, 2) := by decide +kernel
theorem dX5_poke_127 : decode cX5_poke 127 = .ok (.invokevirtual 93, 3) := by decide +kernel
theorem dX5_poke_130 : decode cX5_poke 130 = .ok (.istore 6, 2) := by decide +kernel
theorem dX5_poke_132 : decode cX5_poke 132 = .ok (.aload_n 1, 1) := by decide +kernel
theorem dX5_poke_133 : decode cX5_poke 133 = .ok (.iload 6, 2) := by decide +kernel
theorem dX5_poke_135 : decode cX5_poke 135 = .ok (.invokevirtual 93, 3) := by decide +kernel
theorem dX5_poke_138 : decode cX5_poke 138 = .ok (.istore 7, 2) := by decide +kernel
theorem dX5_poke_140 : decode cX5_poke 140 = .ok (.aload_n 1, 1) := by decide +kernel
theorem dX5_poke_141 : decode cX5_poke 141 = .ok (.iload 7, 2) := by decide +kernel
theorem dX5_poke_143 : decode cX5_poke 143 = .ok (.invokevirtual 93, 3) := by decide +kernel
theorem dX5_poke_146 : decode cX5_poke 146 = .ok (.istore 8, 2) := by decide +kernel
theorem dX5_poke_148 : decode cX5_poke 148 = .ok (.aload_n 1, 1) := by decide +kernel
theorem dX5_poke_149 : decode cX5_poke 149 = .ok (.getfield 101, 3) := by decide +kernel
theorem dX5_poke_152 : decode cX5_poke 152 = .ok (.aload_n 2, 1) := by decide +kernel
theorem dX5_poke_153 : decode cX5_poke 153 = .ok (.getfield 104, 3) := by decide +kernel
theorem dX5_poke_156 : decode cX5_poke 156 = .ok (.aload_n 0, 1) := by decide +kernel
theorem dX5_poke_157 : decode cX5_poke 157 = .ok (.getfield 15, 3) := by decide +kernel
theorem dX5_poke_160 : decode cX5_poke 160 = .ok (.iaload, 1) := by decide +kernel
theorem dX5_poke_161 : decode cX5_poke 161 = .ok (.iload 6, 2) := by decide +kernel
theorem dX5_poke_163 : decode cX5_poke 163 = .ok (.iastore, 1) := by decide +kernel
theorem dX5_poke_164 : decode cX5_poke 164 = .ok (.aload_n 1, 1) := by decide +kernel
theorem dX5_poke_165 : decode cX5_poke 165 = .ok (.getfield 101, 3) := by decide +kernel
theorem dX5_poke_168 : decode cX5_poke 168 = .ok (.aload_n 2, 1) := by decide +kernel
theorem dX5_poke_169 : decode cX5_poke 169 = .ok (.getfield 104, 3) := by decide +kernel
theorem dX5_poke_172 : decode cX5_poke 172 = .ok (.aload_n 0, 1) := by decide +kernel
theorem dX5_poke_173 : decode cX5_poke 173 = .ok (.getfield 18, 3) := by decide +kernel
theorem dX5_poke_176 : decode cX5_poke 176 = .ok (.iaload, 1) := by decide +kernel
theorem dX5_poke_177 : decode cX5_poke 177 = .ok (.iload 8, 2) := by decide +kernel
theorem dX5_poke_179 : decode cX5_poke 179 = .ok (.iastore, 1) := by decide +kernel
theorem dX5_poke_180 : decode cX5_poke 180 = .ok (.aload_n 0, 1) := by decide +kernel
theorem dX5_poke_181 : decode cX5_poke 181 = .ok (.getfield 21, 3) := by decide +kernel
theorem dX5_poke_184 : decode cX5_poke 184 = .ok (.ifCond .ne 29, 3) := by decide +kernel
theorem dX5_poke_187 : decode cX5_poke 187 = .ok (.aload_n 1, 1) := by decide +kernel
theorem dX5_poke_188 : decode cX5_poke 188 = .ok (.iload 7, 2) := by decide +kernel
theorem dX5_poke_190 : decode cX5_poke 190 = .ok (.iload 5, 2) := by decide +kernel
theorem dX5_poke_192 : decode cX5_poke 192 = .ok (.iload 8, 2) := by decide +kernel
theorem dX5_poke_194 : decode cX5_poke 194 = .ok (.iload_n 3, 1) := by decide +kernel
theorem dX5_poke_195 : decode cX5_poke 195 = .ok (.invokevirtual 107, 3) := by decide +kernel
theorem dX5_poke_198 : decode cX5_poke 198 = .ok (.aload_n 1, 1) := by decide +kernel
theorem dX5_poke_199 : decode cX5_poke 199 = .ok (.iload 4, 2) := by decide +kernel
theorem dX5_poke_201 : decode cX5_poke 201 = .ok (.iload 5, 2) := by decide +kernel
theorem dX5_poke_203 : decode cX5_poke 203 = .ok (.iload 7, 2) := by decide +kernel
theorem dX5_poke_205 : decode cX5_poke 205 = .ok (.iload 6, 2) := by decide +kernel
theorem dX5_poke_207 : decode cX5_poke 207 = .ok (.invokevirtual 107, 3) := by decide +kernel
theorem dX5_poke_210 : decode cX5_poke 210 = .ok (.goto 26, 3) := by decide +kernel
theorem dX5_poke_213 : decode cX5_poke 213 = .ok (.aload_n 1, 1) := by decide +kernel
theorem dX5_poke_214 : decode cX5_poke 214 = .ok (.iload_n 3, 1) := by decide +kernel
theorem dX5_poke_215 : decode cX5_poke 215 = .ok (.iload 7, 2) := by decide +kernel
theorem dX5_poke_217 : decode cX5_poke 217 = .ok (.iload 5, 2) := by decide +kernel
theorem dX5_poke_219 : decode cX5_poke 219 = .ok (.iload 8, 2) := by decide +kernel
theorem dX5_poke_221 : decode cX5_poke 221 = .ok (.invokevirtual 107, 3) := by decide +kernel
theorem dX5_poke_224 : decode cX5_poke 224 = .ok (.aload_n 1, 1) := by decide +kernel
theorem dX5_poke_225 : decode cX5_poke 225 = .ok (.iload 6, 2) := by decide +kernel
theorem dX5_poke_227 : decode cX5_poke 227 = .ok (.iload 4, 2) := by decide +kernel
theorem dX5_poke_229 : decode cX5_poke 229 = .ok (.iload 5, 2) := by decide +kernel
theorem dX5_poke_231 : decode cX5_poke 231 = .ok (.iload 7, 2) := by decide +kernel
theorem dX5_poke_233 : decode cX5_poke 233 = .ok (.invokevirtual 107, 3) := by decide +kernel
theorem dX5_poke_236 : decode cX5_poke 236 = .ok (.iconst 1, 1) := by decide +kernel
theorem dX5_poke_237 : decode cX5_poke 237 = .ok (.ireturn, 1) := by decide +kernel
theorem dX5_isKink_0 : decode cX5_isKink 0 = .ok (.aload_n 0, 1) := by decide +kernel
theorem dX5_isKink_1 : decode cX5_isKink 1 = .ok (.iload_n 1, 1) := by decide +kernel
theorem dX5_isKink_2 : decode cX5_isKink 2 = .ok (.invokevirtual 85, 3) := by decide +kernel
theorem dX5_isKink_5 : decode cX5_isKink 5 = .ok (.ifCond .eq 21, 3) := by decide +kernel
theorem dX5_isKink_8 : decode cX5_isKink 8 = .ok (.aload_n 0, 1) := by decide +kernel
theorem dX5_isKink_9 : decode cX5_isKink 9 = .ok (.getfield 104, 3) := by decide +kernel
theorem dX5_isKink_12 : decode cX5_isKink 12 = .ok (.iload_n 1, 1) := by decide +kernel
theorem dX5_isKink_13 : decode cX5_isKink 13 = .ok (.iaload, 1) := by decide +kernel
theorem dX5_isKink_14 : decode cX5_isKink 14 = .ok (.iload_n 1, 1) := by decide +kernel
theorem dX5_isKink_15 : decode cX5_isKink 15 = .ok (.iconst 1, 1) := by decide +kernel
theorem dX5_isKink_16 : decode cX5_isKink 16 = .ok (.invokestatic 66, 3) := by decide +kernel
theorem dX5_isKink_19 : decode cX5_isKink 19 = .ok (.if_icmp .ne 7, 3) := by decide +kernel
theorem dX5_isKink_22 : decode cX5_isKink 22 = .ok (.iconst 1, 1) := by decide +kernel
theorem dX5_isKink_23 : decode cX5_isKink 23 = .ok (.goto 4, 3) := by decide +kernel
theorem dX5_isKink_26 : decode cX5_isKink 26 = .ok (.iconst 0, 1) := by decide +kernel
theorem dX5_isKink_27 : decode cX5_isKink 27 = .ok (.ireturn, 1) := by decide +kernel
theorem dX5_untwist_0 : decode cX5_untwist 0 = .ok (.aload_n 1, 1) := by decide +kernel
theorem dX5_untwist_1 : decode cX5_untwist 1 = .ok (.iload_n 2, 1) := by decide +kernel
theorem dX5_untwist_2 : decode cX5_untwist 2 = .ok (.invokestatic 70, 3) := by decide +kernel
theorem dX5_untwist_5 : decode cX5_untwist 5 = .ok (.ifCond .ne 6, 3) := by decide +kernel
theorem dX5_untwist_8 : decode cX5_untwist 8 = .ok (.bipush (-15), 2) := by decide +kernel
theorem dX5_untwist_10 : decode cX5_untwist 10 = .ok (.ireturn, 1) := by decide +kernel
theorem dX5_untwist_11 : decode cX5_untwist 11 = .ok (.aload_n 0, 1) := by decide +kernel
theorem dX5_untwist_12 : decode cX5_untwist 12 = .ok (.aload_n 0, 1) := by decide +kernel
theorem dX5_untwist_13 : decode cX5_untwist 13 = .ok (.getfield 101, 3) := by decide +kernel
theorem dX5_untwist_16 : decode cX5_untwist 16 = .ok (.iload_n 2, 1) := by decide +kernel
theorem dX5_untwist_17 : decode cX5_untwist 17 = .ok (.iconst 2, 1) := by decide +kernel
theorem dX5_untwist_18 : decode cX5_untwist 18 = .ok (.invokestatic 66, 3) := by decide +kernel
theorem dX5_untwist_21 : decode cX5_untwist 21 = .ok (.iaload, 1) := by decide +kernel
theorem dX5_untwist_22 : decode cX5_untwist 22 = .ok (.aload_n 0, 1) := by decide +kernel
theorem dX5_untwist_23 : decode cX5_untwist 23 = .ok (.getfield 101, 3) := by decide +kernel
theorem dX5_untwist_26 : decode cX5_untwist 26 = .ok (.iload_n 2, 1) := by decide +kernel
theorem dX5_untwist_27 : decode cX5_untwist 27 = .ok (.iconst 3, 1) := by decide +kernel
theorem dX5_untwist_28 : decode cX5_untwist 28 = .ok (.invokestatic 66, 3) := by decide +kernel
theorem dX5_untwist_31 : decode cX5_untwist 31 = .ok (.iaload, 1) := by decide +kernel
theorem dX5_untwist_32 : decode cX5_untwist 32 = .ok (.invokevirtual 113, 3) := by decide +kernel
theorem dX5_untwist_35 : decode cX5_untwist 35 = .ok (.aload_n 0, 1) := by decide +kernel
theorem dX5_untwist_36 : decode cX5_untwist 36 = .ok (.iload_n 2, 1) := by decide +kernel
theorem dX5_untwist_37 : decode cX5_untwist 37 = .ok (.iconst 2, 1) := by decide +kernel
theorem dX5_untwist_38 : decode cX5_untwist 38 = .ok (.ishr, 1) := by decide +kernel
theorem dX5_untwist_39 : decode cX5_untwist 39 = .ok (.invokevirtual 117, 3) := by decide +kernel
theorem dX5_untwist_42 : decode cX5_untwist 42 = .ok (.aload_n 0, 1) := by decide +kernel
theorem dX5_untwist_43 : decode cX5_untwist 43 = .ok (.invokestatic 121, 3) := by decide +kernel
theorem dX5_untwist_46 : decode cX5_untwist 46 = .ok (.ireturn, 1) := by decide +kernel
theorem dX5_isLens_0 : decode cX5_isLens 0 = .ok (.aload_n 0, 1) := by decide +kernel
theorem dX5_isLens_1 : decode cX5_isLens 1 = .ok (.iload_n 1, 1) := by decide +kernel
theorem dX5_isLens_2 : decode cX5_isLens 2 = .ok (.invokevirtual 85, 3) := by decide +kernel
theorem dX5_isLens_5 : decode cX5_isLens 5 = .ok (.ifCond .ne 5, 3) := by decide +kernel
theorem dX5_isLens_8 : decode cX5_isLens 8 = .ok (.iconst 0, 1) := by decide +kernel
theorem dX5_isLens_9 : decode cX5_isLens 9 = .ok (.ireturn, 1) := by decide +kernel
theorem dX5_isLens_10 : decode cX5_isLens 10 = .ok (.aload_n 0, 1) := by decide +kernel
theorem dX5_isLens_11 : decode cX5_isLens 11 = .ok (.getfield 104, 3) := by decide +kernel
theorem dX5_isLens_14 : decode cX5_isLens 14 = .ok (.iload_n 1, 1) := by decide +kernel
theorem dX5_isLens_15 : decode cX5_isLens 15 = .ok (.iaload, 1) := by decide +kernel
theorem dX5_isLens_16 : decode cX5_isLens 16 = .ok (.istore_n 2, 1) := by decide +kernel
theorem dX5_isLens_17 : decode cX5_isLens 17 = .ok (.aload_n 0, 1) := by decide +kernel
theorem dX5_isLens_18 : decode cX5_isLens 18 = .ok (.iload_n 1, 1) := by decide +kernel
theorem dX5_isLens_19 : decode cX5_isLens 19 = .ok (.invokevirtual 124, 3) := by decide +kernel
theorem dX5_isLens_22 : decode cX5_isLens 22 = .ok (.istore_n 3, 1) := by decide +kernel
theorem dX5_isLens_23 : decode cX5_isLens 23 = .ok (.aload_n 0, 1) := by decide +kernel
theorem dX5_isLens_24 : decode cX5_isLens 24 = .ok (.iload_n 3, 1) := by decide +kernel
theorem dX5_isLens_25 : decode cX5_isLens 25 = .ok (.invokevirtual 124, 3) := by decide +kernel
theorem dX5_isLens_28 : decode cX5_isLens 28 = .ok (.iload_n 1, 1) := by decide +kernel
theorem dX5_isLens_29 : decode cX5_isLens 29 = .ok (.if_icmp .ne 24, 3) := by decide +kernel
theorem dX5_isLens_32 : decode cX5_isLens 32 = .ok (.iload_n 3, 1) := by decide +kernel
theorem dX5_isLens_33 : decode cX5_isLens 33 = .ok (.iconst 2, 1) := by decide +kernel
theorem dX5_isLens_34 : decode cX5_isLens 34 = .ok (.ishr, 1) := by decide +kernel
theorem dX5_isLens_35 : decode cX5_isLens 35 = .ok (.iload_n 1, 1) := by decide +kernel
theorem dX5_isLens_36 : decode cX5_isLens 36 = .ok (.iconst 2, 1) := by decide +kernel
theorem dX5_isLens_37 : decode cX5_isLens 37 = .ok (.ishr, 1) := by decide +kernel
theorem dX5_isLens_38 : decode cX5_isLens 38 = .ok (.if_icmp .eq 15, 3) := by decide +kernel
theorem dX5_isLens_41 : decode cX5_isLens 41 = .ok (.iload_n 1, 1) := by decide +kernel
theorem dX5_isLens_42 : decode cX5_isLens 42 = .ok (.iload_n 2, 1) := by decide +kernel
theorem dX5_isLens_43 : decode cX5_isLens 43 = .ok (.ixor, 1) := by decide +kernel
theorem dX5_isLens_44 : decode cX5_isLens 44 = .ok (.iconst 1, 1) := by decide +kernel
theorem dX5_isLens_45 : decode cX5_isLens 45 = .ok (.iand, 1) := by decide +kernel
theorem dX5_isLens_46 : decode cX5_isLens 46 = .ok (.ifCond .ne 7, 3) := by decide +kernel
theorem dX5_isLens_49 : decode cX5_isLens 49 = .ok (.iconst 1, 1) := by decide +kernel
theorem dX5_isLens_50 : decode cX5_isLens 50 = .ok (.goto 4, 3) := by decide +kernel
theorem dX5_isLens_53 : decode cX5_isLens 53 = .ok (.iconst 0, 1) := by decide +kernel
theorem dX5_isLens_54 : decode cX5_isLens 54 = .ok (.ireturn, 1) := by decide +kernel
theorem dX5_unpoke_0 : decode cX5_unpoke 0 = .ok (.aload_n 1, 1) := by decide +kernel
theorem dX5_unpoke_1 : decode cX5_unpoke 1 = .ok (.iload_n 2, 1) := by decide +kernel
theorem dX5_unpoke_2 : decode cX5_unpoke 2 = .ok (.invokestatic 74, 3) := by decide +kernel
theorem dX5_unpoke_5 : decode cX5_unpoke 5 = .ok (.ifCond .ne 6, 3) := by decide +kernel
theorem dX5_unpoke_8 : decode cX5_unpoke 8 = .ok (.bipush (-15), 2) := by decide +kernel
theorem dX5_unpoke_10 : decode cX5_unpoke 10 = .ok (.ireturn, 1) := by decide +kernel
theorem dX5_unpoke_11 : decode cX5_unpoke 11 = .ok (.aload_n 1, 1) := by decide +kernel
theorem dX5_unpoke_12 : decode cX5_unpoke 12 = .ok (.getfield 104, 3) := by decide +kernel
theorem dX5_unpoke_15 : decode cX5_unpoke 15 = .ok (.iload_n 2, 1) := by decide +kernel
theorem dX5_unpoke_16 : decode cX5_unpoke 16 = .ok (.iaload, 1) := by decide +kernel
theorem dX5_unpoke_17 : decode cX5_unpoke 17 = .ok (.istore_n 3, 1) := by decide +kernel
theorem dX5_unpoke_18 : decode cX5_unpoke 18 = .ok (.aload_n 0, 1) := by decide +kernel
theorem dX5_unpoke_19 : decode cX5_unpoke 19 = .ok (.aload_n 0, 1) := by decide +kernel
theorem dX5_unpoke_20 : decode cX5_unpoke 20 = .ok (.getfield 101, 3) := by decide +kernel
theorem dX5_unpoke_23 : decode cX5_unpoke 23 = .ok (.iload_n 2, 1) := by decide +kernel
theorem dX5_unpoke_24 : decode cX5_unpoke 24 = .ok (.iconst 2, 1) := by decide +kernel
theorem dX5_unpoke_25 : decode cX5_unpoke 25 = .ok (.invokestatic 66, 3) := by decide +kernel
theorem dX5_unpoke_28 : decode cX5_unpoke 28 = .ok (.iaload, 1) := by decide +kernel
theorem dX5_unpoke_29 : decode cX5_unpoke 29 = .ok (.aload_n 0, 1) := by decide +kernel
theorem dX5_unpoke_30 : decode cX5_unpoke 30 = .ok (.getfield 101, 3) := by decide +kernel
theorem dX5_unpoke_33 : decode cX5_unpoke 33 = .ok (.iload_n 3, 1) := by decide +kernel
theorem dX5_unpoke_34 : decode cX5_unpoke 34 = .ok (.iconst 2, 1) := by decide +kernel
theorem dX5_unpoke_35 : decode cX5_unpoke 35 = .ok (.invokestatic 66, 3) := by decide +kernel
theorem dX5_unpoke_38 : decode cX5_unpoke 38 = .ok (.iaload, 1) := by decide +kernel
theorem dX5_unpoke_39 : decode cX5_unpoke 39 = .ok (.invokevirtual 113, 3) := by decide +kernel
theorem dX5_unpoke_42 : decode cX5_unpoke 42 = .ok (.aload_n 0, 1) := by decide +kernel
theorem dX5_unpoke_43 : decode cX5_unpoke 43 = .ok (.aload_n 0, 1) := by decide +kernel
theorem dX5_unpoke_44 : decode cX5_unpoke 44 = .ok (.getfield 101, 3) := by decide +kernel
theorem dX5_unpoke_47 : decode cX5_unpoke 47 = .ok (.iload_n 2, 1) := by decide +kernel
theorem dX5_unpoke_48 : decode cX5_unpoke 48 = .ok (.iconst 3, 1) := by decide +kernel
theorem dX5_unpoke_49 : decode cX5_unpoke 49 = .ok (.invokestatic 66, 3) := by decide +kernel
theorem dX5_unpoke_52 : decode cX5_unpoke 52 = .ok (.iaload, 1) := by decide +kernel
theorem dX5_unpoke_53 : decode cX5_unpoke 53 = .ok (.aload_n 0, 1) := by decide +kernel
theorem dX5_unpoke_54 : decode cX5_unpoke 54 = .ok (.getfield 101, 3) := by decide +kernel
theorem dX5_unpoke_57 : decode cX5_unpoke 57 = .ok (.iload_n 3, 1) := by decide +kernel
theorem dX5_unpoke_58 : decode cX5_unpoke 58 = .ok (.iconst 1, 1) := by decide +kernel
theorem dX5_unpoke_59 : decode cX5_unpoke 59 = .ok (.invokestatic 66, 3) := by decide +kernel
theorem dX5_unpoke_62 : decode cX5_unpoke 62 = .ok (.iaload, 1) := by decide +kernel
theorem dX5_unpoke_63 : decode cX5_unpoke 63 = .ok (.invokevirtual 113, 3) := by decide +kernel
theorem dX5_unpoke_66 : decode cX5_unpoke 66 = .ok (.aload_n 0, 1) := by decide +kernel
theorem dX5_unpoke_67 : decode cX5_unpoke 67 = .ok (.iload_n 2, 1) := by decide +kernel
theorem dX5_unpoke_68 : decode cX5_unpoke 68 = .ok (.iconst 2, 1) := by decide +kernel
theorem dX5_unpoke_69 : decode cX5_unpoke 69 = .ok (.ishr, 1) := by decide +kernel
theorem dX5_unpoke_70 : decode cX5_unpoke 70 = .ok (.iload_n 3, 1) := by decide +kernel
theorem dX5_unpoke_71 : decode cX5_unpoke 71 = .ok (.iconst 2, 1) := by decide +kernel
theorem dX5_unpoke_72 : decode cX5_unpoke 72 = .ok (.ishr, 1) := by decide +kernel
theorem dX5_unpoke_73 : decode cX5_unpoke 73 = .ok (.invokestatic 127, 3) := by decide +kernel
theorem dX5_unpoke_76 : decode cX5_unpoke 76 = .ok (.invokevirtual 117, 3) := by decide +kernel
theorem dX5_unpoke_79 : decode cX5_unpoke 79 = .ok (.aload_n 0, 1) := by decide +kernel
theorem dX5_unpoke_80 : decode cX5_unpoke 80 = .ok (.iload_n 2, 1) := by decide +kernel
theorem dX5_unpoke_81 : decode cX5_unpoke 81 = .ok (.iconst 2, 1) := by decide +kernel
theorem dX5_unpoke_82 : decode cX5_unpoke 82 = .ok (.ishr, 1) := by decide +kernel
theorem dX5_unpoke_83 : decode cX5_unpoke 83 = .ok (.iload_n 3, 1) := by decide +kernel
theorem dX5_unpoke_84 : decode cX5_unpoke 84 = .ok (.iconst 2, 1) := by decide +kernel
theorem dX5_unpoke_85 : decode cX5_unpoke 85 = .ok (.ishr, 1) := by decide +kernel
theorem dX5_unpoke_86 : decode cX5_unpoke 86 = .ok (.invokestatic 132, 3) := by decide +kernel
theorem dX5_unpoke_89 : decode cX5_unpoke 89 = .ok (.invokevirtual 117, 3) := by decide +kernel
theorem dX5_unpoke_92 : decode cX5_unpoke 92 = .ok (.aload_n 0, 1) := by decide +kernel
theorem dX5_unpoke_93 : decode cX5_unpoke 93 = .ok (.invokestatic 121, 3) := by decide +kernel
theorem dX5_unpoke_96 : decode cX5_unpoke 96 = .ok (.ireturn, 1) := by decide +kernel
theorem dX5_isOver_0 : decode cX5_isOver 0 = .ok (.iload_n 1, 1) := by decide +kernel
theorem dX5_isOver_1 : decode cX5_isOver 1 = .ok (.aload_n 0, 1) := by decide +kernel
theorem dX5_isOver_2 : decode cX5_isOver 2 = .ok (.getfield 104, 3) := by decide +kernel
theorem dX5_isOver_5 : decode cX5_isOver 5 = .ok (.iload_n 1, 1) := by decide +kernel
theorem dX5_isOver_6 : decode cX5_isOver 6 = .ok (.iaload, 1) := by decide +kernel
theorem dX5_isOver_7 : decode cX5_isOver 7 = .ok (.iand, 1) := by decide +kernel
theorem dX5_isOver_8 : decode cX5_isOver 8 = .ok (.iconst 1, 1) := by decide +kernel
theorem dX5_isOver_9 : decode cX5_isOver 9 = .ok (.iand, 1) := by decide +kernel
theorem dX5_isOver_10 : decode cX5_isOver 10 = .ok (.iconst 1, 1) := by decide +kernel
theorem dX5_isOver_11 : decode cX5_isOver 11 = .ok (.if_icmp .ne 7, 3) := by decide +kernel
theorem dX5_isOver_14 : decode cX5_isOver 14 = .ok (.iconst 1, 1) := by decide +kernel
theorem dX5_isOver_15 : decode cX5_isOver 15 = .ok (.goto 4, 3) := by decide +kernel
theorem dX5_isOver_18 : decode cX5_isOver 18 = .ok (.iconst 0, 1) := by decide +kernel
theorem dX5_isOver_19 : decode cX5_isOver 19 = .ok (.ireturn, 1) := by decide +kernel
theorem dX5_isTriangle_0 : decode cX5_isTriangle 0 = .ok (.aload_n 0, 1) := by decide +kernel
theorem dX5_isTriangle_1 : decode cX5_isTriangle 1 = .ok (.iload_n 1, 1) := by decide +kernel
theorem dX5_isTriangle_2 : decode cX5_isTriangle 2 = .ok (.invokevirtual 85, 3) := by decide +kernel
theorem dX5_isTriangle_5 : decode cX5_isTriangle 5 = .ok (.ifCond .ne 5, 3) := by decide +kernel
theorem dX5_isTriangle_8 : decode cX5_isTriangle 8 = .ok (.iconst 0, 1) := by decide +kernel
theorem dX5_isTriangle_9 : decode cX5_isTriangle 9 = .ok (.ireturn, 1) := by decide +kernel
theorem dX5_isTriangle_10 : decode cX5_isTriangle 10 = .ok (.aload_n 0, 1) := by decide +kernel
theorem dX5_isTriangle_11 : decode cX5_isTriangle 11 = .ok (.iload_n 1, 1) := by decide +kernel
theorem dX5_isTriangle_12 : decode cX5_isTriangle 12 = .ok (.invokevirtual 124, 3) := by decide +kernel
theorem dX5_isTriangle_15 : decode cX5_isTriangle 15 = .ok (.istore_n 2, 1) := by decide +kernel
theorem dX5_isTriangle_16 : decode cX5_isTriangle 16 = .ok (.aload_n 0, 1) := by decide +kernel
theorem dX5_isTriangle_17 : decode cX5_isTriangle 17 = .ok (.iload_n 2, 1) := by decide +kernel
theorem dX5_isTriangle_18 : decode cX5_isTriangle 18 = .ok (.invokevirtual 124, 3) := by decide +kernel
theorem dX5_isTriangle_21 : decode cX5_isTriangle 21 = .ok (.istore_n 3, 1) := by decide +kernel
theorem dX5_isTriangle_22 : decode cX5_isTriangle 22 = .ok (.aload_n 0, 1) := by decide +kernel
theorem dX5_isTriangle_23 : decode cX5_isTriangle 23 = .ok (.iload_n 3, 1) := by decide +kernel
theorem dX5_isTriangle_24 : decode cX5_isTriangle 24 = .ok (.invokevirtual 124, 3) := by decide +kernel
theorem dX5_isTriangle_27 : decode cX5_isTriangle 27 = .ok (.iload_n 1, 1) := by decide +kernel
theorem dX5_isTriangle_28 : decode cX5_isTriangle 28 = .ok (.if_icmp .ne 58, 3) := by decide +kernel
theorem dX5_isTriangle_31 : decode cX5_isTriangle 31 = .ok (.iload_n 1, 1) := by decide +kernel
theorem dX5_isTriangle_32 : decode cX5_isTriangle 32 = .ok (.iconst 2, 1) := by decide +kernel
theorem dX5_isTriangle_33 : decode cX5_isTriangle 33 = .ok (.ishr, 1) := by decide +kernel
theorem dX5_isTriangle_34 : decode cX5_isTriangle 34 = .ok (.iload_n 2, 1) := by decide +kernel
theorem dX5_isTriangle_35 : decode cX5_isTriangle 35 = .ok (.iconst 2, 1) := by decide +kernel
theorem dX5_isTriangle_36 : decode cX5_isTriangle 36 = .ok (.ishr, 1) := by decide +kernel
theorem dX5_isTriangle_37 : decode cX5_isTriangle 37 = .ok (.if_icmp .eq 49, 3) := by decide +kernel
theorem dX5_isTriangle_40 : decode cX5_isTriangle 40 = .ok (.iload_n 2, 1) := by decide +kernel
theorem dX5_isTriangle_41 : decode cX5_isTriangle 41 = .ok (.iconst 2, 1) := by decide +kernel
theorem dX5_isTriangle_42 : decode cX5_isTriangle 42 = .ok (.ishr, 1) := by decide +kernel
theorem dX5_isTriangle_43 : decode cX5_isTriangle 43 = .ok (.iload_n 3, 1) := by decide +kernel
theorem dX5_isTriangle_44 : decode cX5_isTriangle 44 = .ok (.iconst 2, 1) := by decide +kernel
theorem dX5_isTriangle_45 : decode cX5_isTriangle 45 = .ok (.ishr, 1) := by decide +kernel
theorem dX5_isTriangle_46 : decode cX5_isTriangle 46 = .ok (.if_icmp .eq 40, 3) := by decide +kernel
theorem dX5_isTriangle_49 : decode cX5_isTriangle 49 = .ok (.iload_n 3, 1) := by decide +kernel
theorem dX5_isTriangle_50 : decode cX5_isTriangle 50 = .ok (.iconst 2, 1) := by decide +kernel
theorem dX5_isTriangle_51 : decode cX5_isTriangle 51 = .ok (.ishr, 1) := by decide +kernel
theorem dX5_isTriangle_52 : decode cX5_isTriangle 52 = .ok (.iload_n 1, 1) := by decide +kernel
theorem dX5_isTriangle_53 : decode cX5_isTriangle 53 = .ok (.iconst 2, 1) := by decide +kernel
theorem dX5_isTriangle_54 : decode cX5_isTriangle 54 = .ok (.ishr, 1) := by decide +kernel
theorem dX5_isTriangle_55 : decode cX5_isTriangle 55 = .ok (.if_icmp .eq 31, 3) := by decide +kernel
theorem dX5_isTriangle_58 : decode cX5_isTriangle 58 = .ok (.aload_n 0, 1) := by decide +kernel
theorem dX5_isTriangle_59 : decode cX5_isTriangle 59 = .ok (.iload_n 1, 1) := by decide +kernel
theorem dX5_isTriangle_60 : decode cX5_isTriangle 60 = .ok (.invokestatic 135, 3) := by decide +kernel
theorem dX5_isTriangle_63 : decode cX5_isTriangle 63 = .ok (.ifCond .ne 19, 3) := by decide +kernel
theorem dX5_isTriangle_66 : decode cX5_isTriangle 66 = .ok (.aload_n 0, 1) := by decide +kernel
theorem dX5_isTriangle_67 : decode cX5_isTriangle 67 = .ok (.iload_n 2, 1) := by decide +kernel
theorem dX5_isTriangle_68 : decode cX5_isTriangle 68 = .ok (.invokestatic 135, 3) := by decide +kernel
theorem dX5_isTriangle_71 : decode cX5_isTriangle 71 = .ok (.ifCond .ne 11, 3) := by decide +kernel
theorem dX5_isTriangle_74 : decode cX5_isTriangle 74 = .ok (.aload_n 0, 1) := by decide +kernel
theorem dX5_isTriangle_75 : decode cX5_isTriangle 75 = .ok (.iload_n 3, 1) := by decide +kernel
theorem dX5_isTriangle_76 : decode cX5_isTriangle 76 = .ok (.invokestatic 135, 3) := by decide +kernel
theorem dX5_isTriangle_79 : decode cX5_isTriangle 79 = .ok (.ifCond .eq 7, 3) := by decide +kernel
theorem dX5_isTriangle_82 : decode cX5_isTriangle 82 = .ok (.iconst 1, 1) := by decide +kernel
theorem dX5_isTriangle_83 : decode cX5_isTriangle 83 = .ok (.goto 4, 3) := by decide +kernel
theorem dX5_isTriangle_86 : decode cX5_isTriangle 86 = .ok (.iconst 0, 1) := by decide +kernel
theorem dX5_isTriangle_87 : decode cX5_isTriangle 87 = .ok (.ireturn, 1) := by decide +kernel
theorem dX5_slide_0 : decode cX5_slide 0 = .ok (.aload_n 1, 1) := by decide +kernel
theorem dX5_slide_1 : decode cX5_slide 1 = .ok (.iload_n 2, 1) := by decide +kernel
theorem dX5_slide_2 : decode cX5_slide 2 = .ok (.invokestatic 77, 3) := by decide +kernel
theorem dX5_slide_5 : decode cX5_slide 5 = .ok (.ifCond .ne 6, 3) := by decide +kernel
theorem dX5_slide_8 : decode cX5_slide 8 = .ok (.bipush (-15), 2) := by decide +kernel
theorem dX5_slide_10 : decode cX5_slide 10 = .ok (.ireturn, 1) := by decide +kernel
theorem dX5_slide_11 : decode cX5_slide 11 = .ok (.aload_n 1, 1) := by decide +kernel
theorem dX5_slide_12 : decode cX5_slide 12 = .ok (.iload_n 2, 1) := by decide +kernel
theorem dX5_slide_13 : decode cX5_slide 13 = .ok (.invokevirtual 124, 3) := by decide +kernel
theorem dX5_slide_16 : decode cX5_slide 16 = .ok (.istore_n 3, 1) := by decide +kernel
theorem dX5_slide_17 : decode cX5_slide 17 = .ok (.aload_n 1, 1) := by decide +kernel
theorem dX5_slide_18 : decode cX5_slide 18 = .ok (.iload_n 3, 1) := by decide +kernel
theorem dX5_slide_19 : decode cX5_slide 19 = .ok (.invokevirtual 124, 3) := by decide +kernel
theorem dX5_slide_22 : decode cX5_slide 22 = .ok (.istore 4, 2) := by decide +kernel
theorem dX5_slide_24 : decode cX5_slide 24 = .ok (.aload_n 0, 1) := by decide +kernel
theorem dX5_slide_25 : decode cX5_slide 25 = .ok (.getfield 101, 3) := by decide +kernel
theorem dX5_slide_28 : decode cX5_slide 28 = .ok (.iload_n 2, 1) := by decide +kernel
theorem dX5_slide_29 : decode cX5_slide 29 = .ok (.iconst 2, 1) := by decide +kernel
theorem dX5_slide_30 : decode cX5_slide 30 = .ok (.invokestatic 66, 3) := by decide +kernel
theorem dX5_slide_33 : decode cX5_slide 33 = .ok (.iaload, 1) := by decide +kernel
theorem dX5_slide_34 : decode cX5_slide 34 = .ok (.istore 5, 2) := by decide +kernel
theorem dX5_slide_36 : decode cX5_slide 36 = .ok (.aload_n 0, 1) := by decide +kernel
theorem dX5_slide_37 : decode cX5_slide 37 = .ok (.getfield 101, 3) := by decide +kernel
theorem dX5_slide_40 : decode cX5_slide 40 = .ok (.iload_n 3, 1) := by decide +kernel
theorem dX5_slide_41 : decode cX5_slide 41 = .ok (.iconst 2, 1) := by decide +kernel
theorem dX5_slide_42 : decode cX5_slide 42 = .ok (.invokestatic 66, 3) := by decide +kernel
theorem dX5_slide_45 : decode cX5_slide 45 = .ok (.iaload, 1) := by decide +kernel
theorem dX5_slide_46 : decode cX5_slide 46 = .ok (.istore 6, 2) := by decide +kernel
theorem dX5_slide_48 : decode cX5_slide 48 = .ok (.aload_n 0, 1) := by decide +kernel
theorem dX5_slide_49 : decode cX5_slide 49 = .ok (.getfield 101, 3) := by decide +kernel
theorem dX5_slide_52 : decode cX5_slide 52 = .ok (.iload 4, 2) := by decide +kernel
theorem dX5_slide_54 : decode cX5_slide 54 = .ok (.iconst 2, 1) := by decide +kernel
theorem dX5_slide_55 : decode cX5_slide 55 = .ok (.invokestatic 66, 3) := by decide +kernel
theorem dX5_slide_58 : decode cX5_slide 58 = .ok (.iaload, 1) := by decide +kernel
theorem dX5_slide_59 : decode cX5_slide 59 = .ok (.istore 7, 2) := by decide +kernel
theorem dX5_slide_61 : decode cX5_slide 61 = .ok (.aload_n 0, 1) := by decide +kernel
theorem dX5_slide_62 : decode cX5_slide 62 = .ok (.getfield 101, 3) := by decide +kernel
theorem dX5_slide_65 : decode cX5_slide 65 = .ok (.aload_n 1, 1) := by decide +kernel
theorem dX5_slide_66 : decode cX5_slide 66 = .ok (.getfield 104, 3) := by decide +kernel
theorem dX5_slide_69 : decode cX5_slide 69 = .ok (.iload_n 2, 1) := by decide +kernel
theorem dX5_slide_70 : decode cX5_slide 70 = .ok (.iaload, 1) := by decide +kernel
theorem dX5_slide_71 : decode cX5_slide 71 = .ok (.iconst 2, 1) := by decide +kernel
theorem dX5_slide_72 : decode cX5_slide 72 = .ok (.invokestatic 66, 3) := by decide +kernel
theorem dX5_slide_75 : decode cX5_slide 75 = .ok (.iaload, 1) := by decide +kernel
theorem dX5_slide_76 : decode cX5_slide 76 = .ok (.istore 8, 2) := by decide +kernel
theorem dX5_slide_78 : decode cX5_slide 78 = .ok (.aload_n 0, 1) := by decide +kernel
theorem dX5_slide_79 : decode cX5_slide 79 = .ok (.getfield 101, 3) := by decide +kernel
theorem dX5_slide_82 : decode cX5_slide 82 = .ok (.aload_n 1, 1) := by decide +kernel
theorem dX5_slide_83 : decode cX5_slide 83 = .ok (.getfield 104, 3) := by decide +kernel
theorem dX5_slide_86 : decode cX5_slide 86 = .ok (.iload_n 3, 1) := by decide +kernel
theorem dX5_slide_87 : decode cX5_slide 87 = .ok (.iaload, 1) := by decide +kernel
theorem dX5_slide_88 : decode cX5_slide 88 = .ok (.iconst 2, 1) := by decide +kernel
theorem dX5_slide_89 : decode cX5_slide 89 = .ok (.invokestatic 66, 3) := by decide +kernel
theorem dX5_slide_92 : decode cX5_slide 92 = .ok (.iaload, 1) := by decide +kernel
theorem dX5_slide_93 : decode cX5_slide 93 = .ok (.istore 9, 2) := by decide +kernel
theorem dX5_slide_95 : decode cX5_slide 95 = .ok (.aload_n 0, 1) := by decide +kernel
theorem dX5_slide_96 : decode cX5_slide 96 = .ok (.getfield 101, 3) := by decide +kernel
theorem dX5_slide_99 : decode cX5_slide 99 = .ok (.aload_n 1, 1) := by decide +kernel
theorem dX5_slide_100 : decode cX5_slide 100 = .ok (.getfield 104, 3) := by decide +kernel
theorem dX5_slide_103 : decode cX5_slide 103 = .ok (.iload 4, 2) := by decide +kernel
theorem dX5_slide_105 : decode cX5_slide 105 = .ok (.iaload, 1) := by decide +kernel
theorem dX5_slide_106 : decode cX5_slide 106 = .ok (.iconst 2, 1) := by decide +kernel
theorem dX5_slide_107 : decode cX5_slide 107 = .ok (.invokestatic 66, 3) := by decide +kernel
theorem dX5_slide_110 : decode cX5_slide 110 = .ok (.iaload, 1) := by decide +kernel
theorem dX5_slide_111 : decode cX5_slide 111 = .ok (.istore 10, 2) := by decide +kernel
theorem dX5_slide_113 : decode cX5_slide 113 = .ok (.aload_n 0, 1) := by decide +kernel
theorem dX5_slide_114 : decode cX5_slide 114 = .ok (.iload_n 2, 1) := by decide +kernel
theorem dX5_slide_115 : decode cX5_slide 115 = .ok (.aload_n 1, 1) := by decide +kernel
theorem dX5_slide_116 : decode cX5_slide 116 = .ok (.getfield 104, 3) := by decide +kernel
theorem dX5_slide_119 : decode cX5_slide 119 = .ok (.iload_n 2, 1) := by decide +kernel
theorem dX5_slide_120 : decode cX5_slide 120 = .ok (.iaload, 1) := by decide +kernel
theorem dX5_slide_121 : decode cX5_slide 121 = .ok (.iload 5, 2) := by decide +kernel
theorem dX5_slide_123 : decode cX5_slide 123 = .ok (.iload 8, 2) := by decide +kernel
theorem dX5_slide_125 : decode cX5_slide 125 = .ok (.invokestatic 138, 3) := by decide +kernel
theorem dX5_slide_128 : decode cX5_slide 128 = .ok (.aload_n 0, 1) := by decide +kernel
theorem dX5_slide_129 : decode cX5_slide 129 = .ok (.iload_n 3, 1) := by decide +kernel
theorem dX5_slide_130 : decode cX5_slide 130 = .ok (.aload_n 1, 1) := by decide +kernel
theorem dX5_slide_131 : decode cX5_slide 131 = .ok (.getfield 104, 3) := by decide +kernel
theorem dX5_slide_134 : decode cX5_slide 134 = .ok (.iload_n 3, 1) := by decide +kernel
theorem dX5_slide_135 : decode cX5_slide 135 = .ok (.iaload, 1) := by decide +kernel
theorem dX5_slide_136 : decode cX5_slide 136 = .ok (.iload 6, 2) := by decide +kernel
theorem dX5_slide_138 : decode cX5_slide 138 = .ok (.iload 9, 2) := by decide +kernel
theorem dX5_slide_140 : decode cX5_slide 140 = .ok (.invokestatic 138, 3) := by decide +kernel
theorem dX5_slide_143 : decode cX5_slide 143 = .ok (.aload_n 0, 1) := by decide +kernel
theorem dX5_slide_144 : decode cX5_slide 144 = .ok (.iload 4, 2) := by decide +kernel
theorem dX5_slide_146 : decode cX5_slide 146 = .ok (.aload_n 1, 1) := by decide +kernel
theorem dX5_slide_147 : decode cX5_slide 147 = .ok (.getfield 104, 3) := by decide +kernel
theorem dX5_slide_150 : decode cX5_slide 150 = .ok (.iload 4, 2) := by decide +kernel
theorem dX5_slide_152 : decode cX5_slide 152 = .ok (.iaload, 1) := by decide +kernel
theorem dX5_slide_153 : decode cX5_slide 153 = .ok (.iload 7, 2) := by decide +kernel
theorem dX5_slide_155 : decode cX5_slide 155 = .ok (.iload 10, 2) := by decide +kernel
theorem dX5_slide_157 : decode cX5_slide 157 = .ok (.invokestatic 138, 3) := by decide +kernel
theorem dX5_slide_160 : decode cX5_slide 160 = .ok (.iconst 1, 1) := by decide +kernel
theorem dX5_slide_161 : decode cX5_slide 161 = .ok (.ireturn, 1) := by decide +kernel
theorem dX5_slideArc_0 : decode cX5_slideArc 0 = .ok (.aload_n 0, 1) := by decide +kernel
theorem dX5_slideArc_1 : decode cX5_slideArc 1 = .ok (.getfield 101, 3) := by decide +kernel
theorem dX5_slideArc_4 : decode cX5_slideArc 4 = .ok (.iload_n 1, 1) := by decide +kernel
theorem dX5_slideArc_5 : decode cX5_slideArc 5 = .ok (.iaload, 1) := by decide +kernel
theorem dX5_slideArc_6 : decode cX5_slideArc 6 = .ok (.istore 5, 2) := by decide +kernel
theorem dX5_slideArc_8 : decode cX5_slideArc 8 = .ok (.aload_n 0, 1) := by decide +kernel
theorem dX5_slideArc_9 : decode cX5_slideArc 9 = .ok (.getfield 101, 3) := by decide +kernel
theorem dX5_slideArc_12 : decode cX5_slideArc 12 = .ok (.iload_n 1, 1) := by decide +kernel
theorem dX5_slideArc_13 : decode cX5_slideArc 13 = .ok (.iload 4, 2) := by decide +kernel
theorem dX5_slideArc_15 : decode cX5_slideArc 15 = .ok (.iastore, 1) := by decide +kernel
theorem dX5_slideArc_16 : decode cX5_slideArc 16 = .ok (.aload_n 0, 1) := by decide +kernel
theorem dX5_slideArc_17 : decode cX5_slideArc 17 = .ok (.getfield 101, 3) := by decide +kernel
theorem dX5_slideArc_20 : decode cX5_slideArc 20 = .ok (.iload_n 1, 1) := by decide +kernel
theorem dX5_slideArc_21 : decode cX5_slideArc 21 = .ok (.iconst 2, 1) := by decide +kernel
theorem dX5_slideArc_22 : decode cX5_slideArc 22 = .ok (.invokestatic 66, 3) := by decide +kernel
theorem dX5_slideArc_25 : decode cX5_slideArc 25 = .ok (.iload 5, 2) := by decide +kernel
theorem dX5_slideArc_27 : decode cX5_slideArc 27 = .ok (.iastore, 1) := by decide +kernel
theorem dX5_slideArc_28 : decode cX5_slideArc 28 = .ok (.aload_n 0, 1) := by decide +kernel
theorem dX5_slideArc_29 : decode cX5_slideArc 29 = .ok (.getfield 101, 3) := by decide +kernel
theorem dX5_slideArc_32 : decode cX5_slideArc 32 = .ok (.iload_n 2, 1) := by decide +kernel
theorem dX5_slideArc_33 : decode cX5_slideArc 33 = .ok (.iload_n 3, 1) := by decide +kernel
theorem dX5_slideArc_34 : decode cX5_slideArc 34 = .ok (.iastore, 1) := by decide +kernel
theorem dX5_slideArc_35 : decode cX5_slideArc 35 = .ok (.aload_n 0, 1) := by decide +kernel
theorem dX5_slideArc_36 : decode cX5_slideArc 36 = .ok (.getfield 101, 3) := by decide +kernel
theorem dX5_slideArc_39 : decode cX5_slideArc 39 = .ok (.iload_n 2, 1) := by decide +kernel
theorem dX5_slideArc_40 : decode cX5_slideArc 40 = .ok (.iconst 2, 1) := by decide +kernel
theorem dX5_slideArc_41 : decode cX5_slideArc 41 = .ok (.invokestatic 66, 3) := by decide +kernel
theorem dX5_slideArc_44 : decode cX5_slideArc 44 = .ok (.iload 5, 2) := by decide +kernel
theorem dX5_slideArc_46 : decode cX5_slideArc 46 = .ok (.iastore, 1) := by decide +kernel
theorem dX5_slideArc_47 : decode cX5_slideArc 47 = .ok (.return_, 1) := by decide +kernel
theorem dX5_isIn_0 : decode cX5_isIn 0 = .ok (.iload_n 1, 1) := by decide +kernel
theorem dX5_isIn_1 : decode cX5_isIn 1 = .ok (.iconst 2, 1) := by decide +kernel
theorem dX5_isIn_2 : decode cX5_isIn 2 = .ok (.ishr, 1) := by decide +kernel
theorem dX5_isIn_3 : decode cX5_isIn 3 = .ok (.istore_n 2, 1) := by decide +kernel
theorem dX5_isIn_4 : decode cX5_isIn 4 = .ok (.iload_n 2, 1) := by decide +kernel
theorem dX5_isIn_5 : decode cX5_isIn 5 = .ok (.ifCond .lt 22, 3) := by decide +kernel
theorem dX5_isIn_8 : decode cX5_isIn 8 = .ok (.iload_n 2, 1) := by decide +kernel
theorem dX5_isIn_9 : decode cX5_isIn 9 = .ok (.bipush 30, 2) := by decide +kernel
theorem dX5_isIn_11 : decode cX5_isIn 11 = .ok (.if_icmp .gt 16, 3) := by decide +kernel
theorem dX5_isIn_14 : decode cX5_isIn 14 = .ok (.iload_n 0, 1) := by decide +kernel
theorem dX5_isIn_15 : decode cX5_isIn 15 = .ok (.iload_n 2, 1) := by decide +kernel
theorem dX5_isIn_16 : decode cX5_isIn 16 = .ok (.ishr, 1) := by decide +kernel
theorem dX5_isIn_17 : decode cX5_isIn 17 = .ok (.iconst 1, 1) := by decide +kernel
theorem dX5_isIn_18 : decode cX5_isIn 18 = .ok (.iand, 1) := by decide +kernel
theorem dX5_isIn_19 : decode cX5_isIn 19 = .ok (.iconst 1, 1) := by decide +kernel
theorem dX5_isIn_20 : decode cX5_isIn 20 = .ok (.if_icmp .ne 7, 3) := by decide +kernel
theorem dX5_isIn_23 : decode cX5_isIn 23 = .ok (.iconst 1, 1) := by decide +kernel
theorem dX5_isIn_24 : decode cX5_isIn 24 = .ok (.goto 4, 3) := by decide +kernel
theorem dX5_isIn_27 : decode cX5_isIn 27 = .ok (.iconst 0, 1) := by decide +kernel
theorem dX5_isIn_28 : decode cX5_isIn 28 = .ok (.ireturn, 1) := by decide +kernel
theorem dX5_areThere_0 : decode cX5_areThere 0 = .ok (.iload_n 0, 1) := by decide +kernel
theorem dX5_areThere_1 : decode cX5_areThere 1 = .ok (.ifCond .lt 19, 3) := by decide +kernel
theorem dX5_areThere_4 : decode cX5_areThere 4 = .ok (.iload_n 1, 1) := by decide +kernel
theorem dX5_areThere_5 : decode cX5_areThere 5 = .ok (.bipush 30, 2) := by decide +kernel
theorem dX5_areThere_7 : decode cX5_areThere 7 = .ok (.if_icmp .gt 9, 3) := by decide +kernel
theorem dX5_areThere_10 : decode cX5_areThere 10 = .ok (.iload_n 0, 1) := by decide +kernel
theorem dX5_areThere_11 : decode cX5_areThere 11 = .ok (.iload_n 1, 1) := by decide +kernel
theorem dX5_areThere_12 : decode cX5_areThere 12 = .ok (.ishr, 1) := by decide +kernel
theorem dX5_areThere_13 : decode cX5_areThere 13 = .ok (.ifCond .ne 7, 3) := by decide +kernel
theorem dX5_areThere_16 : decode cX5_areThere 16 = .ok (.iconst 1, 1) := by decide +kernel
theorem dX5_areThere_17 : decode cX5_areThere 17 = .ok (.goto 4, 3) := by decide +kernel
theorem dX5_areThere_20 : decode cX5_areThere 20 = .ok (.iconst 0, 1) := by decide +kernel
theorem dX5_areThere_21 : decode cX5_areThere 21 = .ok (.ireturn, 1) := by decide +kernel
theorem dX5_countWaysOut_0 : decode cX5_countWaysOut 0 = .ok (.iconst 0, 1) := by decide +kernel
theorem dX5_countWaysOut_1 : decode cX5_countWaysOut 1 = .ok (.istore_n 2, 1) := by decide +kernel
theorem dX5_countWaysOut_2 : decode cX5_countWaysOut 2 = .ok (.iconst 0, 1) := by decide +kernel
theorem dX5_countWaysOut_3 : decode cX5_countWaysOut 3 = .ok (.istore_n 3, 1) := by decide +kernel
theorem dX5_countWaysOut_4 : decode cX5_countWaysOut 4 = .ok (.iload_n 3, 1) := by decide +kernel
theorem dX5_countWaysOut_5 : decode cX5_countWaysOut 5 = .ok (.iconst 4, 1) := by decide +kernel
theorem dX5_countWaysOut_6 : decode cX5_countWaysOut 6 = .ok (.aload_n 0, 1) := by decide +kernel
theorem dX5_countWaysOut_7 : decode cX5_countWaysOut 7 = .ok (.getfield 142, 3) := by decide +kernel
theorem dX5_countWaysOut_10 : decode cX5_countWaysOut 10 = .ok (.imul, 1) := by decide +kernel
theorem dX5_countWaysOut_11 : decode cX5_countWaysOut 11 = .ok (.if_icmp .ge 33, 3) := by decide +kernel
theorem dX5_countWaysOut_14 : decode cX5_countWaysOut 14 = .ok (.iload_n 1, 1) := by decide +kernel
theorem dX5_countWaysOut_15 : decode cX5_countWaysOut 15 = .ok (.iload_n 3, 1) := by decide +kernel
theorem dX5_countWaysOut_16 : decode cX5_countWaysOut 16 = .ok (.invokestatic 143, 3) := by decide +kernel
theorem dX5_countWaysOut_19 : decode cX5_countWaysOut 19 = .ok (.ifCond .eq 19, 3) := by decide +kernel
theorem dX5_countWaysOut_22 : decode cX5_countWaysOut 22 = .ok (.iload_n 1, 1) := by decide +kernel
theorem dX5_countWaysOut_23 : decode cX5_countWaysOut 23 = .ok (.aload_n 0, 1) := by decide +kernel
theorem dX5_countWaysOut_24 : decode cX5_countWaysOut 24 = .ok (.getfield 104, 3) := by decide +kernel
theorem dX5_countWaysOut_27 : decode cX5_countWaysOut 27 = .ok (.iload_n 3, 1) := by decide +kernel
theorem dX5_countWaysOut_28 : decode cX5_countWaysOut 28 = .ok (.iaload, 1) := by decide +kernel
theorem dX5_countWaysOut_29 : decode cX5_countWaysOut 29 = .ok (.invokestatic 143, 3) := by decide +kernel
theorem dX5_countWaysOut_32 : decode cX5_countWaysOut 32 = .ok (.ifCond .ne 6, 3) := by decide +kernel
theorem dX5_countWaysOut_35 : decode cX5_countWaysOut 35 = .ok (.iinc 2 1, 3) := by decide +kernel
theorem dX5_countWaysOut_38 : decode cX5_countWaysOut 38 = .ok (.iinc 3 1, 3) := by decide +kernel
theorem dX5_countWaysOut_41 : decode cX5_countWaysOut 41 = .ok (.goto (-37), 3) := by decide +kernel
theorem dX5_countWaysOut_44 : decode cX5_countWaysOut 44 = .ok (.iload_n 2, 1) := by decide +kernel
theorem dX5_countWaysOut_45 : decode cX5_countWaysOut 45 = .ok (.ireturn, 1) := by decide +kernel
theorem dX5_wayOut_0 : decode cX5_wayOut 0 = .ok (.iload_n 2, 1) := by decide +kernel
theorem dX5_wayOut_1 : decode cX5_wayOut 1 = .ok (.iload_n 3, 1) := by decide +kernel
theorem dX5_wayOut_2 : decode cX5_wayOut 2 = .ok (.invokestatic 66, 3) := by decide +kernel
theorem dX5_wayOut_5 : decode cX5_wayOut 5 = .ok (.istore 4, 2) := by decide +kernel
theorem dX5_wayOut_7 : decode cX5_wayOut 7 = .ok (.iconst 0, 1) := by decide +kernel
theorem dX5_wayOut_8 : decode cX5_wayOut 8 = .ok (.istore 5, 2) := by decide +kernel
theorem dX5_wayOut_10 : decode cX5_wayOut 10 = .ok (.iload 5, 2) := by decide +kernel
theorem dX5_wayOut_12 : decode cX5_wayOut 12 = .ok (.sipush 160, 3) := by decide +kernel
theorem dX5_wayOut_15 : decode cX5_wayOut 15 = .ok (.if_icmp .ge 39, 3) := by decide +kernel
theorem dX5_wayOut_18 : decode cX5_wayOut 18 = .ok (.iload_n 1, 1) := by decide +kernel
theorem dX5_wayOut_19 : decode cX5_wayOut 19 = .ok (.aload_n 0, 1) := by decide +kernel
theorem dX5_wayOut_20 : decode cX5_wayOut 20 = .ok (.getfield 104, 3) := by decide +kernel
theorem dX5_wayOut_23 : decode cX5_wayOut 23 = .ok (.iload 4, 2) := by decide +kernel
theorem dX5_wayOut_25 : decode cX5_wayOut 25 = .ok (.iaload, 1) := by decide +kernel
theorem dX5_wayOut_26 : decode cX5_wayOut 26 = .ok (.invokestatic 143, 3) := by decide +kernel
theorem dX5_wayOut_29 : decode cX5_wayOut 29 = .ok (.ifCond .ne 6, 3) := by decide +kernel
theorem dX5_wayOut_32 : decode cX5_wayOut 32 = .ok (.iload 4, 2) := by decide +kernel
theorem dX5_wayOut_34 : decode cX5_wayOut 34 = .ok (.ireturn, 1) := by decide +kernel
theorem dX5_wayOut_35 : decode cX5_wayOut 35 = .ok (.aload_n 0, 1) := by decide +kernel
theorem dX5_wayOut_36 : decode cX5_wayOut 36 = .ok (.getfield 104, 3) := by decide +kernel
theorem dX5_wayOut_39 : decode cX5_wayOut 39 = .ok (.iload 4, 2) := by decide +kernel
theorem dX5_wayOut_41 : decode cX5_wayOut 41 = .ok (.iaload, 1) := by decide +kernel
theorem dX5_wayOut_42 : decode cX5_wayOut 42 = .ok (.iload_n 3, 1) := by decide +kernel
theorem dX5_wayOut_43 : decode cX5_wayOut 43 = .ok (.invokestatic 66, 3) := by decide +kernel
theorem dX5_wayOut_46 : decode cX5_wayOut 46 = .ok (.istore 4, 2) := by decide +kernel
theorem dX5_wayOut_48 : decode cX5_wayOut 48 = .ok (.iinc 5 1, 3) := by decide +kernel
theorem dX5_wayOut_51 : decode cX5_wayOut 51 = .ok (.goto (-41), 3) := by decide +kernel
theorem dX5_wayOut_54 : decode cX5_wayOut 54 = .ok (.iconst (-1), 1) := by decide +kernel
theorem dX5_wayOut_55 : decode cX5_wayOut 55 = .ok (.ireturn, 1) := by decide +kernel
theorem dX5_flype_0 : decode cX5_flype 0 = .ok (.aload_n 2, 1) := by decide +kernel
theorem dX5_flype_1 : decode cX5_flype 1 = .ok (.iload_n 3, 1) := by decide +kernel
theorem dX5_flype_2 : decode cX5_flype 2 = .ok (.invokevirtual 85, 3) := by decide +kernel
theorem dX5_flype_5 : decode cX5_flype 5 = .ok (.ifCond .eq 28, 3) := by decide +kernel
theorem dX5_flype_8 : decode cX5_flype 8 = .ok (.aload_n 0, 1) := by decide +kernel
theorem dX5_flype_9 : decode cX5_flype 9 = .ok (.getfield 18, 3) := by decide +kernel
theorem dX5_flype_12 : decode cX5_flype 12 = .ok (.aload_n 2, 1) := by decide +kernel
theorem dX5_flype_13 : decode cX5_flype 13 = .ok (.getfield 142, 3) := by decide +kernel
theorem dX5_flype_16 : decode cX5_flype 16 = .ok (.invokestatic 147, 3) := by decide +kernel
theorem dX5_flype_19 : decode cX5_flype 19 = .ok (.ifCond .eq 14, 3) := by decide +kernel
theorem dX5_flype_22 : decode cX5_flype 22 = .ok (.aload_n 0, 1) := by decide +kernel
theorem dX5_flype_23 : decode cX5_flype 23 = .ok (.getfield 18, 3) := by decide +kernel
theorem dX5_flype_26 : decode cX5_flype 26 = .ok (.iload_n 3, 1) := by decide +kernel
theorem dX5_flype_27 : decode cX5_flype 27 = .ok (.invokestatic 143, 3) := by decide +kernel
theorem dX5_flype_30 : decode cX5_flype 30 = .ok (.ifCond .eq 6, 3) := by decide +kernel
theorem dX5_flype_33 : decode cX5_flype 33 = .ok (.bipush (-15), 2) := by decide +kernel
theorem dX5_flype_35 : decode cX5_flype 35 = .ok (.ireturn, 1) := by decide +kernel
theorem dX5_flype_36 : decode cX5_flype 36 = .ok (.aload_n 2, 1) := by decide +kernel
theorem dX5_flype_37 : decode cX5_flype 37 = .ok (.getfield 104, 3) := by decide +kernel
theorem dX5_flype_40 : decode cX5_flype 40 = .ok (.iload_n 3, 1) := by decide +kernel
theorem dX5_flype_41 : decode cX5_flype 41 = .ok (.iaload, 1) := by decide +kernel
theorem dX5_flype_42 : decode cX5_flype 42 = .ok (.istore 4, 2) := by decide +kernel
theorem dX5_flype_44 : decode cX5_flype 44 = .ok (.aload_n 2, 1) := by decide +kernel
theorem dX5_flype_45 : decode cX5_flype 45 = .ok (.getfield 104, 3) := by decide +kernel
theorem dX5_flype_48 : decode cX5_flype 48 = .ok (.iload_n 3, 1) := by decide +kernel
theorem dX5_flype_49 : decode cX5_flype 49 = .ok (.iconst 1, 1) := by decide +kernel
theorem dX5_flype_50 : decode cX5_flype 50 = .ok (.invokestatic 66, 3) := by decide +kernel
theorem dX5_flype_53 : decode cX5_flype 53 = .ok (.iaload, 1) := by decide +kernel
theorem dX5_flype_54 : decode cX5_flype 54 = .ok (.istore 5, 2) := by decide +kernel
theorem dX5_flype_56 : decode cX5_flype 56 = .ok (.aload_n 0, 1) := by decide +kernel
theorem dX5_flype_57 : decode cX5_flype 57 = .ok (.getfield 18, 3) := by decide +kernel
theorem dX5_flype_60 : decode cX5_flype 60 = .ok (.iload 4, 2) := by decide +kernel
theorem dX5_flype_62 : decode cX5_flype 62 = .ok (.invokestatic 143, 3) := by decide +kernel
theorem dX5_flype_65 : decode cX5_flype 65 = .ok (.ifCond .eq 27, 3) := by decide +kernel
theorem dX5_flype_68 : decode cX5_flype 68 = .ok (.aload_n 0, 1) := by decide +kernel
theorem dX5_flype_69 : decode cX5_flype 69 = .ok (.getfield 18, 3) := by decide +kernel
theorem dX5_flype_72 : decode cX5_flype 72 = .ok (.iload 5, 2) := by decide +kernel
theorem dX5_flype_74 : decode cX5_flype 74 = .ok (.invokestatic 143, 3) := by decide +kernel
theorem dX5_flype_77 : decode cX5_flype 77 = .ok (.ifCond .eq 15, 3) := by decide +kernel
theorem dX5_flype_80 : decode cX5_flype 80 = .ok (.aload_n 2, 1) := by decide +kernel
theorem dX5_flype_81 : decode cX5_flype 81 = .ok (.aload_n 0, 1) := by decide +kernel
theorem dX5_flype_82 : decode cX5_flype 82 = .ok (.getfield 18, 3) := by decide +kernel
theorem dX5_flype_85 : decode cX5_flype 85 = .ok (.invokestatic 150, 3) := by decide +kernel
theorem dX5_flype_88 : decode cX5_flype 88 = .ok (.iconst 4, 1) := by decide +kernel
theorem dX5_flype_89 : decode cX5_flype 89 = .ok (.if_icmp .eq 6, 3) := by decide +kernel
theorem dX5_flype_92 : decode cX5_flype 92 = .ok (.bipush (-15), 2) := by decide +kernel
theorem dX5_flype_94 : decode cX5_flype 94 = .ok (.ireturn, 1) := by decide +kernel
theorem dX5_flype_95 : decode cX5_flype 95 = .ok (.aload_n 2, 1) := by decide +kernel
theorem dX5_flype_96 : decode cX5_flype 96 = .ok (.aload_n 0, 1) := by decide +kernel
theorem dX5_flype_97 : decode cX5_flype 97 = .ok (.getfield 18, 3) := by decide +kernel
theorem dX5_flype_100 : decode cX5_flype 100 = .ok (.iload 5, 2) := by decide +kernel
theorem dX5_flype_102 : decode cX5_flype 102 = .ok (.iconst 3, 1) := by decide +kernel
theorem dX5_flype_103 : decode cX5_flype 103 = .ok (.invokestatic 154, 3) := by decide +kernel
theorem dX5_flype_106 : decode cX5_flype 106 = .ok (.istore 6, 2) := by decide +kernel
theorem dX5_flype_108 : decode cX5_flype 108 = .ok (.aload_n 2, 1) := by decide +kernel
theorem dX5_flype_109 : decode cX5_flype 109 = .ok (.aload_n 0, 1) := by decide +kernel
theorem dX5_flype_110 : decode cX5_flype 110 = .ok (.getfield 18, 3) := by decide +kernel
theorem dX5_flype_113 : decode cX5_flype 113 = .ok (.iload 4, 2) := by decide +kernel
theorem dX5_flype_115 : decode cX5_flype 115 = .ok (.iconst 1, 1) := by decide +kernel
theorem dX5_flype_116 : decode cX5_flype 116 = .ok (.invokestatic 154, 3) := by decide +kernel
theorem dX5_flype_119 : decode cX5_flype 119 = .ok (.istore 7, 2) := by decide +kernel
theorem dX5_flype_121 : decode cX5_flype 121 = .ok (.iload 6, 2) := by decide +kernel
theorem dX5_flype_123 : decode cX5_flype 123 = .ok (.ifCond .lt 43, 3) := by decide +kernel
theorem dX5_flype_126 : decode cX5_flype 126 = .ok (.iload 7, 2) := by decide +kernel
theorem dX5_flype_128 : decode cX5_flype 128 = .ok (.ifCond .lt 38, 3) := by decide +kernel
theorem dX5_flype_131 : decode cX5_flype 131 = .ok (.iload 6, 2) := by decide +kernel
theorem dX5_flype_133 : decode cX5_flype 133 = .ok (.iload 7, 2) := by decide +kernel
theorem dX5_flype_135 : decode cX5_flype 135 = .ok (.if_icmp .eq 31, 3) := by decide +kernel
theorem dX5_flype_138 : decode cX5_flype 138 = .ok (.iload 6, 2) := by decide +kernel
theorem dX5_flype_140 : decode cX5_flype 140 = .ok (.iload 4, 2) := by decide +kernel
theorem dX5_flype_142 : decode cX5_flype 142 = .ok (.if_icmp .eq 24, 3) := by decide +kernel
theorem dX5_flype_145 : decode cX5_flype 145 = .ok (.iload 6, 2) := by decide +kernel
theorem dX5_flype_147 : decode cX5_flype 147 = .ok (.iload 5, 2) := by decide +kernel
theorem dX5_flype_149 : decode cX5_flype 149 = .ok (.if_icmp .eq 17, 3) := by decide +kernel
theorem dX5_flype_152 : decode cX5_flype 152 = .ok (.iload 7, 2) := by decide +kernel
theorem dX5_flype_154 : decode cX5_flype 154 = .ok (.iload 4, 2) := by decide +kernel
theorem dX5_flype_156 : decode cX5_flype 156 = .ok (.if_icmp .eq 10, 3) := by decide +kernel
theorem dX5_flype_159 : decode cX5_flype 159 = .ok (.iload 7, 2) := by decide +kernel
theorem dX5_flype_161 : decode cX5_flype 161 = .ok (.iload 5, 2) := by decide +kernel
theorem dX5_flype_163 : decode cX5_flype 163 = .ok (.if_icmp .ne 6, 3) := by decide +kernel
theorem dX5_flype_166 : decode cX5_flype 166 = .ok (.bipush (-15), 2) := by decide +kernel
theorem dX5_flype_168 : decode cX5_flype 168 = .ok (.ireturn, 1) := by decide +kernel
theorem dX5_flype_169 : decode cX5_flype 169 = .ok (.aload_n 1, 1) := by decide +kernel
theorem dX5_flype_170 : decode cX5_flype 170 = .ok (.iload_n 3, 1) := by decide +kernel
theorem dX5_flype_171 : decode cX5_flype 171 = .ok (.iload 4, 2) := by decide +kernel
theorem dX5_flype_173 : decode cX5_flype 173 = .ok (.iload 5, 2) := by decide +kernel
theorem dX5_flype_175 : decode cX5_flype 175 = .ok (.iload 6, 2) := by decide +kernel
theorem dX5_flype_177 : decode cX5_flype 177 = .ok (.iload 7, 2) := by decide +kernel
theorem dX5_flype_179 : decode cX5_flype 179 = .ok (.invokestatic 158, 3) := by decide +kernel
theorem dX5_flype_182 : decode cX5_flype 182 = .ok (.iconst 0, 1) := by decide +kernel
theorem dX5_flype_183 : decode cX5_flype 183 = .ok (.istore 8, 2) := by decide +kernel
theorem dX5_flype_185 : decode cX5_flype 185 = .ok (.iload 8, 2) := by decide +kernel
theorem dX5_flype_187 : decode cX5_flype 187 = .ok (.aload_n 2, 1) := by decide +kernel
theorem dX5_flype_188 : decode cX5_flype 188 = .ok (.getfield 142, 3) := by decide +kernel
theorem dX5_flype_191 : decode cX5_flype 191 = .ok (.if_icmp .ge 29, 3) := by decide +kernel
theorem dX5_flype_194 : decode cX5_flype 194 = .ok (.aload_n 0, 1) := by decide +kernel
theorem dX5_flype_195 : decode cX5_flype 195 = .ok (.getfield 18, 3) := by decide +kernel
theorem dX5_flype_198 : decode cX5_flype 198 = .ok (.iconst 4, 1) := by decide +kernel
theorem dX5_flype_199 : decode cX5_flype 199 = .ok (.iload 8, 2) := by decide +kernel
theorem dX5_flype_201 : decode cX5_flype 201 = .ok (.imul, 1) := by decide +kernel
theorem dX5_flype_202 : decode cX5_flype 202 = .ok (.invokestatic 143, 3) := by decide +kernel
theorem dX5_flype_205 : decode cX5_flype 205 = .ok (.ifCond .eq 9, 3) := by decide +kernel
theorem dX5_flype_208 : decode cX5_flype 208 = .ok (.aload_n 1, 1) := by decide +kernel
theorem dX5_flype_209 : decode cX5_flype 209 = .ok (.iload 8, 2) := by decide +kernel
theorem dX5_flype_211 : decode cX5_flype 211 = .ok (.invokevirtual 162, 3) := by decide +kernel
theorem dX5_flype_214 : decode cX5_flype 214 = .ok (.iinc 8 1, 3) := by decide +kernel
theorem dX5_flype_217 : decode cX5_flype 217 = .ok (.goto (-32), 3) := by decide +kernel
theorem dX5_flype_220 : decode cX5_flype 220 = .ok (.iconst 1, 1) := by decide +kernel
theorem dX5_flype_221 : decode cX5_flype 221 = .ok (.ireturn, 1) := by decide +kernel
theorem dX5_passOver_0 : decode cX5_passOver 0 = .ok (.aload_n 0, 1) := by decide +kernel
theorem dX5_passOver_1 : decode cX5_passOver 1 = .ok (.getfield 101, 3) := by decide +kernel
theorem dX5_passOver_4 : decode cX5_passOver 4 = .ok (.astore 6, 2) := by decide +kernel
theorem dX5_passOver_6 : decode cX5_passOver 6 = .ok (.aload 6, 2) := by decide +kernel
theorem dX5_passOver_8 : decode cX5_passOver 8 = .ok (.iload_n 1, 1) := by decide +kernel
theorem dX5_passOver_9 : decode cX5_passOver 9 = .ok (.iaload, 1) := by decide +kernel
theorem dX5_passOver_10 : decode cX5_passOver 10 = .ok (.istore 7, 2) := by decide +kernel
theorem dX5_passOver_12 : decode cX5_passOver 12 = .ok (.aload 6, 2) := by decide +kernel
theorem dX5_passOver_14 : decode cX5_passOver 14 = .ok (.iload_n 1, 1) := by decide +kernel
theorem dX5_passOver_15 : decode cX5_passOver 15 = .ok (.iconst 1, 1) := by decide +kernel
theorem dX5_passOver_16 : decode cX5_passOver 16 = .ok (.invokestatic 66, 3) := by decide +kernel
theorem dX5_passOver_19 : decode cX5_passOver 19 = .ok (.iaload, 1) := by decide +kernel
theorem dX5_passOver_20 : decode cX5_passOver 20 = .ok (.istore 8, 2) := by decide +kernel
theorem dX5_passOver_22 : decode cX5_passOver 22 = .ok (.aload 6, 2) := by decide +kernel
theorem dX5_passOver_24 : decode cX5_passOver 24 = .ok (.iload_n 1, 1) := by decide +kernel
theorem dX5_passOver_25 : decode cX5_passOver 25 = .ok (.iconst 2, 1) := by decide +kernel
theorem dX5_passOver_26 : decode cX5_passOver 26 = .ok (.invokestatic 66, 3) := by decide +kernel
theorem dX5_passOver_29 : decode cX5_passOver 29 = .ok (.iaload, 1) := by decide +kernel
theorem dX5_passOver_30 : decode cX5_passOver 30 = .ok (.istore 9, 2) := by decide +kernel
theorem dX5_passOver_32 : decode cX5_passOver 32 = .ok (.aload 6, 2) := by decide +kernel
theorem dX5_passOver_34 : decode cX5_passOver 34 = .ok (.iload_n 1, 1) := by decide +kernel
theorem dX5_passOver_35 : decode cX5_passOver 35 = .ok (.iconst 3, 1) := by decide +kernel
theorem dX5_passOver_36 : decode cX5_passOver 36 = .ok (.invokestatic 66, 3) := by decide +kernel
theorem dX5_passOver_39 : decode cX5_passOver 39 = .ok (.iaload, 1) := by decide +kernel
theorem dX5_passOver_40 : decode cX5_passOver 40 = .ok (.istore 10, 2) := by decide +kernel
theorem dX5_passOver_42 : decode cX5_passOver 42 = .ok (.aload 6, 2) := by decide +kernel
theorem dX5_passOver_44 : decode cX5_passOver 44 = .ok (.iload 4, 2) := by decide +kernel
theorem dX5_passOver_46 : decode cX5_passOver 46 = .ok (.iaload, 1) := by decide +kernel
theorem dX5_passOver_47 : decode cX5_passOver 47 = .ok (.istore 11, 2) := by decide +kernel
theorem dX5_passOver_49 : decode cX5_passOver 49 = .ok (.aload 6, 2) := by decide +kernel
theorem dX5_passOver_51 : decode cX5_passOver 51 = .ok (.iload 5, 2) := by decide +kernel
theorem dX5_passOver_53 : decode cX5_passOver 53 = .ok (.iaload, 1) := by decide +kernel
theorem dX5_passOver_54 : decode cX5_passOver 54 = .ok (.istore 12, 2) := by decide +kernel
theorem dX5_passOver_56 : decode cX5_passOver 56 = .ok (.aload 6, 2) := by decide +kernel
theorem dX5_passOver_58 : decode cX5_passOver 58 = .ok (.iload_n 1, 1) := by decide +kernel
theorem dX5_passOver_59 : decode cX5_passOver 59 = .ok (.iload 12, 2) := by decide +kernel
theorem dX5_passOver_61 : decode cX5_passOver 61 = .ok (.iastore, 1) := by decide +kernel
theorem dX5_passOver_62 : decode cX5_passOver 62 = .ok (.aload 6, 2) := by decide +kernel
theorem dX5_passOver_64 : decode cX5_passOver 64 = .ok (.iload_n 1, 1) := by decide +kernel
theorem dX5_passOver_65 : decode cX5_passOver 65 = .ok (.iconst 1, 1) := by decide +kernel
theorem dX5_passOver_66 : decode cX5_passOver 66 = .ok (.invokestatic 66, 3) := by decide +kernel
theorem dX5_passOver_69 : decode cX5_passOver 69 = .ok (.iload 11, 2) := by decide +kernel
theorem dX5_passOver_71 : decode cX5_passOver 71 = .ok (.iastore, 1) := by decide +kernel
theorem dX5_passOver_72 : decode cX5_passOver 72 = .ok (.aload 6, 2) := by decide +kernel
theorem dX5_passOver_74 : decode cX5_passOver 74 = .ok (.iload_n 1, 1) := by decide +kernel
theorem dX5_passOver_75 : decode cX5_passOver 75 = .ok (.iconst 2, 1) := by decide +kernel
theorem dX5_passOver_76 : decode cX5_passOver 76 = .ok (.invokestatic 66, 3) := by decide +kernel
theorem dX5_passOver_79 : decode cX5_passOver 79 = .ok (.iload 7, 2) := by decide +kernel
theorem dX5_passOver_81 : decode cX5_passOver 81 = .ok (.iastore, 1) := by decide +kernel
theorem dX5_passOver_82 : decode cX5_passOver 82 = .ok (.aload 6, 2) := by decide +kernel
theorem dX5_passOver_84 : decode cX5_passOver 84 = .ok (.iload_n 1, 1) := by decide +kernel
theorem dX5_passOver_85 : decode cX5_passOver 85 = .ok (.iconst 3, 1) := by decide +kernel
theorem dX5_passOver_86 : decode cX5_passOver 86 = .ok (.invokestatic 66, 3) := by decide +kernel
theorem dX5_passOver_89 : decode cX5_passOver 89 = .ok (.iload 8, 2) := by decide +kernel
theorem dX5_passOver_91 : decode cX5_passOver 91 = .ok (.iastore, 1) := by decide +kernel
theorem dX5_passOver_92 : decode cX5_passOver 92 = .ok (.aload 6, 2) := by decide +kernel
theorem dX5_passOver_94 : decode cX5_passOver 94 = .ok (.iload_n 2, 1) := by decide +kernel
theorem dX5_passOver_95 : decode cX5_passOver 95 = .ok (.iload 9, 2) := by decide +kernel
theorem dX5_passOver_97 : decode cX5_passOver 97 = .ok (.iastore, 1) := by decide +kernel
theorem dX5_passOver_98 : decode cX5_passOver 98 = .ok (.aload 6, 2) := by decide +kernel
theorem dX5_passOver_100 : decode cX5_passOver 100 = .ok (.iload_n 3, 1) := by decide +kernel
theorem dX5_passOver_101 : decode cX5_passOver 101 = .ok (.iload 10, 2) := by decide +kernel
theorem dX5_passOver_103 : decode cX5_passOver 103 = .ok (.iastore, 1) := by decide +kernel
theorem dX5_passOver_104 : decode cX5_passOver 104 = .ok (.aload 6, 2) := by decide +kernel
theorem dX5_passOver_106 : decode cX5_passOver 106 = .ok (.iload 5, 2) := by decide +kernel
theorem dX5_passOver_108 : decode cX5_passOver 108 = .ok (.iload 7, 2) := by decide +kernel
theorem dX5_passOver_110 : decode cX5_passOver 110 = .ok (.iastore, 1) := by decide +kernel
theorem dX5_passOver_111 : decode cX5_passOver 111 = .ok (.aload 6, 2) := by decide +kernel
theorem dX5_passOver_113 : decode cX5_passOver 113 = .ok (.iload 4, 2) := by decide +kernel
theorem dX5_passOver_115 : decode cX5_passOver 115 = .ok (.iload 8, 2) := by decide +kernel
theorem dX5_passOver_117 : decode cX5_passOver 117 = .ok (.iastore, 1) := by decide +kernel
theorem dX5_passOver_118 : decode cX5_passOver 118 = .ok (.return_, 1) := by decide +kernel
theorem dX5_smooth_0 : decode cX5_smooth 0 = .ok (.aload_n 1, 1) := by decide +kernel
theorem dX5_smooth_1 : decode cX5_smooth 1 = .ok (.aload_n 0, 1) := by decide +kernel
theorem dX5_smooth_2 : decode cX5_smooth 2 = .ok (.getfield 15, 3) := by decide +kernel
theorem dX5_smooth_5 : decode cX5_smooth 5 = .ok (.invokevirtual 165, 3) := by decide +kernel
theorem dX5_smooth_8 : decode cX5_smooth 8 = .ok (.ifCond .eq 18, 3) := by decide +kernel
theorem dX5_smooth_11 : decode cX5_smooth 11 = .ok (.aload_n 0, 1) := by decide +kernel
theorem dX5_smooth_12 : decode cX5_smooth 12 = .ok (.getfield 18, 3) := by decide +kernel
theorem dX5_smooth_15 : decode cX5_smooth 15 = .ok (.ifCond .lt 11, 3) := by decide +kernel
theorem dX5_smooth_18 : decode cX5_smooth 18 = .ok (.aload_n 0, 1) := by decide +kernel
theorem dX5_smooth_19 : decode cX5_smooth 19 = .ok (.getfield 18, 3) := by decide +kernel
theorem dX5_smooth_22 : decode cX5_smooth 22 = .ok (.iconst 1, 1) := by decide +kernel
theorem dX5_smooth_23 : decode cX5_smooth 23 = .ok (.if_icmp .le 6, 3) := by decide +kernel
theorem dX5_smooth_26 : decode cX5_smooth 26 = .ok (.bipush (-15), 2) := by decide +kernel
theorem dX5_smooth_28 : decode cX5_smooth 28 = .ok (.ireturn, 1) := by decide +kernel
theorem dX5_smooth_29 : decode cX5_smooth 29 = .ok (.iconst 4, 1) := by decide +kernel
theorem dX5_smooth_30 : decode cX5_smooth 30 = .ok (.aload_n 0, 1) := by decide +kernel
theorem dX5_smooth_31 : decode cX5_smooth 31 = .ok (.getfield 15, 3) := by decide +kernel
theorem dX5_smooth_34 : decode cX5_smooth 34 = .ok (.imul, 1) := by decide +kernel
theorem dX5_smooth_35 : decode cX5_smooth 35 = .ok (.istore_n 2, 1) := by decide +kernel
theorem dX5_smooth_36 : decode cX5_smooth 36 = .ok (.aload_n 0, 1) := by decide +kernel
theorem dX5_smooth_37 : decode cX5_smooth 37 = .ok (.getfield 18, 3) := by decide +kernel
theorem dX5_smooth_40 : decode cX5_smooth 40 = .ok (.ifCond .ne 44, 3) := by decide +kernel
theorem dX5_smooth_43 : decode cX5_smooth 43 = .ok (.aload_n 1, 1) := by decide +kernel
theorem dX5_smooth_44 : decode cX5_smooth 44 = .ok (.aload_n 1, 1) := by decide +kernel
theorem dX5_smooth_45 : decode cX5_smooth 45 = .ok (.getfield 101, 3) := by decide +kernel
theorem dX5_smooth_48 : decode cX5_smooth 48 = .ok (.iload_n 2, 1) := by decide +kernel
theorem dX5_smooth_49 : decode cX5_smooth 49 = .ok (.iaload, 1) := by decide +kernel
theorem dX5_smooth_50 : decode cX5_smooth 50 = .ok (.aload_n 1, 1) := by decide +kernel
theorem dX5_smooth_51 : decode cX5_smooth 51 = .ok (.getfield 101, 3) := by decide +kernel
theorem dX5_smooth_54 : decode cX5_smooth 54 = .ok (.iload_n 2, 1) := by decide +kernel
theorem dX5_smooth_55 : decode cX5_smooth 55 = .ok (.iconst 1, 1) := by decide +kernel
theorem dX5_smooth_56 : decode cX5_smooth 56 = .ok (.iadd, 1) := by decide +kernel
theorem dX5_smooth_57 : decode cX5_smooth 57 = .ok (.iaload, 1) := by decide +kernel
theorem dX5_smooth_58 : decode cX5_smooth 58 = .ok (.invokevirtual 113, 3) := by decide +kernel
theorem dX5_smooth_61 : decode cX5_smooth 61 = .ok (.aload_n 1, 1) := by decide +kernel
theorem dX5_smooth_62 : decode cX5_smooth 62 = .ok (.aload_n 1, 1) := by decide +kernel
theorem dX5_smooth_63 : decode cX5_smooth 63 = .ok (.getfield 101, 3) := by decide +kernel
theorem dX5_smooth_66 : decode cX5_smooth 66 = .ok (.iload_n 2, 1) := by decide +kernel
theorem dX5_smooth_67 : decode cX5_smooth 67 = .ok (.iconst 2, 1) := by decide +kernel
theorem dX5_smooth_68 : decode cX5_smooth 68 = .ok (.iadd, 1) := by decide +kernel
theorem dX5_smooth_69 : decode cX5_smooth 69 = .ok (.iaload, 1) := by decide +kernel
theorem dX5_smooth_70 : decode cX5_smooth 70 = .ok (.aload_n 1, 1) := by decide +kernel
theorem dX5_smooth_71 : decode cX5_smooth 71 = .ok (.getfield 101, 3) := by decide +kernel
theorem dX5_smooth_74 : decode cX5_smooth 74 = .ok (.iload_n 2, 1) := by decide +kernel
theorem dX5_smooth_75 : decode cX5_smooth 75 = .ok (.iconst 3, 1) := by decide +kernel
theorem dX5_smooth_76 : decode cX5_smooth 76 = .ok (.iadd, 1) := by decide +kernel
theorem dX5_smooth_77 : decode cX5_smooth 77 = .ok (.iaload, 1) := by decide +kernel
theorem dX5_smooth_78 : decode cX5_smooth 78 = .ok (.invokevirtual 113, 3) := by decide +kernel
theorem dX5_smooth_81 : decode cX5_smooth 81 = .ok (.goto 41, 3) := by decide +kernel
theorem dX5_smooth_84 : decode cX5_smooth 84 = .ok (.aload_n 1, 1) := by decide +kernel
theorem dX5_smooth_85 : decode cX5_smooth 85 = .ok (.aload_n 1, 1) := by decide +kernel
theorem dX5_smooth_86 : decode cX5_smooth 86 = .ok (.getfield 101, 3) := by decide +kernel
theorem dX5_smooth_89 : decode cX5_smooth 89 = .ok (.iload_n 2, 1) := by decide +kernel
theorem dX5_smooth_90 : decode cX5_smooth 90 = .ok (.iaload, 1) := by decide +kernel
theorem dX5_smooth_91 : decode cX5_smooth 91 = .ok (.aload_n 1, 1) := by decide +kernel
theorem dX5_smooth_92 : decode cX5_smooth 92 = .ok (.getfield 101, 3) := by decide +kernel
theorem dX5_smooth_95 : decode cX5_smooth 95 = .ok (.iload_n 2, 1) := by decide +kernel
theorem dX5_smooth_96 : decode cX5_smooth 96 = .ok (.iconst 3, 1) := by decide +kernel
theorem dX5_smooth_97 : decode cX5_smooth 97 = .ok (.iadd, 1) := by decide +kernel
theorem dX5_smooth_98 : decode cX5_smooth 98 = .ok (.iaload, 1) := by decide +kernel
theorem dX5_smooth_99 : decode cX5_smooth 99 = .ok (.invokevirtual 113, 3) := by decide +kernel
theorem dX5_smooth_102 : decode cX5_smooth 102 = .ok (.aload_n 1, 1) := by decide +kernel
theorem dX5_smooth_103 : decode cX5_smooth 103 = .ok (.aload_n 1, 1) := by decide +kernel
theorem dX5_smooth_104 : decode cX5_smooth 104 = .ok (.getfield 101, 3) := by decide +kernel
theorem dX5_smooth_107 : decode cX5_smooth 107 = .ok (.iload_n 2, 1) := by decide +kernel
theorem dX5_smooth_108 : decode cX5_smooth 108 = .ok (.iconst 1, 1) := by decide +kernel
theorem dX5_smooth_109 : decode cX5_smooth 109 = .ok (.iadd, 1) := by decide +kernel
theorem dX5_smooth_110 : decode cX5_smooth 110 = .ok (.iaload, 1) := by decide +kernel
theorem dX5_smooth_111 : decode cX5_smooth 111 = .ok (.aload_n 1, 1) := by decide +kernel
theorem dX5_smooth_112 : decode cX5_smooth 112 = .ok (.getfield 101, 3) := by decide +kernel
theorem dX5_smooth_115 : decode cX5_smooth 115 = .ok (.iload_n 2, 1) := by decide +kernel
theorem dX5_smooth_116 : decode cX5_smooth 116 = .ok (.iconst 2, 1) := by decide +kernel
theorem dX5_smooth_117 : decode cX5_smooth 117 = .ok (.iadd, 1) := by decide +kernel
theorem dX5_smooth_118 : decode cX5_smooth 118 = .ok (.iaload, 1) := by decide +kernel
theorem dX5_smooth_119 : decode cX5_smooth 119 = .ok (.invokevirtual 113, 3) := by decide +kernel
theorem dX5_smooth_122 : decode cX5_smooth 122 = .ok (.aload_n 1, 1) := by decide +kernel
theorem dX5_smooth_123 : decode cX5_smooth 123 = .ok (.aload_n 0, 1) := by decide +kernel
theorem dX5_smooth_124 : decode cX5_smooth 124 = .ok (.getfield 15, 3) := by decide +kernel
theorem dX5_smooth_127 : decode cX5_smooth 127 = .ok (.invokevirtual 117, 3) := by decide +kernel
theorem dX5_smooth_130 : decode cX5_smooth 130 = .ok (.aload_n 1, 1) := by decide +kernel
theorem dX5_smooth_131 : decode cX5_smooth 131 = .ok (.invokestatic 121, 3) := by decide +kernel
theorem dX5_smooth_134 : decode cX5_smooth 134 = .ok (.ireturn, 1) := by decide +kernel
theorem dX5_change_0 : decode cX5_change 0 = .ok (.aload_n 1, 1) := by decide +kernel
theorem dX5_change_1 : decode cX5_change 1 = .ok (.aload_n 0, 1) := by decide +kernel
theorem dX5_change_2 : decode cX5_change 2 = .ok (.getfield 15, 3) := by decide +kernel
theorem dX5_change_5 : decode cX5_change 5 = .ok (.invokevirtual 165, 3) := by decide +kernel
theorem dX5_change_8 : decode cX5_change 8 = .ok (.ifCond .ne 6, 3) := by decide +kernel
theorem dX5_change_11 : decode cX5_change 11 = .ok (.bipush (-15), 2) := by decide +kernel
theorem dX5_change_13 : decode cX5_change 13 = .ok (.ireturn, 1) := by decide +kernel
theorem dX5_change_14 : decode cX5_change 14 = .ok (.aload_n 1, 1) := by decide +kernel
theorem dX5_change_15 : decode cX5_change 15 = .ok (.aload_n 0, 1) := by decide +kernel
theorem dX5_change_16 : decode cX5_change 16 = .ok (.getfield 15, 3) := by decide +kernel
theorem dX5_change_19 : decode cX5_change 19 = .ok (.iload_n 2, 1) := by decide +kernel
theorem dX5_change_20 : decode cX5_change 20 = .ok (.invokevirtual 168, 3) := by decide +kernel
theorem dX5_change_23 : decode cX5_change 23 = .ok (.iconst 1, 1) := by decide +kernel
theorem dX5_change_24 : decode cX5_change 24 = .ok (.ireturn, 1) := by decide +kernel
theorem dX11_init_0 : decode cX11_init 0 = .ok (.aload_n 0, 1) := by decide +kernel
theorem dX11_init_1 : decode cX11_init 1 = .ok (.invokespecial 3, 3) := by decide +kernel
theorem dX11_init_4 : decode cX11_init 4 = .ok (.aload_n 0, 1) := by decide +kernel
theorem dX11_init_5 : decode cX11_init 5 = .ok (.bipush 24, 2) := by decide +kernel
theorem dX11_init_7 : decode cX11_init 7 = .ok (.anewarray 9, 3) := by decide +kernel
theorem dX11_init_10 : decode cX11_init 10 = .ok (.putfield 11, 3) := by decide +kernel
theorem dX11_init_13 : decode cX11_init 13 = .ok (.aload_n 0, 1) := by decide +kernel
theorem dX11_init_14 : decode cX11_init 14 = .ok (.bipush 60, 2) := by decide +kernel
theorem dX11_init_16 : decode cX11_init 16 = .ok (.anewarray 15, 3) := by decide +kernel
theorem dX11_init_19 : decode cX11_init 19 = .ok (.putfield 17, 3) := by decide +kernel
theorem dX11_init_22 : decode cX11_init 22 = .ok (.aload_n 0, 1) := by decide +kernel
theorem dX11_init_23 : decode cX11_init 23 = .ok (.new 21, 3) := by decide +kernel
theorem dX11_init_26 : decode cX11_init 26 = .ok (.dup, 1) := by decide +kernel
theorem dX11_init_27 : decode cX11_init 27 = .ok (.sipush 130, 3) := by decide +kernel
theorem dX11_init_30 : decode cX11_init 30 = .ok (.invokespecial 23, 3) := by decide +kernel
theorem dX11_init_33 : decode cX11_init 33 = .ok (.putfield 26, 3) := by decide +kernel
theorem dX11_init_36 : decode cX11_init 36 = .ok (.aload_n 0, 1) := by decide +kernel
theorem dX11_init_37 : decode cX11_init 37 = .ok (.new 21, 3) := by decide +kernel
theorem dX11_init_40 : decode cX11_init 40 = .ok (.dup, 1) := by decide +kernel
theorem dX11_init_41 : decode cX11_init 41 = .ok (.iconst 3, 1) := by decide +kernel
theorem dX11_init_42 : decode cX11_init 42 = .ok (.invokespecial 23, 3) := by decide +kernel
theorem dX11_init_45 : decode cX11_init 45 = .ok (.putfield 30, 3) := by decide +kernel
theorem dX11_init_48 : decode cX11_init 48 = .ok (.aload_n 0, 1) := by decide +kernel
theorem dX11_init_49 : decode cX11_init 49 = .ok (.new 33, 3) := by decide +kernel
theorem dX11_init_52 : decode cX11_init 52 = .ok (.dup, 1) := by decide +kernel
theorem dX11_init_53 : decode cX11_init 53 = .ok (.invokespecial 35, 3) := by decide +kernel
theorem dX11_init_56 : decode cX11_init 56 = .ok (.putfield 36, 3) := by decide +kernel
theorem dX11_init_59 : decode cX11_init 59 = .ok (.aload_n 0, 1) := by decide +kernel
theorem dX11_init_60 : decode cX11_init 60 = .ok (.new 33, 3) := by decide +kernel
theorem dX11_init_63 : decode cX11_init 63 = .ok (.dup, 1) := by decide +kernel
theorem dX11_init_64 : decode cX11_init 64 = .ok (.invokespecial 35, 3) := by decide +kernel
theorem dX11_init_67 : decode cX11_init 67 = .ok (.putfield 40, 3) := by decide +kernel
theorem dX11_init_70 : decode cX11_init 70 = .ok (.aload_n 0, 1) := by decide +kernel
theorem dX11_init_71 : decode cX11_init 71 = .ok (.new 9, 3) := by decide +kernel
theorem dX11_init_74 : decode cX11_init 74 = .ok (.dup, 1) := by decide +kernel
theorem dX11_init_75 : decode cX11_init 75 = .ok (.invokespecial 43, 3) := by decide +kernel
theorem dX11_init_78 : decode cX11_init 78 = .ok (.putfield 44, 3) := by decide +kernel
theorem dX11_init_81 : decode cX11_init 81 = .ok (.aload_n 0, 1) := by decide +kernel
theorem dX11_init_82 : decode cX11_init 82 = .ok (.new 48, 3) := by decide +kernel
theorem dX11_init_85 : decode cX11_init 85 = .ok (.dup, 1) := by decide +kernel
theorem dX11_init_86 : decode cX11_init 86 = .ok (.invokespecial 50, 3) := by decide +kernel
theorem dX11_init_89 : decode cX11_init 89 = .ok (.putfield 51, 3) := by decide +kernel
theorem dX11_init_92 : decode cX11_init 92 = .ok (.aload_n 0, 1) := by decide +kernel
theorem dX11_init_93 : decode cX11_init 93 = .ok (.new 55, 3) := by decide +kernel
theorem dX11_init_96 : decode cX11_init 96 = .ok (.dup, 1) := by decide +kernel
theorem dX11_init_97 : decode cX11_init 97 = .ok (.invokespecial 57, 3) := by decide +kernel
theorem dX11_init_100 : decode cX11_init 100 = .ok (.putfield 58, 3) := by decide +kernel
theorem dX11_init_103 : decode cX11_init 103 = .ok (.aload_n 0, 1) := by decide +kernel
theorem dX11_init_104 : decode cX11_init 104 = .ok (.new 55, 3) := by decide +kernel
theorem dX11_init_107 : decode cX11_init 107 = .ok (.dup, 1) := by decide +kernel
theorem dX11_init_108 : decode cX11_init 108 = .ok (.invokespecial 57, 3) := by decide +kernel
theorem dX11_init_111 : decode cX11_init 111 = .ok (.putfield 62, 3) := by decide +kernel
theorem dX11_init_114 : decode cX11_init 114 = .ok (.aload_n 0, 1) := by decide +kernel
theorem dX11_init_115 : decode cX11_init 115 = .ok (.new 55, 3) := by decide +kernel
theorem dX11_init_118 : decode cX11_init 118 = .ok (.dup, 1) := by decide +kernel
theorem dX11_init_119 : decode cX11_init 119 = .ok (.invokespecial 57, 3) := by decide +kernel
theorem dX11_init_122 : decode cX11_init 122 = .ok (.putfield 65, 3) := by decide +kernel
theorem dX11_init_125 : decode cX11_init 125 = .ok (.aload_n 0, 1) := by decide +kernel
theorem dX11_init_126 : decode cX11_init 126 = .ok (.new 68, 3) := by decide +kernel
theorem dX11_init_129 : decode cX11_init 129 = .ok (.dup, 1) := by decide +kernel
theorem dX11_init_130 : decode cX11_init 130 = .ok (.invokespecial 70, 3) := by decide +kernel
theorem dX11_init_133 : decode cX11_init 133 = .ok (.putfield 71, 3) := by decide +kernel
theorem dX11_init_136 : decode cX11_init 136 = .ok (.aload_n 0, 1) := by decide +kernel
theorem dX11_init_137 : decode cX11_init 137 = .ok (.new 75, 3) := by decide +kernel
theorem dX11_init_140 : decode cX11_init 140 = .ok (.dup, 1) := by decide +kernel
theorem dX11_init_141 : decode cX11_init 141 = .ok (.invokespecial 77, 3) := by decide +kernel
theorem dX11_init_144 : decode cX11_init 144 = .ok (.putfield 78, 3) := by decide +kernel
theorem dX11_init_147 : decode cX11_init 147 = .ok (.aload_n 0, 1) := by decide +kernel
theorem dX11_init_148 : decode cX11_init 148 = .ok (.new 82, 3) := by decide +kernel
theorem dX11_init_151 : decode cX11_init 151 = .ok (.dup, 1) := by decide +kernel
theorem dX11_init_152 : decode cX11_init 152 = .ok (.invokespecial 84, 3) := by decide +kernel
theorem dX11_init_155 : decode cX11_init 155 = .ok (.putfield 85, 3) := by decide +kernel
theorem dX11_init_158 : decode cX11_init 158 = .ok (.aload_n 0, 1) := by decide +kernel
theorem dX11_init_159 : decode cX11_init 159 = .ok (.bipush 10, 2) := by decide +kernel
theorem dX11_init_161 : decode cX11_init 161 = .ok (.newarray .int, 2) := by decide +kernel
theorem dX11_init_163 : decode cX11_init 163 = .ok (.putfield 89, 3) := by decide +kernel
theorem dX11_init_166 : decode cX11_init 166 = .ok (.aload_n 0, 1) := by decide +kernel
theorem dX11_init_167 : decode cX11_init 167 = .ok (.iconst (-1), 1) := by decide +kernel
theorem dX11_init_168 : decode cX11_init 168 = .ok (.putfield 93, 3) := by decide +kernel
theorem dX11_init_171 : decode cX11_init 171 = .ok (.return_, 1) := by decide +kernel
theorem dX11_hasPicture_0 : decode cX11_hasPicture 0 = .ok (.iload_n 1, 1) := by decide +kernel
theorem dX11_hasPicture_1 : decode cX11_hasPicture 1 = .ok (.ifCond .lt 15, 3) := by decide +kernel
theorem dX11_hasPicture_4 : decode cX11_hasPicture 4 = .ok (.iload_n 1, 1) := by decide +kernel
theorem dX11_hasPicture_5 : decode cX11_hasPicture 5 = .ok (.aload_n 0, 1) := by decide +kernel
theorem dX11_hasPicture_6 : decode cX11_hasPicture 6 = .ok (.getfield 97, 3) := by decide +kernel
theorem dX11_hasPicture_9 : decode cX11_hasPicture 9 = .ok (.if_icmp .ge 7, 3) := by decide +kernel
theorem dX11_hasPicture_12 : decode cX11_hasPicture 12 = .ok (.iconst 1, 1) := by decide +kernel
theorem dX11_hasPicture_13 : decode cX11_hasPicture 13 = .ok (.goto 4, 3) := by decide +kernel
theorem dX11_hasPicture_16 : decode cX11_hasPicture 16 = .ok (.iconst 0, 1) := by decide +kernel
theorem dX11_hasPicture_17 : decode cX11_hasPicture 17 = .ok (.ireturn, 1) := by decide +kernel
theorem dX11_hasMove_0 : decode cX11_hasMove 0 = .ok (.iload_n 1, 1) := by decide +kernel
theorem dX11_hasMove_1 : decode cX11_hasMove 1 = .ok (.ifCond .lt 15, 3) := by decide +kernel
theorem dX11_hasMove_4 : decode cX11_hasMove 4 = .ok (.iload_n 1, 1) := by decide +kernel
theorem dX11_hasMove_5 : decode cX11_hasMove 5 = .ok (.aload_n 0, 1) := by decide +kernel
theorem dX11_hasMove_6 : decode cX11_hasMove 6 = .ok (.getfield 100, 3) := by decide +kernel
theorem dX11_hasMove_9 : decode cX11_hasMove 9 = .ok (.if_icmp .ge 7, 3) := by decide +kernel
theorem dX11_hasMove_12 : decode cX11_hasMove 12 = .ok (.iconst 1, 1) := by decide +kernel
theorem dX11_hasMove_13 : decode cX11_hasMove 13 = .ok (.goto 4, 3) := by decide +kernel
theorem dX11_hasMove_16 : decode cX11_hasMove 16 = .ok (.iconst 0, 1) := by decide +kernel
theorem dX11_hasMove_17 : decode cX11_hasMove 17 = .ok (.ireturn, 1) := by decide +kernel
theorem dX11_isWhole_0 : decode cX11_isWhole 0 = .ok (.aload_n 2, 1) := by decide +kernel
theorem dX11_isWhole_1 : decode cX11_isWhole 1 = .ok (.aload_n 0, 1) := by decide +kernel
theorem dX11_isWhole_2 : decode cX11_isWhole 2 = .ok (.getfield 11, 3) := by decide +kernel
theorem dX11_isWhole_5 : decode cX11_isWhole 5 = .ok (.iload_n 1, 1) := by decide +kernel
theorem dX11_isWhole_6 : decode cX11_isWhole 6 = .ok (.aaload, 1) := by decide +kernel
theorem dX11_isWhole_7 : decode cX11_isWhole 7 = .ok (.invokevirtual 103, 3) := by decide +kernel
theorem dX11_isWhole_10 : decode cX11_isWhole 10 = .ok (.aload_n 2, 1) := by decide +kernel
theorem dX11_isWhole_11 : decode cX11_isWhole 11 = .ok (.getfield 107, 3) := by decide +kernel
theorem dX11_isWhole_14 : decode cX11_isWhole 14 = .ok (.ifCond .ne 7, 3) := by decide +kernel
theorem dX11_isWhole_17 : decode cX11_isWhole 17 = .ok (.iconst 1, 1) := by decide +kernel
theorem dX11_isWhole_18 : decode cX11_isWhole 18 = .ok (.goto 4, 3) := by decide +kernel
theorem dX11_isWhole_21 : decode cX11_isWhole 21 = .ok (.iconst 0, 1) := by decide +kernel
theorem dX11_isWhole_22 : decode cX11_isWhole 22 = .ok (.ireturn, 1) := by decide +kernel
theorem dX11_refuse_0 : decode cX11_refuse 0 = .ok (.aload_n 0, 1) := by decide +kernel
theorem dX11_refuse_1 : decode cX11_refuse 1 = .ok (.iload_n 1, 1) := by decide +kernel
theorem dX11_refuse_2 : decode cX11_refuse 2 = .ok (.putfield 110, 3) := by decide +kernel
theorem dX11_refuse_5 : decode cX11_refuse 5 = .ok (.bipush (-10), 2) := by decide +kernel
theorem dX11_refuse_7 : decode cX11_refuse 7 = .ok (.iload_n 1, 1) := by decide +kernel
theorem dX11_refuse_8 : decode cX11_refuse 8 = .ok (.isub, 1) := by decide +kernel
theorem dX11_refuse_9 : decode cX11_refuse 9 = .ok (.istore_n 2, 1) := by decide +kernel
theorem dX11_refuse_10 : decode cX11_refuse 10 = .ok (.iload_n 2, 1) := by decide +kernel
theorem dX11_refuse_11 : decode cX11_refuse 11 = .ok (.iconst 1, 1) := by decide +kernel
theorem dX11_refuse_12 : decode cX11_refuse 12 = .ok (.if_icmp .lt 19, 3) := by decide +kernel
theorem dX11_refuse_15 : decode cX11_refuse 15 = .ok (.iload_n 2, 1) := by decide +kernel
theorem dX11_refuse_16 : decode cX11_refuse 16 = .ok (.bipush 9, 2) := by decide +kernel
theorem dX11_refuse_18 : decode cX11_refuse 18 = .ok (.if_icmp .gt 13, 3) := by decide +kernel
theorem dX11_refuse_21 : decode cX11_refuse 21 = .ok (.aload_n 0, 1) := by decide +kernel
theorem dX11_refuse_22 : decode cX11_refuse 22 = .ok (.getfield 89, 3) := by decide +kernel
theorem dX11_refuse_25 : decode cX11_refuse 25 = .ok (.iload_n 2, 1) := by decide +kernel
theorem dX11_refuse_26 : decode cX11_refuse 26 = .ok (.dup2, 1) := by decide +kernel
theorem dX11_refuse_27 : decode cX11_refuse 27 = .ok (.iaload, 1) := by decide +kernel
theorem dX11_refuse_28 : decode cX11_refuse 28 = .ok (.iconst 1, 1) := by decide +kernel
theorem dX11_refuse_29 : decode cX11_refuse 29 = .ok (.iadd, 1) := by decide +kernel
theorem dX11_refuse_30 : decode cX11_refuse 30 = .ok (.iastore, 1) := by decide +kernel
theorem dX11_refuse_31 : decode cX11_refuse 31 = .ok (.iload_n 1, 1) := by decide +kernel
theorem dX11_refuse_32 : decode cX11_refuse 32 = .ok (.ireturn, 1) := by decide +kernel
theorem dX11_grant_0 : decode cX11_grant 0 = .ok (.aload_n 0, 1) := by decide +kernel
theorem dX11_grant_1 : decode cX11_grant 1 = .ok (.iconst 0, 1) := by decide +kernel
theorem dX11_grant_2 : decode cX11_grant 2 = .ok (.putfield 110, 3) := by decide +kernel
theorem dX11_grant_5 : decode cX11_grant 5 = .ok (.iload_n 1, 1) := by decide +kernel
theorem dX11_grant_6 : decode cX11_grant 6 = .ok (.ireturn, 1) := by decide +kernel
theorem dX11_isFull_0 : decode cX11_isFull 0 = .ok (.aload_n 0, 1) := by decide +kernel
theorem dX11_isFull_1 : decode cX11_isFull 1 = .ok (.getfield 97, 3) := by decide +kernel
theorem dX11_isFull_4 : decode cX11_isFull 4 = .ok (.bipush 24, 2) := by decide +kernel
theorem dX11_isFull_6 : decode cX11_isFull 6 = .ok (.if_icmp .lt 7, 3) := by decide +kernel
theorem dX11_isFull_9 : decode cX11_isFull 9 = .ok (.iconst 1, 1) := by decide +kernel
theorem dX11_isFull_10 : decode cX11_isFull 10 = .ok (.goto 4, 3) := by decide +kernel
theorem dX11_isFull_13 : decode cX11_isFull 13 = .ok (.iconst 0, 1) := by decide +kernel
theorem dX11_isFull_14 : decode cX11_isFull 14 = .ok (.ireturn, 1) := by decide +kernel
theorem dX11_addLike_0 : decode cX11_addLike 0 = .ok (.new 9, 3) := by decide +kernel
theorem dX11_addLike_3 : decode cX11_addLike 3 = .ok (.dup, 1) := by decide +kernel
theorem dX11_addLike_4 : decode cX11_addLike 4 = .ok (.invokespecial 43, 3) := by decide +kernel
theorem dX11_addLike_7 : decode cX11_addLike 7 = .ok (.astore_n 2, 1) := by decide +kernel
theorem dX11_addLike_8 : decode cX11_addLike 8 = .ok (.aload_n 2, 1) := by decide +kernel
theorem dX11_addLike_9 : decode cX11_addLike 9 = .ok (.aload_n 1, 1) := by decide +kernel
theorem dX11_addLike_10 : decode cX11_addLike 10 = .ok (.invokevirtual 113, 3) := by decide +kernel
theorem dX11_addLike_13 : decode cX11_addLike 13 = .ok (.aload_n 0, 1) := by decide +kernel
theorem dX11_addLike_14 : decode cX11_addLike 14 = .ok (.getfield 11, 3) := by decide +kernel
theorem dX11_addLike_17 : decode cX11_addLike 17 = .ok (.aload_n 0, 1) := by decide +kernel
theorem dX11_addLike_18 : decode cX11_addLike 18 = .ok (.getfield 97, 3) := by decide +kernel
theorem dX11_addLike_21 : decode cX11_addLike 21 = .ok (.aload_n 2, 1) := by decide +kernel
theorem dX11_addLike_22 : decode cX11_addLike 22 = .ok (.aastore, 1) := by decide +kernel
theorem dX11_addLike_23 : decode cX11_addLike 23 = .ok (.aload_n 0, 1) := by decide +kernel
theorem dX11_addLike_24 : decode cX11_addLike 24 = .ok (.dup, 1) := by decide +kernel
theorem dX11_addLike_25 : decode cX11_addLike 25 = .ok (.getfield 97, 3) := by decide +kernel
theorem dX11_addLike_28 : decode cX11_addLike 28 = .ok (.iconst 1, 1) := by decide +kernel
theorem dX11_addLike_29 : decode cX11_addLike 29 = .ok (.iadd, 1) := by decide +kernel
theorem dX11_addLike_30 : decode cX11_addLike 30 = .ok (.putfield 97, 3) := by decide +kernel
theorem dX11_addLike_33 : decode cX11_addLike 33 = .ok (.aload_n 0, 1) := by decide +kernel
theorem dX11_addLike_34 : decode cX11_addLike 34 = .ok (.getfield 97, 3) := by decide +kernel
theorem dX11_addLike_37 : decode cX11_addLike 37 = .ok (.iconst 1, 1) := by decide +kernel
theorem dX11_addLike_38 : decode cX11_addLike 38 = .ok (.isub, 1) := by decide +kernel
theorem dX11_addLike_39 : decode cX11_addLike 39 = .ok (.ireturn, 1) := by decide +kernel
theorem dX11_picture_0 : decode cX11_picture 0 = .ok (.aload_n 0, 1) := by decide +kernel
theorem dX11_picture_1 : decode cX11_picture 1 = .ok (.invokevirtual 116, 3) := by decide +kernel
theorem dX11_picture_4 : decode cX11_picture 4 = .ok (.ifCond .eq 10, 3) := by decide +kernel
theorem dX11_picture_7 : decode cX11_picture 7 = .ok (.aload_n 0, 1) := by decide +kernel
theorem dX11_picture_8 : decode cX11_picture 8 = .ok (.bipush (-3), 2) := by decide +kernel
theorem dX11_picture_10 : decode cX11_picture 10 = .ok (.invokevirtual 120, 3) := by decide +kernel
theorem dX11_picture_13 : decode cX11_picture 13 = .ok (.ireturn, 1) := by decide +kernel
theorem dX11_picture_14 : decode cX11_picture 14 = .ok (.aload_n 0, 1) := by decide +kernel
theorem dX11_picture_15 : decode cX11_picture 15 = .ok (.getfield 44, 3) := by decide +kernel
theorem dX11_picture_18 : decode cX11_picture 18 = .ok (.invokevirtual 124, 3) := by decide +kernel
theorem dX11_picture_21 : decode cX11_picture 21 = .ok (.aload_n 0, 1) := by decide +kernel
theorem dX11_picture_22 : decode cX11_picture 22 = .ok (.aload_n 0, 1) := by decide +kernel
theorem dX11_picture_23 : decode cX11_picture 23 = .ok (.aload_n 0, 1) := by decide +kernel
theorem dX11_picture_24 : decode cX11_picture 24 = .ok (.getfield 44, 3) := by decide +kernel
theorem dX11_picture_27 : decode cX11_picture 27 = .ok (.invokevirtual 127, 3) := by decide +kernel
theorem dX11_picture_30 : decode cX11_picture 30 = .ok (.invokevirtual 131, 3) := by decide +kernel
theorem dX11_picture_33 : decode cX11_picture 33 = .ok (.ireturn, 1) := by decide +kernel
theorem dX11_isArc_0 : decode cX11_isArc 0 = .ok (.iload_n 0, 1) := by decide +kernel
theorem dX11_isArc_1 : decode cX11_isArc 1 = .ok (.iconst (-1), 1) := by decide +kernel
theorem dX11_isArc_2 : decode cX11_isArc 2 = .ok (.if_icmp .lt 13, 3) := by decide +kernel
theorem dX11_isArc_5 : decode cX11_isArc 5 = .ok (.iload_n 0, 1) := by decide +kernel
theorem dX11_isArc_6 : decode cX11_isArc 6 = .ok (.bipush 100, 2) := by decide +kernel
theorem dX11_isArc_8 : decode cX11_isArc 8 = .ok (.if_icmp .ge 7, 3) := by decide +kernel
theorem dX11_isArc_11 : decode cX11_isArc 11 = .ok (.iconst 1, 1) := by decide +kernel
theorem dX11_isArc_12 : decode cX11_isArc 12 = .ok (.goto 4, 3) := by decide +kernel
theorem dX11_isArc_15 : decode cX11_isArc 15 = .ok (.iconst 0, 1) := by decide +kernel
theorem dX11_isArc_16 : decode cX11_isArc 16 = .ok (.ireturn, 1) := by decide +kernel
theorem dX11_crossing_0 : decode cX11_crossing 0 = .ok (.aload_n 0, 1) := by decide +kernel
theorem dX11_crossing_1 : decode cX11_crossing 1 = .ok (.iload_n 1, 1) := by decide +kernel
theorem dX11_crossing_2 : decode cX11_crossing 2 = .ok (.invokevirtual 134, 3) := by decide +kernel
theorem dX11_crossing_5 : decode cX11_crossing 5 = .ok (.ifCond .eq 33, 3) := by decide +kernel
theorem dX11_crossing_8 : decode cX11_crossing 8 = .ok (.iload_n 2, 1) := by decide +kernel
theorem dX11_crossing_9 : decode cX11_crossing 9 = .ok (.invokestatic 138, 3) := by decide +kernel
theorem dX11_crossing_12 : decode cX11_crossing 12 = .ok (.ifCond .eq 26, 3) := by decide +kernel
theorem dX11_crossing_15 : decode cX11_crossing 15 = .ok (.iload_n 3, 1) := by decide +kernel
theorem dX11_crossing_16 : decode cX11_crossing 16 = .ok (.invokestatic 138, 3) := by decide +kernel
theorem dX11_crossing_19 : decode cX11_crossing 19 = .ok (.ifCond .eq 19, 3) := by decide +kernel
theorem dX11_crossing_22 : decode cX11_crossing 22 = .ok (.iload 4, 2) := by decide +kernel
theorem dX11_crossing_24 : decode cX11_crossing 24 = .ok (.invokestatic 138, 3) := by decide +kernel
theorem dX11_crossing_27 : decode cX11_crossing 27 = .ok (.ifCond .eq 11, 3) := by decide +kernel
theorem dX11_crossing_30 : decode cX11_crossing 30 = .ok (.iload 5, 2) := by decide +kernel
theorem dX11_crossing_32 : decode cX11_crossing 32 = .ok (.invokestatic 138, 3) := by decide +kernel
theorem dX11_crossing_35 : decode cX11_crossing 35 = .ok (.ifCond .ne 10, 3) := by decide +kernel
theorem dX11_crossing_38 : decode cX11_crossing 38 = .ok (.aload_n 0, 1) := by decide +kernel
theorem dX11_crossing_39 : decode cX11_crossing 39 = .ok (.bipush (-2), 2) := by decide +kernel
theorem dX11_crossing_41 : decode cX11_crossing 41 = .ok (.invokevirtual 120, 3) := by decide +kernel
theorem dX11_crossing_44 : decode cX11_crossing 44 = .ok (.ireturn, 1) := by decide +kernel
theorem dX11_crossing_45 : decode cX11_crossing 45 = .ok (.aload_n 0, 1) := by decide +kernel
theorem dX11_crossing_46 : decode cX11_crossing 46 = .ok (.getfield 11, 3) := by decide +kernel
theorem dX11_crossing_49 : decode cX11_crossing 49 = .ok (.iload_n 1, 1) := by decide +kernel
theorem dX11_crossing_50 : decode cX11_crossing 50 = .ok (.aaload, 1) := by decide +kernel
theorem dX11_crossing_51 : decode cX11_crossing 51 = .ok (.astore 6, 2) := by decide +kernel
theorem dX11_crossing_53 : decode cX11_crossing 53 = .ok (.aload 6, 2) := by decide +kernel
theorem dX11_crossing_55 : decode cX11_crossing 55 = .ok (.getfield 141, 3) := by decide +kernel
theorem dX11_crossing_58 : decode cX11_crossing 58 = .ok (.bipush 40, 2) := by decide +kernel
theorem dX11_crossing_60 : decode cX11_crossing 60 = .ok (.if_icmp .lt 10, 3) := by decide +kernel
theorem dX11_crossing_63 : decode cX11_crossing 63 = .ok (.aload_n 0, 1) := by decide +kernel
theorem dX11_crossing_64 : decode cX11_crossing 64 = .ok (.bipush (-3), 2) := by decide +kernel
theorem dX11_crossing_66 : decode cX11_crossing 66 = .ok (.invokevirtual 120, 3) := by decide +kernel
theorem dX11_crossing_69 : decode cX11_crossing 69 = .ok (.ireturn, 1) := by decide +kernel
theorem dX11_crossing_70 : decode cX11_crossing 70 = .ok (.aload 6, 2) := by decide +kernel
theorem dX11_crossing_72 : decode cX11_crossing 72 = .ok (.invokevirtual 144, 3) := by decide +kernel
theorem dX11_crossing_75 : decode cX11_crossing 75 = .ok (.aload 6, 2) := by decide +kernel
theorem dX11_crossing_77 : decode cX11_crossing 77 = .ok (.iload_n 2, 1) := by decide +kernel
theorem dX11_crossing_78 : decode cX11_crossing 78 = .ok (.iload_n 3, 1) := by decide +kernel
theorem dX11_crossing_79 : decode cX11_crossing 79 = .ok (.iload 4, 2) := by decide +kernel
theorem dX11_crossing_81 : decode cX11_crossing 81 = .ok (.iload 5, 2) := by decide +kernel
theorem dX11_crossing_83 : decode cX11_crossing 83 = .ok (.invokevirtual 147, 3) := by decide +kernel
theorem dX11_crossing_86 : decode cX11_crossing 86 = .ok (.aload_n 0, 1) := by decide +kernel
theorem dX11_crossing_87 : decode cX11_crossing 87 = .ok (.aload 6, 2) := by decide +kernel
theorem dX11_crossing_89 : decode cX11_crossing 89 = .ok (.getfield 141, 3) := by decide +kernel
theorem dX11_crossing_92 : decode cX11_crossing 92 = .ok (.iconst 1, 1) := by decide +kernel
theorem dX11_crossing_93 : decode cX11_crossing 93 = .ok (.isub, 1) := by decide +kernel
theorem dX11_crossing_94 : decode cX11_crossing 94 = .ok (.invokevirtual 131, 3) := by decide +kernel
theorem dX11_crossing_97 : decode cX11_crossing 97 = .ok (.ireturn, 1) := by decide +kernel
theorem dX11_row_0 : decode cX11_row 0 = .ok (.aload_n 0, 1) := by decide +kernel
theorem dX11_row_1 : decode cX11_row 1 = .ok (.iload_n 1, 1) := by decide +kernel
theorem dX11_row_2 : decode cX11_row 2 = .ok (.invokevirtual 134, 3) := by decide +kernel
theorem dX11_row_5 : decode cX11_row 5 = .ok (.ifCond .eq 13, 3) := by decide +kernel
theorem dX11_row_8 : decode cX11_row 8 = .ok (.iload_n 3, 1) := by decide +kernel
theorem dX11_row_9 : decode cX11_row 9 = .ok (.iconst (-1), 1) := by decide +kernel
theorem dX11_row_10 : decode cX11_row 10 = .ok (.if_icmp .lt 8, 3) := by decide +kernel
theorem dX11_row_13 : decode cX11_row 13 = .ok (.iload_n 3, 1) := by decide +kernel
theorem dX11_row_14 : decode cX11_row 14 = .ok (.iconst 4, 1) := by decide +kernel
theorem dX11_row_15 : decode cX11_row 15 = .ok (.if_icmp .le 10, 3) := by decide +kernel
theorem dX11_row_18 : decode cX11_row 18 = .ok (.aload_n 0, 1) := by decide +kernel
theorem dX11_row_19 : decode cX11_row 19 = .ok (.bipush (-2), 2) := by decide +kernel
theorem dX11_row_21 : decode cX11_row 21 = .ok (.invokevirtual 120, 3) := by decide +kernel
theorem dX11_row_24 : decode cX11_row 24 = .ok (.ireturn, 1) := by decide +kernel
theorem dX11_row_25 : decode cX11_row 25 = .ok (.aload_n 0, 1) := by decide +kernel
theorem dX11_row_26 : decode cX11_row 26 = .ok (.getfield 11, 3) := by decide +kernel
theorem dX11_row_29 : decode cX11_row 29 = .ok (.iload_n 1, 1) := by decide +kernel
theorem dX11_row_30 : decode cX11_row 30 = .ok (.aaload, 1) := by decide +kernel
theorem dX11_row_31 : decode cX11_row 31 = .ok (.astore 4, 2) := by decide +kernel
theorem dX11_row_33 : decode cX11_row 33 = .ok (.aload 4, 2) := by decide +kernel
theorem dX11_row_35 : decode cX11_row 35 = .ok (.iload_n 2, 1) := by decide +kernel
theorem dX11_row_36 : decode cX11_row 36 = .ok (.invokevirtual 151, 3) := by decide +kernel
theorem dX11_row_39 : decode cX11_row 39 = .ok (.ifCond .ne 10, 3) := by decide +kernel
theorem dX11_row_42 : decode cX11_row 42 = .ok (.aload_n 0, 1) := by decide +kernel
theorem dX11_row_43 : decode cX11_row 43 = .ok (.bipush (-12), 2) := by decide +kernel
theorem dX11_row_45 : decode cX11_row 45 = .ok (.invokevirtual 120, 3) := by decide +kernel
theorem dX11_row_48 : decode cX11_row 48 = .ok (.ireturn, 1) := by decide +kernel
theorem dX11_row_49 : decode cX11_row 49 = .ok (.aload 4, 2) := by decide +kernel
theorem dX11_row_51 : decode cX11_row 51 = .ok (.invokevirtual 144, 3) := by decide +kernel
theorem dX11_row_54 : decode cX11_row 54 = .ok (.aload 4, 2) := by decide +kernel
theorem dX11_row_56 : decode cX11_row 56 = .ok (.iload_n 2, 1) := by decide +kernel
theorem dX11_row_57 : decode cX11_row 57 = .ok (.iload_n 3, 1) := by decide +kernel
theorem dX11_row_58 : decode cX11_row 58 = .ok (.invokevirtual 154, 3) := by decide +kernel
theorem dX11_row_61 : decode cX11_row 61 = .ok (.aload_n 0, 1) := by decide +kernel
theorem dX11_row_62 : decode cX11_row 62 = .ok (.iconst 1, 1) := by decide +kernel
theorem dX11_row_63 : decode cX11_row 63 = .ok (.invokevirtual 131, 3) := by decide +kernel
theorem dX11_row_66 : decode cX11_row 66 = .ok (.ireturn, 1) := by decide +kernel
theorem dX11_whyOutOfReach_0 : decode cX11_whyOutOfReach 0 = .ok (.aload_n 0, 1) := by decide +kernel
theorem dX11_whyOutOfReach_1 : decode cX11_whyOutOfReach 1 = .ok (.iload_n 1, 1) := by decide +kernel
theorem dX11_whyOutOfReach_2 : decode cX11_whyOutOfReach 2 = .ok (.invokevirtual 151, 3) := by decide +kernel
theorem dX11_whyOutOfReach_5 : decode cX11_whyOutOfReach 5 = .ok (.ifCond .ne 6, 3) := by decide +kernel
theorem dX11_whyOutOfReach_8 : decode cX11_whyOutOfReach 8 = .ok (.bipush (-12), 2) := by decide +kernel
theorem dX11_whyOutOfReach_10 : decode cX11_whyOutOfReach 10 = .ok (.ireturn, 1) := by decide +kernel
theorem dX11_whyOutOfReach_11 : decode cX11_whyOutOfReach 11 = .ok (.aload_n 0, 1) := by decide +kernel
theorem dX11_whyOutOfReach_12 : decode cX11_whyOutOfReach 12 = .ok (.getfield 158, 3) := by decide +kernel
theorem dX11_whyOutOfReach_15 : decode cX11_whyOutOfReach 15 = .ok (.iload_n 1, 1) := by decide +kernel
theorem dX11_whyOutOfReach_16 : decode cX11_whyOutOfReach 16 = .ok (.iaload, 1) := by decide +kernel
theorem dX11_whyOutOfReach_17 : decode cX11_whyOutOfReach 17 = .ok (.ifCond .ge 6, 3) := by decide +kernel
theorem dX11_whyOutOfReach_20 : decode cX11_whyOutOfReach 20 = .ok (.bipush (-11), 2) := by decide +kernel
theorem dX11_whyOutOfReach_22 : decode cX11_whyOutOfReach 22 = .ok (.ireturn, 1) := by decide +kernel
theorem dX11_whyOutOfReach_23 : decode cX11_whyOutOfReach 23 = .ok (.iload_n 2, 1) := by decide +kernel
theorem dX11_whyOutOfReach_24 : decode cX11_whyOutOfReach 24 = .ok (.ifCond .lt 13, 3) := by decide +kernel
theorem dX11_whyOutOfReach_27 : decode cX11_whyOutOfReach 27 = .ok (.iload_n 2, 1) := by decide +kernel
theorem dX11_whyOutOfReach_28 : decode cX11_whyOutOfReach 28 = .ok (.aload_n 0, 1) := by decide +kernel
theorem dX11_whyOutOfReach_29 : decode cX11_whyOutOfReach 29 = .ok (.getfield 158, 3) := by decide +kernel
theorem dX11_whyOutOfReach_32 : decode cX11_whyOutOfReach 32 = .ok (.iload_n 1, 1) := by decide +kernel
theorem dX11_whyOutOfReach_33 : decode cX11_whyOutOfReach 33 = .ok (.iaload, 1) := by decide +kernel
theorem dX11_whyOutOfReach_34 : decode cX11_whyOutOfReach 34 = .ok (.if_icmp .lt 8, 3) := by decide +kernel
theorem dX11_whyOutOfReach_37 : decode cX11_whyOutOfReach 37 = .ok (.bipush (-12), 2) := by decide +kernel
theorem dX11_whyOutOfReach_39 : decode cX11_whyOutOfReach 39 = .ok (.goto 4, 3) := by decide +kernel
theorem dX11_whyOutOfReach_42 : decode cX11_whyOutOfReach 42 = .ok (.iconst 0, 1) := by decide +kernel
theorem dX11_whyOutOfReach_43 : decode cX11_whyOutOfReach 43 = .ok (.ireturn, 1) := by decide +kernel
theorem dX11_end_0 : decode cX11_end 0 = .ok (.aload_n 0, 1) := by decide +kernel
theorem dX11_end_1 : decode cX11_end 1 = .ok (.iload_n 1, 1) := by decide +kernel
theorem dX11_end_2 : decode cX11_end 2 = .ok (.invokevirtual 134, 3) := by decide +kernel
theorem dX11_end_5 : decode cX11_end 5 = .ok (.ifCond .ne 10, 3) := by decide +kernel
theorem dX11_end_8 : decode cX11_end 8 = .ok (.aload_n 0, 1) := by decide +kernel
theorem dX11_end_9 : decode cX11_end 9 = .ok (.bipush (-2), 2) := by decide +kernel
theorem dX11_end_11 : decode cX11_end 11 = .ok (.invokevirtual 120, 3) := by decide +kernel
theorem dX11_end_14 : decode cX11_end 14 = .ok (.ireturn, 1) := by decide +kernel
theorem dX11_end_15 : decode cX11_end 15 = .ok (.aload_n 0, 1) := by decide +kernel
theorem dX11_end_16 : decode cX11_end 16 = .ok (.getfield 11, 3) := by decide +kernel
theorem dX11_end_19 : decode cX11_end 19 = .ok (.iload_n 1, 1) := by decide +kernel
theorem dX11_end_20 : decode cX11_end 20 = .ok (.aaload, 1) := by decide +kernel
theorem dX11_end_21 : decode cX11_end 21 = .ok (.iload_n 2, 1) := by decide +kernel
theorem dX11_end_22 : decode cX11_end 22 = .ok (.iload_n 3, 1) := by decide +kernel
theorem dX11_end_23 : decode cX11_end 23 = .ok (.invokestatic 161, 3) := by decide +kernel
theorem dX11_end_26 : decode cX11_end 26 = .ok (.istore 4, 2) := by decide +kernel
theorem dX11_end_28 : decode cX11_end 28 = .ok (.iload 4, 2) := by decide +kernel
theorem dX11_end_30 : decode cX11_end 30 = .ok (.ifCond .eq 12, 3) := by decide +kernel
theorem dX11_end_33 : decode cX11_end 33 = .ok (.aload_n 0, 1) := by decide +kernel
theorem dX11_end_34 : decode cX11_end 34 = .ok (.iload 4, 2) := by decide +kernel
theorem dX11_end_36 : decode cX11_end 36 = .ok (.invokevirtual 120, 3) := by decide +kernel
theorem dX11_end_39 : decode cX11_end 39 = .ok (.goto 22, 3) := by decide +kernel
theorem dX11_end_42 : decode cX11_end 42 = .ok (.aload_n 0, 1) := by decide +kernel
theorem dX11_end_43 : decode cX11_end 43 = .ok (.aload_n 0, 1) := by decide +kernel
theorem dX11_end_44 : decode cX11_end 44 = .ok (.getfield 11, 3) := by decide +kernel
theorem dX11_end_47 : decode cX11_end 47 = .ok (.iload_n 1, 1) := by decide +kernel
theorem dX11_end_48 : decode cX11_end 48 = .ok (.aaload, 1) := by decide +kernel
theorem dX11_end_49 : decode cX11_end 49 = .ok (.getfield 165, 3) := by decide +kernel
theorem dX11_end_52 : decode cX11_end 52 = .ok (.iconst 4, 1) := by decide +kernel
theorem dX11_end_53 : decode cX11_end 53 = .ok (.iload_n 2, 1) := by decide +kernel
theorem dX11_end_54 : decode cX11_end 54 = .ok (.imul, 1) := by decide +kernel
theorem dX11_end_55 : decode cX11_end 55 = .ok (.iload_n 3, 1) := by decide +kernel
theorem dX11_end_56 : decode cX11_end 56 = .ok (.iadd, 1) := by decide +kernel
theorem dX11_end_57 : decode cX11_end 57 = .ok (.iaload, 1) := by decide +kernel
theorem dX11_end_58 : decode cX11_end 58 = .ok (.invokevirtual 131, 3) := by decide +kernel
theorem dX11_end_61 : decode cX11_end 61 = .ok (.ireturn, 1) := by decide +kernel
theorem dX11_put_0 : decode cX11_put 0 = .ok (.aload_n 0, 1) := by decide +kernel
theorem dX11_put_1 : decode cX11_put 1 = .ok (.iload_n 1, 1) := by decide +kernel
theorem dX11_put_2 : decode cX11_put 2 = .ok (.invokevirtual 134, 3) := by decide +kernel
theorem dX11_put_5 : decode cX11_put 5 = .ok (.ifCond .eq 11, 3) := by decide +kernel
theorem dX11_put_8 : decode cX11_put 8 = .ok (.iload 4, 2) := by decide +kernel
theorem dX11_put_10 : decode cX11_put 10 = .ok (.invokestatic 138, 3) := by decide +kernel
theorem dX11_put_13 : decode cX11_put 13 = .ok (.ifCond .ne 10, 3) := by decide +kernel
theorem dX11_put_16 : decode cX11_put 16 = .ok (.aload_n 0, 1) := by decide +kernel
theorem dX11_put_17 : decode cX11_put 17 = .ok (.bipush (-2), 2) := by decide +kernel
theorem dX11_put_19 : decode cX11_put 19 = .ok (.invokevirtual 120, 3) := by decide +kernel
theorem dX11_put_22 : decode cX11_put 22 = .ok (.ireturn, 1) := by decide +kernel
theorem dX11_put_23 : decode cX11_put 23 = .ok (.aload_n 0, 1) := by decide +kernel
theorem dX11_put_24 : decode cX11_put 24 = .ok (.getfield 11, 3) := by decide +kernel
theorem dX11_put_27 : decode cX11_put 27 = .ok (.iload_n 1, 1) := by decide +kernel
theorem dX11_put_28 : decode cX11_put 28 = .ok (.aaload, 1) := by decide +kernel
theorem dX11_put_29 : decode cX11_put 29 = .ok (.iload_n 2, 1) := by decide +kernel
theorem dX11_put_30 : decode cX11_put 30 = .ok (.iload_n 3, 1) := by decide +kernel
theorem dX11_put_31 : decode cX11_put 31 = .ok (.invokestatic 161, 3) := by decide +kernel
theorem dX11_put_34 : decode cX11_put 34 = .ok (.istore 5, 2) := by decide +kernel
theorem dX11_put_36 : decode cX11_put 36 = .ok (.iload 5, 2) := by decide +kernel
theorem dX11_put_38 : decode cX11_put 38 = .ok (.ifCond .eq 10, 3) := by decide +kernel
theorem dX11_put_41 : decode cX11_put 41 = .ok (.aload_n 0, 1) := by decide +kernel
theorem dX11_put_42 : decode cX11_put 42 = .ok (.iload 5, 2) := by decide +kernel
theorem dX11_put_44 : decode cX11_put 44 = .ok (.invokevirtual 120, 3) := by decide +kernel
theorem dX11_put_47 : decode cX11_put 47 = .ok (.ireturn, 1) := by decide +kernel
theorem dX11_put_48 : decode cX11_put 48 = .ok (.aload_n 0, 1) := by decide +kernel
theorem dX11_put_49 : decode cX11_put 49 = .ok (.getfield 11, 3) := by decide +kernel
theorem dX11_put_52 : decode cX11_put 52 = .ok (.iload_n 1, 1) := by decide +kernel
theorem dX11_put_53 : decode cX11_put 53 = .ok (.aaload, 1) := by decide +kernel
theorem dX11_put_54 : decode cX11_put 54 = .ok (.invokevirtual 144, 3) := by decide +kernel
theorem dX11_put_57 : decode cX11_put 57 = .ok (.aload_n 0, 1) := by decide +kernel
theorem dX11_put_58 : decode cX11_put 58 = .ok (.getfield 11, 3) := by decide +kernel
theorem dX11_put_61 : decode cX11_put 61 = .ok (.iload_n 1, 1) := by decide +kernel
theorem dX11_put_62 : decode cX11_put 62 = .ok (.aaload, 1) := by decide +kernel
theorem dX11_put_63 : decode cX11_put 63 = .ok (.getfield 165, 3) := by decide +kernel
theorem dX11_put_66 : decode cX11_put 66 = .ok (.iconst 4, 1) := by decide +kernel
theorem dX11_put_67 : decode cX11_put 67 = .ok (.iload_n 2, 1) := by decide +kernel
theorem dX11_put_68 : decode cX11_put 68 = .ok (.imul, 1) := by decide +kernel
theorem dX11_put_69 : decode cX11_put 69 = .ok (.iload_n 3, 1) := by decide +kernel
theorem dX11_put_70 : decode cX11_put 70 = .ok (.iadd, 1) := by decide +kernel
theorem dX11_put_71 : decode cX11_put 71 = .ok (.iload 4, 2) := by decide +kernel
theorem dX11_put_73 : decode cX11_put 73 = .ok (.iastore, 1) := by decide +kernel
theorem dX11_put_74 : decode cX11_put 74 = .ok (.aload_n 0, 1) := by decide +kernel
theorem dX11_put_75 : decode cX11_put 75 = .ok (.iconst 1, 1) := by decide +kernel
theorem dX11_put_76 : decode cX11_put 76 = .ok (.invokevirtual 131, 3) := by decide +kernel
theorem dX11_put_79 : decode cX11_put 79 = .ok (.ireturn, 1) := by decide +kernel
theorem dX11_reaches_0 : decode cX11_reaches 0 = .ok (.iload_n 1, 1) := by decide +kernel
theorem dX11_reaches_1 : decode cX11_reaches 1 = .ok (.ifCond .lt 23, 3) := by decide +kernel
theorem dX11_reaches_4 : decode cX11_reaches 4 = .ok (.iload_n 2, 1) := by decide +kernel
theorem dX11_reaches_5 : decode cX11_reaches 5 = .ok (.ifCond .lt 19, 3) := by decide +kernel
theorem dX11_reaches_8 : decode cX11_reaches 8 = .ok (.iload_n 1, 1) := by decide +kernel
theorem dX11_reaches_9 : decode cX11_reaches 9 = .ok (.iload_n 0, 1) := by decide +kernel
theorem dX11_reaches_10 : decode cX11_reaches 10 = .ok (.if_icmp .gt 14, 3) := by decide +kernel
theorem dX11_reaches_13 : decode cX11_reaches 13 = .ok (.iload_n 2, 1) := by decide +kernel
theorem dX11_reaches_14 : decode cX11_reaches 14 = .ok (.iload_n 0, 1) := by decide +kernel
theorem dX11_reaches_15 : decode cX11_reaches 15 = .ok (.iload_n 1, 1) := by decide +kernel
theorem dX11_reaches_16 : decode cX11_reaches 16 = .ok (.isub, 1) := by decide +kernel
theorem dX11_reaches_17 : decode cX11_reaches 17 = .ok (.if_icmp .gt 7, 3) := by decide +kernel
theorem dX11_reaches_20 : decode cX11_reaches 20 = .ok (.iconst 1, 1) := by decide +kernel
theorem dX11_reaches_21 : decode cX11_reaches 21 = .ok (.goto 4, 3) := by decide +kernel
theorem dX11_reaches_24 : decode cX11_reaches 24 = .ok (.iconst 0, 1) := by decide +kernel
theorem dX11_reaches_25 : decode cX11_reaches 25 = .ok (.ireturn, 1) := by decide +kernel
theorem dX11_copy_0 : decode cX11_copy 0 = .ok (.aload_n 0, 1) := by decide +kernel
theorem dX11_copy_1 : decode cX11_copy 1 = .ok (.iload_n 1, 1) := by decide +kernel
theorem dX11_copy_2 : decode cX11_copy 2 = .ok (.invokevirtual 134, 3) := by decide +kernel
theorem dX11_copy_5 : decode cX11_copy 5 = .ok (.ifCond .eq 12, 3) := by decide +kernel
theorem dX11_copy_8 : decode cX11_copy 8 = .ok (.aload_n 0, 1) := by decide +kernel
theorem dX11_copy_9 : decode cX11_copy 9 = .ok (.iload 4, 2) := by decide +kernel
theorem dX11_copy_11 : decode cX11_copy 11 = .ok (.invokevirtual 134, 3) := by decide +kernel
theorem dX11_copy_14 : decode cX11_copy 14 = .ok (.ifCond .ne 10, 3) := by decide +kernel
theorem dX11_copy_17 : decode cX11_copy 17 = .ok (.aload_n 0, 1) := by decide +kernel
theorem dX11_copy_18 : decode cX11_copy 18 = .ok (.bipush (-2), 2) := by decide +kernel
theorem dX11_copy_20 : decode cX11_copy 20 = .ok (.invokevirtual 120, 3) := by decide +kernel
theorem dX11_copy_23 : decode cX11_copy 23 = .ok (.ireturn, 1) := by decide +kernel
theorem dX11_copy_24 : decode cX11_copy 24 = .ok (.aload_n 0, 1) := by decide +kernel
theorem dX11_copy_25 : decode cX11_copy 25 = .ok (.getfield 11, 3) := by decide +kernel
theorem dX11_copy_28 : decode cX11_copy 28 = .ok (.iload_n 1, 1) := by decide +kernel
theorem dX11_copy_29 : decode cX11_copy 29 = .ok (.aaload, 1) := by decide +kernel
theorem dX11_copy_30 : decode cX11_copy 30 = .ok (.astore 8, 2) := by decide +kernel
theorem dX11_copy_32 : decode cX11_copy 32 = .ok (.aload_n 0, 1) := by decide +kernel
theorem dX11_copy_33 : decode cX11_copy 33 = .ok (.getfield 11, 3) := by decide +kernel
theorem dX11_copy_36 : decode cX11_copy 36 = .ok (.iload 4, 2) := by decide +kernel
theorem dX11_copy_38 : decode cX11_copy 38 = .ok (.aaload, 1) := by decide +kernel
theorem dX11_copy_39 : decode cX11_copy 39 = .ok (.astore 9, 2) := by decide +kernel
theorem dX11_copy_41 : decode cX11_copy 41 = .ok (.aload 8, 2) := by decide +kernel
theorem dX11_copy_43 : decode cX11_copy 43 = .ok (.iload_n 2, 1) := by decide +kernel
theorem dX11_copy_44 : decode cX11_copy 44 = .ok (.invokevirtual 151, 3) := by decide +kernel
theorem dX11_copy_47 : decode cX11_copy 47 = .ok (.ifCond .eq 13, 3) := by decide +kernel
theorem dX11_copy_50 : decode cX11_copy 50 = .ok (.aload 9, 2) := by decide +kernel
theorem dX11_copy_52 : decode cX11_copy 52 = .ok (.iload 5, 2) := by decide +kernel
theorem dX11_copy_54 : decode cX11_copy 54 = .ok (.invokevirtual 151, 3) := by decide +kernel
theorem dX11_copy_57 : decode cX11_copy 57 = .ok (.ifCond .ne 10, 3) := by decide +kernel
theorem dX11_copy_60 : decode cX11_copy 60 = .ok (.aload_n 0, 1) := by decide +kernel
theorem dX11_copy_61 : decode cX11_copy 61 = .ok (.bipush (-12), 2) := by decide +kernel
theorem dX11_copy_63 : decode cX11_copy 63 = .ok (.invokevirtual 120, 3) := by decide +kernel
theorem dX11_copy_66 : decode cX11_copy 66 = .ok (.ireturn, 1) := by decide +kernel
theorem dX11_copy_67 : decode cX11_copy 67 = .ok (.aload 8, 2) := by decide +kernel
theorem dX11_copy_69 : decode cX11_copy 69 = .ok (.getfield 158, 3) := by decide +kernel
theorem dX11_copy_72 : decode cX11_copy 72 = .ok (.iload_n 2, 1) := by decide +kernel
theorem dX11_copy_73 : decode cX11_copy 73 = .ok (.iaload, 1) := by decide +kernel
theorem dX11_copy_74 : decode cX11_copy 74 = .ok (.ifCond .lt 14, 3) := by decide +kernel
theorem dX11_copy_77 : decode cX11_copy 77 = .ok (.aload 9, 2) := by decide +kernel
theorem dX11_copy_79 : decode cX11_copy 79 = .ok (.getfield 158, 3) := by decide +kernel
theorem dX11_copy_82 : decode cX11_copy 82 = .ok (.iload 5, 2) := by decide +kernel
theorem dX11_copy_84 : decode cX11_copy 84 = .ok (.iaload, 1) := by decide +kernel
theorem dX11_copy_85 : decode cX11_copy 85 = .ok (.ifCond .ge 10, 3) := by decide +kernel
theorem dX11_copy_88 : decode cX11_copy 88 = .ok (.aload_n 0, 1) := by decide +kernel
theorem dX11_copy_89 : decode cX11_copy 89 = .ok (.bipush (-11), 2) := by decide +kernel
theorem dX11_copy_91 : decode cX11_copy 91 = .ok (.invokevirtual 120, 3) := by decide +kernel
theorem dX11_copy_94 : decode cX11_copy 94 = .ok (.ireturn, 1) := by decide +kernel
theorem dX11_copy_95 : decode cX11_copy 95 = .ok (.aload 8, 2) := by decide +kernel
theorem dX11_copy_97 : decode cX11_copy 97 = .ok (.getfield 158, 3) := by decide +kernel
theorem dX11_copy_100 : decode cX11_copy 100 = .ok (.iload_n 2, 1) := by decide +kernel
theorem dX11_copy_101 : decode cX11_copy 101 = .ok (.iaload, 1) := by decide +kernel
theorem dX11_copy_102 : decode cX11_copy 102 = .ok (.iload_n 3, 1) := by decide +kernel
theorem dX11_copy_103 : decode cX11_copy 103 = .ok (.iload 7, 2) := by decide +kernel
theorem dX11_copy_105 : decode cX11_copy 105 = .ok (.invokestatic 168, 3) := by decide +kernel
theorem dX11_copy_108 : decode cX11_copy 108 = .ok (.ifCond .eq 21, 3) := by decide +kernel
theorem dX11_copy_111 : decode cX11_copy 111 = .ok (.aload 9, 2) := by decide +kernel
theorem dX11_copy_113 : decode cX11_copy 113 = .ok (.getfield 158, 3) := by decide +kernel
theorem dX11_copy_116 : decode cX11_copy 116 = .ok (.iload 5, 2) := by decide +kernel
theorem dX11_copy_118 : decode cX11_copy 118 = .ok (.iaload, 1) := by decide +kernel
theorem dX11_copy_119 : decode cX11_copy 119 = .ok (.iload 6, 2) := by decide +kernel
theorem dX11_copy_121 : decode cX11_copy 121 = .ok (.iload 7, 2) := by decide +kernel
theorem dX11_copy_123 : decode cX11_copy 123 = .ok (.invokestatic 168, 3) := by decide +kernel
theorem dX11_copy_126 : decode cX11_copy 126 = .ok (.ifCond .ne 10, 3) := by decide +kernel
theorem dX11_copy_129 : decode cX11_copy 129 = .ok (.aload_n 0, 1) := by decide +kernel
theorem dX11_copy_130 : decode cX11_copy 130 = .ok (.bipush (-12), 2) := by decide +kernel
theorem dX11_copy_132 : decode cX11_copy 132 = .ok (.invokevirtual 120, 3) := by decide +kernel
theorem dX11_copy_135 : decode cX11_copy 135 = .ok (.ireturn, 1) := by decide +kernel
theorem dX11_copy_136 : decode cX11_copy 136 = .ok (.aload 9, 2) := by decide +kernel
theorem dX11_copy_138 : decode cX11_copy 138 = .ok (.invokevirtual 144, 3) := by decide +kernel
theorem dX11_copy_141 : decode cX11_copy 141 = .ok (.aload 8, 2) := by decide +kernel
theorem dX11_copy_143 : decode cX11_copy 143 = .ok (.getfield 165, 3) := by decide +kernel
theorem dX11_copy_146 : decode cX11_copy 146 = .ok (.iconst 4, 1) := by decide +kernel
theorem dX11_copy_147 : decode cX11_copy 147 = .ok (.iload_n 2, 1) := by decide +kernel
theorem dX11_copy_148 : decode cX11_copy 148 = .ok (.imul, 1) := by decide +kernel
theorem dX11_copy_149 : decode cX11_copy 149 = .ok (.iload_n 3, 1) := by decide +kernel
theorem dX11_copy_150 : decode cX11_copy 150 = .ok (.iadd, 1) := by decide +kernel
theorem dX11_copy_151 : decode cX11_copy 151 = .ok (.aload 9, 2) := by decide +kernel
theorem dX11_copy_153 : decode cX11_copy 153 = .ok (.getfield 165, 3) := by decide +kernel
theorem dX11_copy_156 : decode cX11_copy 156 = .ok (.iconst 4, 1) := by decide +kernel
theorem dX11_copy_157 : decode cX11_copy 157 = .ok (.iload 5, 2) := by decide +kernel
theorem dX11_copy_159 : decode cX11_copy 159 = .ok (.imul, 1) := by decide +kernel
theorem dX11_copy_160 : decode cX11_copy 160 = .ok (.iload 6, 2) := by decide +kernel
theorem dX11_copy_162 : decode cX11_copy 162 = .ok (.iadd, 1) := by decide +kernel
theorem dX11_copy_163 : decode cX11_copy 163 = .ok (.iload 7, 2) := by decide +kernel
theorem dX11_copy_165 : decode cX11_copy 165 = .ok (.invokestatic 172, 3) := by decide +kernel
theorem dX11_copy_168 : decode cX11_copy 168 = .ok (.aload_n 0, 1) := by decide +kernel
theorem dX11_copy_169 : decode cX11_copy 169 = .ok (.iconst 1, 1) := by decide +kernel
theorem dX11_copy_170 : decode cX11_copy 170 = .ok (.invokevirtual 131, 3) := by decide +kernel
theorem dX11_copy_173 : decode cX11_copy 173 = .ok (.ireturn, 1) := by decide +kernel
theorem dX11_loose_0 : decode cX11_loose 0 = .ok (.aload_n 0, 1) := by decide +kernel
theorem dX11_loose_1 : decode cX11_loose 1 = .ok (.iload_n 1, 1) := by decide +kernel
theorem dX11_loose_2 : decode cX11_loose 2 = .ok (.invokevirtual 134, 3) := by decide +kernel
theorem dX11_loose_5 : decode cX11_loose 5 = .ok (.ifCond .eq 13, 3) := by decide +kernel
theorem dX11_loose_8 : decode cX11_loose 8 = .ok (.iload_n 2, 1) := by decide +kernel
theorem dX11_loose_9 : decode cX11_loose 9 = .ok (.ifCond .lt 9, 3) := by decide +kernel
theorem dX11_loose_12 : decode cX11_loose 12 = .ok (.iload_n 2, 1) := by decide +kernel
theorem dX11_loose_13 : decode cX11_loose 13 = .ok (.bipush 9, 2) := by decide +kernel
theorem dX11_loose_15 : decode cX11_loose 15 = .ok (.if_icmp .le 10, 3) := by decide +kernel
theorem dX11_loose_18 : decode cX11_loose 18 = .ok (.aload_n 0, 1) := by decide +kernel
theorem dX11_loose_19 : decode cX11_loose 19 = .ok (.bipush (-2), 2) := by decide +kernel
theorem dX11_loose_21 : decode cX11_loose 21 = .ok (.invokevirtual 120, 3) := by decide +kernel
theorem dX11_loose_24 : decode cX11_loose 24 = .ok (.ireturn, 1) := by decide +kernel
theorem dX11_loose_25 : decode cX11_loose 25 = .ok (.aload_n 0, 1) := by decide +kernel
theorem dX11_loose_26 : decode cX11_loose 26 = .ok (.getfield 11, 3) := by decide +kernel
theorem dX11_loose_29 : decode cX11_loose 29 = .ok (.iload_n 1, 1) := by decide +kernel
theorem dX11_loose_30 : decode cX11_loose 30 = .ok (.aaload, 1) := by decide +kernel
theorem dX11_loose_31 : decode cX11_loose 31 = .ok (.astore_n 3, 1) := by decide +kernel
theorem dX11_loose_32 : decode cX11_loose 32 = .ok (.aload_n 3, 1) := by decide +kernel
theorem dX11_loose_33 : decode cX11_loose 33 = .ok (.getfield 178, 3) := by decide +kernel
theorem dX11_loose_36 : decode cX11_loose 36 = .ok (.istore 4, 2) := by decide +kernel
theorem dX11_loose_38 : decode cX11_loose 38 = .ok (.aload_n 3, 1) := by decide +kernel
theorem dX11_loose_39 : decode cX11_loose 39 = .ok (.invokevirtual 144, 3) := by decide +kernel
theorem dX11_loose_42 : decode cX11_loose 42 = .ok (.aload_n 3, 1) := by decide +kernel
theorem dX11_loose_43 : decode cX11_loose 43 = .ok (.iload_n 2, 1) := by decide +kernel
theorem dX11_loose_44 : decode cX11_loose 44 = .ok (.putfield 178, 3) := by decide +kernel
theorem dX11_loose_47 : decode cX11_loose 47 = .ok (.aload_n 0, 1) := by decide +kernel
theorem dX11_loose_48 : decode cX11_loose 48 = .ok (.iload 4, 2) := by decide +kernel
theorem dX11_loose_50 : decode cX11_loose 50 = .ok (.invokevirtual 131, 3) := by decide +kernel
theorem dX11_loose_53 : decode cX11_loose 53 = .ok (.ireturn, 1) := by decide +kernel
theorem dX11_open_0 : decode cX11_open 0 = .ok (.aload_n 0, 1) := by decide +kernel
theorem dX11_open_1 : decode cX11_open 1 = .ok (.iload_n 1, 1) := by decide +kernel
theorem dX11_open_2 : decode cX11_open 2 = .ok (.invokevirtual 134, 3) := by decide +kernel
theorem dX11_open_5 : decode cX11_open 5 = .ok (.ifCond .ne 10, 3) := by decide +kernel
theorem dX11_open_8 : decode cX11_open 8 = .ok (.aload_n 0, 1) := by decide +kernel
theorem dX11_open_9 : decode cX11_open 9 = .ok (.bipush (-2), 2) := by decide +kernel
theorem dX11_open_11 : decode cX11_open 11 = .ok (.invokevirtual 120, 3) := by decide +kernel
theorem dX11_open_14 : decode cX11_open 14 = .ok (.ireturn, 1) := by decide +kernel
theorem dX11_open_15 : decode cX11_open 15 = .ok (.aload_n 0, 1) := by decide +kernel
theorem dX11_open_16 : decode cX11_open 16 = .ok (.getfield 36, 3) := by decide +kernel
theorem dX11_open_19 : decode cX11_open 19 = .ok (.aload_n 0, 1) := by decide +kernel
theorem dX11_open_20 : decode cX11_open 20 = .ok (.getfield 11, 3) := by decide +kernel
theorem dX11_open_23 : decode cX11_open 23 = .ok (.iload_n 1, 1) := by decide +kernel
theorem dX11_open_24 : decode cX11_open 24 = .ok (.aaload, 1) := by decide +kernel
theorem dX11_open_25 : decode cX11_open 25 = .ok (.invokevirtual 103, 3) := by decide +kernel
theorem dX11_open_28 : decode cX11_open 28 = .ok (.aload_n 0, 1) := by decide +kernel
theorem dX11_open_29 : decode cX11_open 29 = .ok (.aload_n 0, 1) := by decide +kernel
theorem dX11_open_30 : decode cX11_open 30 = .ok (.getfield 36, 3) := by decide +kernel
theorem dX11_open_33 : decode cX11_open 33 = .ok (.getfield 181, 3) := by decide +kernel
theorem dX11_open_36 : decode cX11_open 36 = .ok (.putfield 93, 3) := by decide +kernel
theorem dX11_open_39 : decode cX11_open 39 = .ok (.aload_n 0, 1) := by decide +kernel
theorem dX11_open_40 : decode cX11_open 40 = .ok (.aload_n 0, 1) := by decide +kernel
theorem dX11_open_41 : decode cX11_open 41 = .ok (.getfield 36, 3) := by decide +kernel
theorem dX11_open_44 : decode cX11_open 44 = .ok (.getfield 107, 3) := by decide +kernel
theorem dX11_open_47 : decode cX11_open 47 = .ok (.invokevirtual 131, 3) := by decide +kernel
theorem dX11_open_50 : decode cX11_open 50 = .ok (.ireturn, 1) := by decide +kernel
theorem dX11_where_0 : decode cX11_where 0 = .ok (.aload_n 0, 1) := by decide +kernel
theorem dX11_where_1 : decode cX11_where 1 = .ok (.getfield 93, 3) := by decide +kernel
theorem dX11_where_4 : decode cX11_where 4 = .ok (.ireturn, 1) := by decide +kernel
theorem dX11_told_0 : decode cX11_told 0 = .ok (.aload_n 0, 1) := by decide +kernel
theorem dX11_told_1 : decode cX11_told 1 = .ok (.iload_n 1, 1) := by decide +kernel
theorem dX11_told_2 : decode cX11_told 2 = .ok (.invokevirtual 134, 3) := by decide +kernel
theorem dX11_told_5 : decode cX11_told 5 = .ok (.ifCond .eq 12, 3) := by decide +kernel
theorem dX11_told_8 : decode cX11_told 8 = .ok (.iload_n 2, 1) := by decide +kernel
theorem dX11_told_9 : decode cX11_told 9 = .ok (.ifCond .lt 8, 3) := by decide +kernel
theorem dX11_told_12 : decode cX11_told 12 = .ok (.iload_n 2, 1) := by decide +kernel
theorem dX11_told_13 : decode cX11_told 13 = .ok (.iconst 5, 1) := by decide +kernel
theorem dX11_told_14 : decode cX11_told 14 = .ok (.if_icmp .le 10, 3) := by decide +kernel
theorem dX11_told_17 : decode cX11_told 17 = .ok (.aload_n 0, 1) := by decide +kernel
theorem dX11_told_18 : decode cX11_told 18 = .ok (.bipush (-2), 2) := by decide +kernel
theorem dX11_told_20 : decode cX11_told 20 = .ok (.invokevirtual 120, 3) := by decide +kernel
theorem dX11_told_23 : decode cX11_told 23 = .ok (.ireturn, 1) := by decide +kernel
theorem dX11_told_24 : decode cX11_told 24 = .ok (.iload_n 2, 1) := by decide +kernel
theorem dX11_told_25 : decode cX11_told 25 = .ok (.ifCond .ne 17, 3) := by decide +kernel
theorem dX11_told_28 : decode cX11_told 28 = .ok (.aload_n 0, 1) := by decide +kernel
theorem dX11_told_29 : decode cX11_told 29 = .ok (.aload_n 0, 1) := by decide +kernel
theorem dX11_told_30 : decode cX11_told 30 = .ok (.getfield 11, 3) := by decide +kernel
theorem dX11_told_33 : decode cX11_told 33 = .ok (.iload_n 1, 1) := by decide +kernel
theorem dX11_told_34 : decode cX11_told 34 = .ok (.aaload, 1) := by decide +kernel
theorem dX11_told_35 : decode cX11_told 35 = .ok (.getfield 141, 3) := by decide +kernel
theorem dX11_told_38 : decode cX11_told 38 = .ok (.invokevirtual 131, 3) := by decide +kernel
theorem dX11_told_41 : decode cX11_told 41 = .ok (.ireturn, 1) := by decide +kernel
theorem dX11_told_42 : decode cX11_told 42 = .ok (.iload_n 2, 1) := by decide +kernel
theorem dX11_told_43 : decode cX11_told 43 = .ok (.iconst 1, 1) := by decide +kernel
theorem dX11_told_44 : decode cX11_told 44 = .ok (.if_icmp .ne 17, 3) := by decide +kernel
theorem dX11_told_47 : decode cX11_told 47 = .ok (.aload_n 0, 1) := by decide +kernel
theorem dX11_told_48 : decode cX11_told 48 = .ok (.aload_n 0, 1) := by decide +kernel
theorem dX11_told_49 : decode cX11_told 49 = .ok (.getfield 11, 3) := by decide +kernel
theorem dX11_told_52 : decode cX11_told 52 = .ok (.iload_n 1, 1) := by decide +kernel
theorem dX11_told_53 : decode cX11_told 53 = .ok (.aaload, 1) := by decide +kernel
theorem dX11_told_54 : decode cX11_told 54 = .ok (.getfield 178, 3) := by decide +kernel
theorem dX11_told_57 : decode cX11_told 57 = .ok (.invokevirtual 131, 3) := by decide +kernel
theorem dX11_told_60 : decode cX11_told 60 = .ok (.ireturn, 1) := by decide +kernel
theorem dX11_told_61 : decode cX11_told 61 = .ok (.aload_n 0, 1) := by decide +kernel
theorem dX11_told_62 : decode cX11_told 62 = .ok (.iload_n 1, 1) := by decide +kernel
theorem dX11_told_63 : decode cX11_told 63 = .ok (.aload_n 0, 1) := by decide +kernel
theorem dX11_told_64 : decode cX11_told 64 = .ok (.getfield 36, 3) := by decide +kernel
theorem dX11_told_67 : decode cX11_told 67 = .ok (.invokevirtual 184, 3) := by decide +kernel
theorem dX11_told_70 : decode cX11_told 70 = .ok (.ifCond .ne 10, 3) := by decide +kernel
theorem dX11_told_73 : decode cX11_told 73 = .ok (.aload_n 0, 1) := by decide +kernel
theorem dX11_told_74 : decode cX11_told 74 = .ok (.bipush (-13), 2) := by decide +kernel
theorem dX11_told_76 : decode cX11_told 76 = .ok (.invokevirtual 120, 3) := by decide +kernel
theorem dX11_told_79 : decode cX11_told 79 = .ok (.ireturn, 1) := by decide +kernel
theorem dX11_told_80 : decode cX11_told 80 = .ok (.iload_n 2, 1) := by decide +kernel
theorem dX11_told_81 : decode cX11_told 81 = .ok (.tableswitch 63 2 4 #[27, 39, 51], 27) := by decide +kernel
theorem dX11_told_108 : decode cX11_told 108 = .ok (.aload_n 0, 1) := by decide +kernel
theorem dX11_told_109 : decode cX11_told 109 = .ok (.aload_n 0, 1) := by decide +kernel
theorem dX11_told_110 : decode cX11_told 110 = .ok (.getfield 36, 3) := by decide +kernel
theorem dX11_told_113 : decode cX11_told 113 = .ok (.invokevirtual 188, 3) := by decide +kernel
theorem dX11_told_116 : decode cX11_told 116 = .ok (.invokevirtual 131, 3) := by decide +kernel
theorem dX11_told_119 : decode cX11_told 119 = .ok (.ireturn, 1) := by decide +kernel
theorem dX11_told_120 : decode cX11_told 120 = .ok (.aload_n 0, 1) := by decide +kernel
theorem dX11_told_121 : decode cX11_told 121 = .ok (.aload_n 0, 1) := by decide +kernel
theorem dX11_told_122 : decode cX11_told 122 = .ok (.getfield 36, 3) := by decide +kernel
theorem dX11_told_125 : decode cX11_told 125 = .ok (.getfield 192, 3) := by decide +kernel
theorem dX11_told_128 : decode cX11_told 128 = .ok (.invokevirtual 131, 3) := by decide +kernel
theorem dX11_told_131 : decode cX11_told 131 = .ok (.ireturn, 1) := by decide +kernel
theorem dX11_told_132 : decode cX11_told 132 = .ok (.aload_n 0, 1) := by decide +kernel
theorem dX11_told_133 : decode cX11_told 133 = .ok (.aload_n 0, 1) := by decide +kernel
theorem dX11_told_134 : decode cX11_told 134 = .ok (.getfield 36, 3) := by decide +kernel
theorem dX11_told_137 : decode cX11_told 137 = .ok (.getfield 195, 3) := by decide +kernel
theorem dX11_told_140 : decode cX11_told 140 = .ok (.invokevirtual 131, 3) := by decide +kernel
theorem dX11_told_143 : decode cX11_told 143 = .ok (.ireturn, 1) := by decide +kernel
theorem dX11_told_144 : decode cX11_told 144 = .ok (.aload_n 0, 1) := by decide +kernel
theorem dX11_told_145 : decode cX11_told 145 = .ok (.aload_n 0, 1) := by decide +kernel
theorem dX11_told_146 : decode cX11_told 146 = .ok (.getfield 36, 3) := by decide +kernel
theorem dX11_told_149 : decode cX11_told 149 = .ok (.getfield 198, 3) := by decide +kernel
theorem dX11_told_152 : decode cX11_told 152 = .ok (.invokevirtual 131, 3) := by decide +kernel
theorem dX11_told_155 : decode cX11_told 155 = .ok (.ireturn, 1) := by decide +kernel
theorem dX11_mirror_0 : decode cX11_mirror 0 = .ok (.aload_n 0, 1) := by decide +kernel
theorem dX11_mirror_1 : decode cX11_mirror 1 = .ok (.iload_n 1, 1) := by decide +kernel
theorem dX11_mirror_2 : decode cX11_mirror 2 = .ok (.invokevirtual 134, 3) := by decide +kernel
theorem dX11_mirror_5 : decode cX11_mirror 5 = .ok (.ifCond .ne 10, 3) := by decide +kernel
theorem dX11_mirror_8 : decode cX11_mirror 8 = .ok (.aload_n 0, 1) := by decide +kernel
theorem dX11_mirror_9 : decode cX11_mirror 9 = .ok (.bipush (-2), 2) := by decide +kernel
theorem dX11_mirror_11 : decode cX11_mirror 11 = .ok (.invokevirtual 120, 3) := by decide +kernel
theorem dX11_mirror_14 : decode cX11_mirror 14 = .ok (.ireturn, 1) := by decide +kernel
theorem dX11_mirror_15 : decode cX11_mirror 15 = .ok (.aload_n 0, 1) := by decide +kernel
theorem dX11_mirror_16 : decode cX11_mirror 16 = .ok (.iload_n 1, 1) := by decide +kernel
theorem dX11_mirror_17 : decode cX11_mirror 17 = .ok (.aload_n 0, 1) := by decide +kernel
theorem dX11_mirror_18 : decode cX11_mirror 18 = .ok (.getfield 36, 3) := by decide +kernel
theorem dX11_mirror_21 : decode cX11_mirror 21 = .ok (.invokevirtual 184, 3) := by decide +kernel
theorem dX11_mirror_24 : decode cX11_mirror 24 = .ok (.ifCond .ne 10, 3) := by decide +kernel
theorem dX11_mirror_27 : decode cX11_mirror 27 = .ok (.aload_n 0, 1) := by decide +kernel
theorem dX11_mirror_28 : decode cX11_mirror 28 = .ok (.bipush (-13), 2) := by decide +kernel
theorem dX11_mirror_30 : decode cX11_mirror 30 = .ok (.invokevirtual 120, 3) := by decide +kernel
theorem dX11_mirror_33 : decode cX11_mirror 33 = .ok (.ireturn, 1) := by decide +kernel
theorem dX11_mirror_34 : decode cX11_mirror 34 = .ok (.aload_n 0, 1) := by decide +kernel
theorem dX11_mirror_35 : decode cX11_mirror 35 = .ok (.getfield 11, 3) := by decide +kernel
theorem dX11_mirror_38 : decode cX11_mirror 38 = .ok (.iload_n 1, 1) := by decide +kernel
theorem dX11_mirror_39 : decode cX11_mirror 39 = .ok (.aaload, 1) := by decide +kernel
theorem dX11_mirror_40 : decode cX11_mirror 40 = .ok (.astore_n 2, 1) := by decide +kernel
theorem dX11_mirror_41 : decode cX11_mirror 41 = .ok (.aload_n 2, 1) := by decide +kernel
theorem dX11_mirror_42 : decode cX11_mirror 42 = .ok (.invokevirtual 201, 3) := by decide +kernel
theorem dX11_mirror_45 : decode cX11_mirror 45 = .ok (.iconst 0, 1) := by decide +kernel
theorem dX11_mirror_46 : decode cX11_mirror 46 = .ok (.istore_n 3, 1) := by decide +kernel
theorem dX11_mirror_47 : decode cX11_mirror 47 = .ok (.iload_n 3, 1) := by decide +kernel
theorem dX11_mirror_48 : decode cX11_mirror 48 = .ok (.aload_n 2, 1) := by decide +kernel
theorem dX11_mirror_49 : decode cX11_mirror 49 = .ok (.getfield 141, 3) := by decide +kernel
theorem dX11_mirror_52 : decode cX11_mirror 52 = .ok (.if_icmp .ge 15, 3) := by decide +kernel
theorem dX11_mirror_55 : decode cX11_mirror 55 = .ok (.aload_n 2, 1) := by decide +kernel
theorem dX11_mirror_56 : decode cX11_mirror 56 = .ok (.iload_n 3, 1) := by decide +kernel
theorem dX11_mirror_57 : decode cX11_mirror 57 = .ok (.iconst 1, 1) := by decide +kernel
theorem dX11_mirror_58 : decode cX11_mirror 58 = .ok (.invokevirtual 204, 3) := by decide +kernel
theorem dX11_mirror_61 : decode cX11_mirror 61 = .ok (.iinc 3 1, 3) := by decide +kernel
theorem dX11_mirror_64 : decode cX11_mirror 64 = .ok (.goto (-17), 3) := by decide +kernel
theorem dX11_mirror_67 : decode cX11_mirror 67 = .ok (.aload_n 0, 1) := by decide +kernel
theorem dX11_mirror_68 : decode cX11_mirror 68 = .ok (.iconst 1, 1) := by decide +kernel
theorem dX11_mirror_69 : decode cX11_mirror 69 = .ok (.invokevirtual 131, 3) := by decide +kernel
theorem dX11_mirror_72 : decode cX11_mirror 72 = .ok (.ireturn, 1) := by decide +kernel
theorem dX11_turn_0 : decode cX11_turn 0 = .ok (.aload_n 0, 1) := by decide +kernel
theorem dX11_turn_1 : decode cX11_turn 1 = .ok (.iload_n 1, 1) := by decide +kernel
theorem dX11_turn_2 : decode cX11_turn 2 = .ok (.invokevirtual 134, 3) := by decide +kernel
theorem dX11_turn_5 : decode cX11_turn 5 = .ok (.ifCond .ne 10, 3) := by decide +kernel
theorem dX11_turn_8 : decode cX11_turn 8 = .ok (.aload_n 0, 1) := by decide +kernel
theorem dX11_turn_9 : decode cX11_turn 9 = .ok (.bipush (-2), 2) := by decide +kernel
theorem dX11_turn_11 : decode cX11_turn 11 = .ok (.invokevirtual 120, 3) := by decide +kernel
theorem dX11_turn_14 : decode cX11_turn 14 = .ok (.ireturn, 1) := by decide +kernel
theorem dX11_turn_15 : decode cX11_turn 15 = .ok (.aload_n 0, 1) := by decide +kernel
theorem dX11_turn_16 : decode cX11_turn 16 = .ok (.iload_n 1, 1) := by decide +kernel
theorem dX11_turn_17 : decode cX11_turn 17 = .ok (.aload_n 0, 1) := by decide +kernel
theorem dX11_turn_18 : decode cX11_turn 18 = .ok (.getfield 36, 3) := by decide +kernel
theorem dX11_turn_21 : decode cX11_turn 21 = .ok (.invokevirtual 184, 3) := by decide +kernel
theorem dX11_turn_24 : decode cX11_turn 24 = .ok (.ifCond .ne 10, 3) := by decide +kernel
theorem dX11_turn_27 : decode cX11_turn 27 = .ok (.aload_n 0, 1) := by decide +kernel
theorem dX11_turn_28 : decode cX11_turn 28 = .ok (.bipush (-13), 2) := by decide +kernel
theorem dX11_turn_30 : decode cX11_turn 30 = .ok (.invokevirtual 120, 3) := by decide +kernel
theorem dX11_turn_33 : decode cX11_turn 33 = .ok (.ireturn, 1) := by decide +kernel
theorem dX11_turn_34 : decode cX11_turn 34 = .ok (.aload_n 0, 1) := by decide +kernel
theorem dX11_turn_35 : decode cX11_turn 35 = .ok (.getfield 11, 3) := by decide +kernel
theorem dX11_turn_38 : decode cX11_turn 38 = .ok (.iload_n 1, 1) := by decide +kernel
theorem dX11_turn_39 : decode cX11_turn 39 = .ok (.aaload, 1) := by decide +kernel
theorem dX11_turn_40 : decode cX11_turn 40 = .ok (.astore_n 2, 1) := by decide +kernel
theorem dX11_turn_41 : decode cX11_turn 41 = .ok (.aload_n 2, 1) := by decide +kernel
theorem dX11_turn_42 : decode cX11_turn 42 = .ok (.invokevirtual 201, 3) := by decide +kernel
theorem dX11_turn_45 : decode cX11_turn 45 = .ok (.iconst 0, 1) := by decide +kernel
theorem dX11_turn_46 : decode cX11_turn 46 = .ok (.istore_n 3, 1) := by decide +kernel
theorem dX11_turn_47 : decode cX11_turn 47 = .ok (.iload_n 3, 1) := by decide +kernel
theorem dX11_turn_48 : decode cX11_turn 48 = .ok (.aload_n 2, 1) := by decide +kernel
theorem dX11_turn_49 : decode cX11_turn 49 = .ok (.getfield 141, 3) := by decide +kernel
theorem dX11_turn_52 : decode cX11_turn 52 = .ok (.if_icmp .ge 14, 3) := by decide +kernel
theorem dX11_turn_55 : decode cX11_turn 55 = .ok (.aload_n 2, 1) := by decide +kernel
theorem dX11_turn_56 : decode cX11_turn 56 = .ok (.iload_n 3, 1) := by decide +kernel
theorem dX11_turn_57 : decode cX11_turn 57 = .ok (.invokevirtual 207, 3) := by decide +kernel
theorem dX11_turn_60 : decode cX11_turn 60 = .ok (.iinc 3 1, 3) := by decide +kernel
theorem dX11_turn_63 : decode cX11_turn 63 = .ok (.goto (-16), 3) := by decide +kernel
theorem dX11_turn_66 : decode cX11_turn 66 = .ok (.aload_n 0, 1) := by decide +kernel
theorem dX11_turn_67 : decode cX11_turn 67 = .ok (.iconst 1, 1) := by decide +kernel
theorem dX11_turn_68 : decode cX11_turn 68 = .ok (.invokevirtual 131, 3) := by decide +kernel
theorem dX11_turn_71 : decode cX11_turn 71 = .ok (.ireturn, 1) := by decide +kernel
theorem dX11_join_0 : decode cX11_join 0 = .ok (.aload_n 0, 1) := by decide +kernel
theorem dX11_join_1 : decode cX11_join 1 = .ok (.iload_n 1, 1) := by decide +kernel
theorem dX11_join_2 : decode cX11_join 2 = .ok (.invokevirtual 134, 3) := by decide +kernel
theorem dX11_join_5 : decode cX11_join 5 = .ok (.ifCond .eq 11, 3) := by decide +kernel
theorem dX11_join_8 : decode cX11_join 8 = .ok (.aload_n 0, 1) := by decide +kernel
theorem dX11_join_9 : decode cX11_join 9 = .ok (.iload_n 3, 1) := by decide +kernel
theorem dX11_join_10 : decode cX11_join 10 = .ok (.invokevirtual 134, 3) := by decide +kernel
theorem dX11_join_13 : decode cX11_join 13 = .ok (.ifCond .ne 10, 3) := by decide +kernel
theorem dX11_join_16 : decode cX11_join 16 = .ok (.aload_n 0, 1) := by decide +kernel
theorem dX11_join_17 : decode cX11_join 17 = .ok (.bipush (-2), 2) := by decide +kernel
theorem dX11_join_19 : decode cX11_join 19 = .ok (.invokevirtual 120, 3) := by decide +kernel
theorem dX11_join_22 : decode cX11_join 22 = .ok (.ireturn, 1) := by decide +kernel
theorem dX11_join_23 : decode cX11_join 23 = .ok (.aload_n 0, 1) := by decide +kernel
theorem dX11_join_24 : decode cX11_join 24 = .ok (.invokevirtual 116, 3) := by decide +kernel
theorem dX11_join_27 : decode cX11_join 27 = .ok (.ifCond .eq 10, 3) := by decide +kernel
theorem dX11_join_30 : decode cX11_join 30 = .ok (.aload_n 0, 1) := by decide +kernel
theorem dX11_join_31 : decode cX11_join 31 = .ok (.bipush (-3), 2) := by decide +kernel
theorem dX11_join_33 : decode cX11_join 33 = .ok (.invokevirtual 120, 3) := by decide +kernel
theorem dX11_join_36 : decode cX11_join 36 = .ok (.ireturn, 1) := by decide +kernel
theorem dX11_join_37 : decode cX11_join 37 = .ok (.aload_n 0, 1) := by decide +kernel
theorem dX11_join_38 : decode cX11_join 38 = .ok (.iload_n 1, 1) := by decide +kernel
theorem dX11_join_39 : decode cX11_join 39 = .ok (.aload_n 0, 1) := by decide +kernel
theorem dX11_join_40 : decode cX11_join 40 = .ok (.getfield 36, 3) := by decide +kernel
theorem dX11_join_43 : decode cX11_join 43 = .ok (.invokevirtual 184, 3) := by decide +kernel
theorem dX11_join_46 : decode cX11_join 46 = .ok (.ifCond .eq 15, 3) := by decide +kernel
theorem dX11_join_49 : decode cX11_join 49 = .ok (.aload_n 0, 1) := by decide +kernel
theorem dX11_join_50 : decode cX11_join 50 = .ok (.iload_n 3, 1) := by decide +kernel
theorem dX11_join_51 : decode cX11_join 51 = .ok (.aload_n 0, 1) := by decide +kernel
theorem dX11_join_52 : decode cX11_join 52 = .ok (.getfield 40, 3) := by decide +kernel
theorem dX11_join_55 : decode cX11_join 55 = .ok (.invokevirtual 184, 3) := by decide +kernel
theorem dX11_join_58 : decode cX11_join 58 = .ok (.ifCond .ne 10, 3) := by decide +kernel
theorem dX11_join_61 : decode cX11_join 61 = .ok (.aload_n 0, 1) := by decide +kernel
theorem dX11_join_62 : decode cX11_join 62 = .ok (.bipush (-13), 2) := by decide +kernel
theorem dX11_join_64 : decode cX11_join 64 = .ok (.invokevirtual 120, 3) := by decide +kernel
theorem dX11_join_67 : decode cX11_join 67 = .ok (.ireturn, 1) := by decide +kernel
theorem dX11_join_68 : decode cX11_join 68 = .ok (.aload_n 0, 1) := by decide +kernel
theorem dX11_join_69 : decode cX11_join 69 = .ok (.getfield 36, 3) := by decide +kernel
theorem dX11_join_72 : decode cX11_join 72 = .ok (.iload_n 2, 1) := by decide +kernel
theorem dX11_join_73 : decode cX11_join 73 = .ok (.invokevirtual 210, 3) := by decide +kernel
theorem dX11_join_76 : decode cX11_join 76 = .ok (.ifCond .eq 15, 3) := by decide +kernel
theorem dX11_join_79 : decode cX11_join 79 = .ok (.aload_n 0, 1) := by decide +kernel
theorem dX11_join_80 : decode cX11_join 80 = .ok (.getfield 40, 3) := by decide +kernel
theorem dX11_join_83 : decode cX11_join 83 = .ok (.iload 4, 2) := by decide +kernel
theorem dX11_join_85 : decode cX11_join 85 = .ok (.invokevirtual 210, 3) := by decide +kernel
theorem dX11_join_88 : decode cX11_join 88 = .ok (.ifCond .ne 10, 3) := by decide +kernel
theorem dX11_join_91 : decode cX11_join 91 = .ok (.aload_n 0, 1) := by decide +kernel
theorem dX11_join_92 : decode cX11_join 92 = .ok (.bipush (-15), 2) := by decide +kernel
theorem dX11_join_94 : decode cX11_join 94 = .ok (.invokevirtual 120, 3) := by decide +kernel
theorem dX11_join_97 : decode cX11_join 97 = .ok (.ireturn, 1) := by decide +kernel
theorem dX11_join_98 : decode cX11_join 98 = .ok (.aload_n 0, 1) := by decide +kernel
theorem dX11_join_99 : decode cX11_join 99 = .ok (.getfield 36, 3) := by decide +kernel
theorem dX11_join_102 : decode cX11_join 102 = .ok (.getfield 213, 3) := by decide +kernel
theorem dX11_join_105 : decode cX11_join 105 = .ok (.aload_n 0, 1) := by decide +kernel
theorem dX11_join_106 : decode cX11_join 106 = .ok (.getfield 40, 3) := by decide +kernel
theorem dX11_join_109 : decode cX11_join 109 = .ok (.getfield 213, 3) := by decide +kernel
theorem dX11_join_112 : decode cX11_join 112 = .ok (.iadd, 1) := by decide +kernel
theorem dX11_join_113 : decode cX11_join 113 = .ok (.bipush 40, 2) := by decide +kernel
theorem dX11_join_115 : decode cX11_join 115 = .ok (.if_icmp .gt 23, 3) := by decide +kernel
theorem dX11_join_118 : decode cX11_join 118 = .ok (.aload_n 0, 1) := by decide +kernel
theorem dX11_join_119 : decode cX11_join 119 = .ok (.getfield 36, 3) := by decide +kernel
theorem dX11_join_122 : decode cX11_join 122 = .ok (.getfield 214, 3) := by decide +kernel
theorem dX11_join_125 : decode cX11_join 125 = .ok (.aload_n 0, 1) := by decide +kernel
theorem dX11_join_126 : decode cX11_join 126 = .ok (.getfield 40, 3) := by decide +kernel
theorem dX11_join_129 : decode cX11_join 129 = .ok (.getfield 214, 3) := by decide +kernel
theorem dX11_join_132 : decode cX11_join 132 = .ok (.iadd, 1) := by decide +kernel
theorem dX11_join_133 : decode cX11_join 133 = .ok (.bipush 9, 2) := by decide +kernel
theorem dX11_join_135 : decode cX11_join 135 = .ok (.if_icmp .le 10, 3) := by decide +kernel
theorem dX11_join_138 : decode cX11_join 138 = .ok (.aload_n 0, 1) := by decide +kernel
theorem dX11_join_139 : decode cX11_join 139 = .ok (.bipush (-18), 2) := by decide +kernel
theorem dX11_join_141 : decode cX11_join 141 = .ok (.invokevirtual 120, 3) := by decide +kernel
theorem dX11_join_144 : decode cX11_join 144 = .ok (.ireturn, 1) := by decide +kernel
theorem dX11_join_145 : decode cX11_join 145 = .ok (.aload_n 0, 1) := by decide +kernel
theorem dX11_join_146 : decode cX11_join 146 = .ok (.getfield 44, 3) := by decide +kernel
theorem dX11_join_149 : decode cX11_join 149 = .ok (.aload_n 0, 1) := by decide +kernel
theorem dX11_join_150 : decode cX11_join 150 = .ok (.getfield 11, 3) := by decide +kernel
theorem dX11_join_153 : decode cX11_join 153 = .ok (.iload_n 1, 1) := by decide +kernel
theorem dX11_join_154 : decode cX11_join 154 = .ok (.aaload, 1) := by decide +kernel
theorem dX11_join_155 : decode cX11_join 155 = .ok (.invokevirtual 113, 3) := by decide +kernel
theorem dX11_join_158 : decode cX11_join 158 = .ok (.aload_n 0, 1) := by decide +kernel
theorem dX11_join_159 : decode cX11_join 159 = .ok (.getfield 44, 3) := by decide +kernel
theorem dX11_join_162 : decode cX11_join 162 = .ok (.aload_n 0, 1) := by decide +kernel
theorem dX11_join_163 : decode cX11_join 163 = .ok (.getfield 11, 3) := by decide +kernel
theorem dX11_join_166 : decode cX11_join 166 = .ok (.iload_n 3, 1) := by decide +kernel
theorem dX11_join_167 : decode cX11_join 167 = .ok (.aaload, 1) := by decide +kernel
theorem dX11_join_168 : decode cX11_join 168 = .ok (.aload_n 0, 1) := by decide +kernel
theorem dX11_join_169 : decode cX11_join 169 = .ok (.getfield 40, 3) := by decide +kernel
theorem dX11_join_172 : decode cX11_join 172 = .ok (.invokevirtual 215, 3) := by decide +kernel
theorem dX11_join_175 : decode cX11_join 175 = .ok (.iconst 4, 1) := by decide +kernel
theorem dX11_join_176 : decode cX11_join 176 = .ok (.aload_n 0, 1) := by decide +kernel
theorem dX11_join_177 : decode cX11_join 177 = .ok (.getfield 36, 3) := by decide +kernel
theorem dX11_join_180 : decode cX11_join 180 = .ok (.getfield 213, 3) := by decide +kernel
theorem dX11_join_183 : decode cX11_join 183 = .ok (.imul, 1) := by decide +kernel
theorem dX11_join_184 : decode cX11_join 184 = .ok (.istore 5, 2) := by decide +kernel
theorem dX11_join_186 : decode cX11_join 186 = .ok (.aload_n 0, 1) := by decide +kernel
theorem dX11_join_187 : decode cX11_join 187 = .ok (.getfield 44, 3) := by decide +kernel
theorem dX11_join_190 : decode cX11_join 190 = .ok (.getfield 165, 3) := by decide +kernel
theorem dX11_join_193 : decode cX11_join 193 = .ok (.iload 5, 2) := by decide +kernel
theorem dX11_join_195 : decode cX11_join 195 = .ok (.iload 4, 2) := by decide +kernel
theorem dX11_join_197 : decode cX11_join 197 = .ok (.iadd, 1) := by decide +kernel
theorem dX11_join_198 : decode cX11_join 198 = .ok (.aload_n 0, 1) := by decide +kernel
theorem dX11_join_199 : decode cX11_join 199 = .ok (.getfield 44, 3) := by decide +kernel
theorem dX11_join_202 : decode cX11_join 202 = .ok (.getfield 165, 3) := by decide +kernel
theorem dX11_join_205 : decode cX11_join 205 = .ok (.iload_n 2, 1) := by decide +kernel
theorem dX11_join_206 : decode cX11_join 206 = .ok (.iaload, 1) := by decide +kernel
theorem dX11_join_207 : decode cX11_join 207 = .ok (.iastore, 1) := by decide +kernel
theorem dX11_join_208 : decode cX11_join 208 = .ok (.aload_n 0, 1) := by decide +kernel
theorem dX11_join_209 : decode cX11_join 209 = .ok (.getfield 44, 3) := by decide +kernel
theorem dX11_join_212 : decode cX11_join 212 = .ok (.iconst (-1), 1) := by decide +kernel
theorem dX11_join_213 : decode cX11_join 213 = .ok (.invokevirtual 219, 3) := by decide +kernel
theorem dX11_join_216 : decode cX11_join 216 = .ok (.istore 6, 2) := by decide +kernel
theorem dX11_join_218 : decode cX11_join 218 = .ok (.aload_n 0, 1) := by decide +kernel
theorem dX11_join_219 : decode cX11_join 219 = .ok (.getfield 44, 3) := by decide +kernel
theorem dX11_join_222 : decode cX11_join 222 = .ok (.getfield 165, 3) := by decide +kernel
theorem dX11_join_225 : decode cX11_join 225 = .ok (.aload_n 0, 1) := by decide +kernel
theorem dX11_join_226 : decode cX11_join 226 = .ok (.getfield 36, 3) := by decide +kernel
theorem dX11_join_229 : decode cX11_join 229 = .ok (.getfield 222, 3) := by decide +kernel
theorem dX11_join_232 : decode cX11_join 232 = .ok (.iload_n 2, 1) := by decide +kernel
theorem dX11_join_233 : decode cX11_join 233 = .ok (.iaload, 1) := by decide +kernel
theorem dX11_join_234 : decode cX11_join 234 = .ok (.iload 6, 2) := by decide +kernel
theorem dX11_join_236 : decode cX11_join 236 = .ok (.iastore, 1) := by decide +kernel
theorem dX11_join_237 : decode cX11_join 237 = .ok (.aload_n 0, 1) := by decide +kernel
theorem dX11_join_238 : decode cX11_join 238 = .ok (.getfield 44, 3) := by decide +kernel
theorem dX11_join_241 : decode cX11_join 241 = .ok (.getfield 165, 3) := by decide +kernel
theorem dX11_join_244 : decode cX11_join 244 = .ok (.iload 5, 2) := by decide +kernel
theorem dX11_join_246 : decode cX11_join 246 = .ok (.aload_n 0, 1) := by decide +kernel
theorem dX11_join_247 : decode cX11_join 247 = .ok (.getfield 40, 3) := by decide +kernel
theorem dX11_join_250 : decode cX11_join 250 = .ok (.getfield 222, 3) := by decide +kernel
theorem dX11_join_253 : decode cX11_join 253 = .ok (.iload 4, 2) := by decide +kernel
theorem dX11_join_255 : decode cX11_join 255 = .ok (.iaload, 1) := by decide +kernel
theorem dX11_join_256 : decode cX11_join 256 = .ok (.iadd, 1) := by decide +kernel
theorem dX11_join_257 : decode cX11_join 257 = .ok (.iload 6, 2) := by decide +kernel
theorem dX11_join_259 : decode cX11_join 259 = .ok (.iastore, 1) := by decide +kernel
theorem dX11_join_260 : decode cX11_join 260 = .ok (.aload_n 0, 1) := by decide +kernel
theorem dX11_join_261 : decode cX11_join 261 = .ok (.aload_n 0, 1) := by decide +kernel
theorem dX11_join_262 : decode cX11_join 262 = .ok (.aload_n 0, 1) := by decide +kernel
theorem dX11_join_263 : decode cX11_join 263 = .ok (.getfield 44, 3) := by decide +kernel
theorem dX11_join_266 : decode cX11_join 266 = .ok (.invokevirtual 127, 3) := by decide +kernel
theorem dX11_join_269 : decode cX11_join 269 = .ok (.invokevirtual 131, 3) := by decide +kernel
theorem dX11_join_272 : decode cX11_join 272 = .ok (.ireturn, 1) := by decide +kernel
theorem dX11_twin_0 : decode cX11_twin 0 = .ok (.aload_n 0, 1) := by decide +kernel
theorem dX11_twin_1 : decode cX11_twin 1 = .ok (.iload_n 1, 1) := by decide +kernel
theorem dX11_twin_2 : decode cX11_twin 2 = .ok (.invokevirtual 134, 3) := by decide +kernel
theorem dX11_twin_5 : decode cX11_twin 5 = .ok (.ifCond .ne 10, 3) := by decide +kernel
theorem dX11_twin_8 : decode cX11_twin 8 = .ok (.aload_n 0, 1) := by decide +kernel
theorem dX11_twin_9 : decode cX11_twin 9 = .ok (.bipush (-2), 2) := by decide +kernel
theorem dX11_twin_11 : decode cX11_twin 11 = .ok (.invokevirtual 120, 3) := by decide +kernel
theorem dX11_twin_14 : decode cX11_twin 14 = .ok (.ireturn, 1) := by decide +kernel
theorem dX11_twin_15 : decode cX11_twin 15 = .ok (.aload_n 0, 1) := by decide +kernel
theorem dX11_twin_16 : decode cX11_twin 16 = .ok (.invokevirtual 116, 3) := by decide +kernel
theorem dX11_twin_19 : decode cX11_twin 19 = .ok (.ifCond .eq 12, 3) := by decide +kernel
theorem dX11_twin_22 : decode cX11_twin 22 = .ok (.aload_n 0, 1) := by decide +kernel
theorem dX11_twin_23 : decode cX11_twin 23 = .ok (.bipush (-3), 2) := by decide +kernel
theorem dX11_twin_25 : decode cX11_twin 25 = .ok (.invokevirtual 120, 3) := by decide +kernel
theorem dX11_twin_28 : decode cX11_twin 28 = .ok (.goto 17, 3) := by decide +kernel
theorem dX11_twin_31 : decode cX11_twin 31 = .ok (.aload_n 0, 1) := by decide +kernel
theorem dX11_twin_32 : decode cX11_twin 32 = .ok (.aload_n 0, 1) := by decide +kernel
theorem dX11_twin_33 : decode cX11_twin 33 = .ok (.aload_n 0, 1) := by decide +kernel
theorem dX11_twin_34 : decode cX11_twin 34 = .ok (.getfield 11, 3) := by decide +kernel
theorem dX11_twin_37 : decode cX11_twin 37 = .ok (.iload_n 1, 1) := by decide +kernel
theorem dX11_twin_38 : decode cX11_twin 38 = .ok (.aaload, 1) := by decide +kernel
theorem dX11_twin_39 : decode cX11_twin 39 = .ok (.invokevirtual 127, 3) := by decide +kernel
theorem dX11_twin_42 : decode cX11_twin 42 = .ok (.invokevirtual 131, 3) := by decide +kernel
theorem dX11_twin_45 : decode cX11_twin 45 = .ok (.ireturn, 1) := by decide +kernel
theorem dX11_undo_0 : decode cX11_undo 0 = .ok (.aload_n 0, 1) := by decide +kernel
theorem dX11_undo_1 : decode cX11_undo 1 = .ok (.iload_n 1, 1) := by decide +kernel
theorem dX11_undo_2 : decode cX11_undo 2 = .ok (.invokevirtual 134, 3) := by decide +kernel
theorem dX11_undo_5 : decode cX11_undo 5 = .ok (.ifCond .ne 10, 3) := by decide +kernel
theorem dX11_undo_8 : decode cX11_undo 8 = .ok (.aload_n 0, 1) := by decide +kernel
theorem dX11_undo_9 : decode cX11_undo 9 = .ok (.bipush (-2), 2) := by decide +kernel
theorem dX11_undo_11 : decode cX11_undo 11 = .ok (.invokevirtual 120, 3) := by decide +kernel
theorem dX11_undo_14 : decode cX11_undo 14 = .ok (.ireturn, 1) := by decide +kernel
theorem dX11_undo_15 : decode cX11_undo 15 = .ok (.aload_n 0, 1) := by decide +kernel
theorem dX11_undo_16 : decode cX11_undo 16 = .ok (.getfield 11, 3) := by decide +kernel
theorem dX11_undo_19 : decode cX11_undo 19 = .ok (.iload_n 1, 1) := by decide +kernel
theorem dX11_undo_20 : decode cX11_undo 20 = .ok (.aaload, 1) := by decide +kernel
theorem dX11_undo_21 : decode cX11_undo 21 = .ok (.invokevirtual 225, 3) := by decide +kernel
theorem dX11_undo_24 : decode cX11_undo 24 = .ok (.ifCond .eq 19, 3) := by decide +kernel
theorem dX11_undo_27 : decode cX11_undo 27 = .ok (.aload_n 0, 1) := by decide +kernel
theorem dX11_undo_28 : decode cX11_undo 28 = .ok (.aload_n 0, 1) := by decide +kernel
theorem dX11_undo_29 : decode cX11_undo 29 = .ok (.getfield 11, 3) := by decide +kernel
theorem dX11_undo_32 : decode cX11_undo 32 = .ok (.iload_n 1, 1) := by decide +kernel
theorem dX11_undo_33 : decode cX11_undo 33 = .ok (.aaload, 1) := by decide +kernel
theorem dX11_undo_34 : decode cX11_undo 34 = .ok (.getfield 228, 3) := by decide +kernel
theorem dX11_undo_37 : decode cX11_undo 37 = .ok (.invokevirtual 131, 3) := by decide +kernel
theorem dX11_undo_40 : decode cX11_undo 40 = .ok (.goto 9, 3) := by decide +kernel
theorem dX11_undo_43 : decode cX11_undo 43 = .ok (.aload_n 0, 1) := by decide +kernel
theorem dX11_undo_44 : decode cX11_undo 44 = .ok (.bipush (-15), 2) := by decide +kernel
theorem dX11_undo_46 : decode cX11_undo 46 = .ok (.invokevirtual 120, 3) := by decide +kernel
theorem dX11_undo_49 : decode cX11_undo 49 = .ok (.ireturn, 1) := by decide +kernel
theorem dX11_sign_0 : decode cX11_sign 0 = .ok (.aload_n 0, 1) := by decide +kernel
theorem dX11_sign_1 : decode cX11_sign 1 = .ok (.iload_n 1, 1) := by decide +kernel
theorem dX11_sign_2 : decode cX11_sign 2 = .ok (.invokevirtual 134, 3) := by decide +kernel
theorem dX11_sign_5 : decode cX11_sign 5 = .ok (.ifCond .ne 10, 3) := by decide +kernel
theorem dX11_sign_8 : decode cX11_sign 8 = .ok (.aload_n 0, 1) := by decide +kernel
theorem dX11_sign_9 : decode cX11_sign 9 = .ok (.bipush (-2), 2) := by decide +kernel
theorem dX11_sign_11 : decode cX11_sign 11 = .ok (.invokevirtual 120, 3) := by decide +kernel
theorem dX11_sign_14 : decode cX11_sign 14 = .ok (.ireturn, 1) := by decide +kernel
theorem dX11_sign_15 : decode cX11_sign 15 = .ok (.aload_n 0, 1) := by decide +kernel
theorem dX11_sign_16 : decode cX11_sign 16 = .ok (.iload_n 1, 1) := by decide +kernel
theorem dX11_sign_17 : decode cX11_sign 17 = .ok (.aload_n 0, 1) := by decide +kernel
theorem dX11_sign_18 : decode cX11_sign 18 = .ok (.getfield 36, 3) := by decide +kernel
theorem dX11_sign_21 : decode cX11_sign 21 = .ok (.invokevirtual 184, 3) := by decide +kernel
theorem dX11_sign_24 : decode cX11_sign 24 = .ok (.ifCond .ne 10, 3) := by decide +kernel
theorem dX11_sign_27 : decode cX11_sign 27 = .ok (.aload_n 0, 1) := by decide +kernel
theorem dX11_sign_28 : decode cX11_sign 28 = .ok (.bipush (-13), 2) := by decide +kernel
theorem dX11_sign_30 : decode cX11_sign 30 = .ok (.invokevirtual 120, 3) := by decide +kernel
theorem dX11_sign_33 : decode cX11_sign 33 = .ok (.ireturn, 1) := by decide +kernel
theorem dX11_sign_34 : decode cX11_sign 34 = .ok (.aload_n 0, 1) := by decide +kernel
theorem dX11_sign_35 : decode cX11_sign 35 = .ok (.getfield 11, 3) := by decide +kernel
theorem dX11_sign_38 : decode cX11_sign 38 = .ok (.iload_n 1, 1) := by decide +kernel
theorem dX11_sign_39 : decode cX11_sign 39 = .ok (.aaload, 1) := by decide +kernel
theorem dX11_sign_40 : decode cX11_sign 40 = .ok (.iload_n 2, 1) := by decide +kernel
theorem dX11_sign_41 : decode cX11_sign 41 = .ok (.invokevirtual 151, 3) := by decide +kernel
theorem dX11_sign_44 : decode cX11_sign 44 = .ok (.ifCond .eq 19, 3) := by decide +kernel
theorem dX11_sign_47 : decode cX11_sign 47 = .ok (.aload_n 0, 1) := by decide +kernel
theorem dX11_sign_48 : decode cX11_sign 48 = .ok (.aload_n 0, 1) := by decide +kernel
theorem dX11_sign_49 : decode cX11_sign 49 = .ok (.getfield 36, 3) := by decide +kernel
theorem dX11_sign_52 : decode cX11_sign 52 = .ok (.getfield 231, 3) := by decide +kernel
theorem dX11_sign_55 : decode cX11_sign 55 = .ok (.iload_n 2, 1) := by decide +kernel
theorem dX11_sign_56 : decode cX11_sign 56 = .ok (.iaload, 1) := by decide +kernel
theorem dX11_sign_57 : decode cX11_sign 57 = .ok (.invokevirtual 131, 3) := by decide +kernel
theorem dX11_sign_60 : decode cX11_sign 60 = .ok (.goto 9, 3) := by decide +kernel
theorem dX11_sign_63 : decode cX11_sign 63 = .ok (.aload_n 0, 1) := by decide +kernel
theorem dX11_sign_64 : decode cX11_sign 64 = .ok (.bipush (-12), 2) := by decide +kernel
theorem dX11_sign_66 : decode cX11_sign 66 = .ok (.invokevirtual 120, 3) := by decide +kernel
theorem dX11_sign_69 : decode cX11_sign 69 = .ok (.ireturn, 1) := by decide +kernel
theorem dX11_pieceOf_0 : decode cX11_pieceOf 0 = .ok (.aload_n 0, 1) := by decide +kernel
theorem dX11_pieceOf_1 : decode cX11_pieceOf 1 = .ok (.iload_n 1, 1) := by decide +kernel
theorem dX11_pieceOf_2 : decode cX11_pieceOf 2 = .ok (.invokevirtual 134, 3) := by decide +kernel
theorem dX11_pieceOf_5 : decode cX11_pieceOf 5 = .ok (.ifCond .ne 10, 3) := by decide +kernel
theorem dX11_pieceOf_8 : decode cX11_pieceOf 8 = .ok (.aload_n 0, 1) := by decide +kernel
theorem dX11_pieceOf_9 : decode cX11_pieceOf 9 = .ok (.bipush (-2), 2) := by decide +kernel
theorem dX11_pieceOf_11 : decode cX11_pieceOf 11 = .ok (.invokevirtual 120, 3) := by decide +kernel
theorem dX11_pieceOf_14 : decode cX11_pieceOf 14 = .ok (.ireturn, 1) := by decide +kernel
theorem dX11_pieceOf_15 : decode cX11_pieceOf 15 = .ok (.aload_n 0, 1) := by decide +kernel
theorem dX11_pieceOf_16 : decode cX11_pieceOf 16 = .ok (.iload_n 1, 1) := by decide +kernel
theorem dX11_pieceOf_17 : decode cX11_pieceOf 17 = .ok (.aload_n 0, 1) := by decide +kernel
theorem dX11_pieceOf_18 : decode cX11_pieceOf 18 = .ok (.getfield 36, 3) := by decide +kernel
theorem dX11_pieceOf_21 : decode cX11_pieceOf 21 = .ok (.invokevirtual 184, 3) := by decide +kernel
theorem dX11_pieceOf_24 : decode cX11_pieceOf 24 = .ok (.ifCond .ne 10, 3) := by decide +kernel
theorem dX11_pieceOf_27 : decode cX11_pieceOf 27 = .ok (.aload_n 0, 1) := by decide +kernel
theorem dX11_pieceOf_28 : decode cX11_pieceOf 28 = .ok (.bipush (-13), 2) := by decide +kernel
theorem dX11_pieceOf_30 : decode cX11_pieceOf 30 = .ok (.invokevirtual 120, 3) := by decide +kernel
theorem dX11_pieceOf_33 : decode cX11_pieceOf 33 = .ok (.ireturn, 1) := by decide +kernel
theorem dX11_pieceOf_34 : decode cX11_pieceOf 34 = .ok (.aload_n 0, 1) := by decide +kernel
theorem dX11_pieceOf_35 : decode cX11_pieceOf 35 = .ok (.getfield 36, 3) := by decide +kernel
theorem dX11_pieceOf_38 : decode cX11_pieceOf 38 = .ok (.iload_n 2, 1) := by decide +kernel
theorem dX11_pieceOf_39 : decode cX11_pieceOf 39 = .ok (.invokevirtual 210, 3) := by decide +kernel
theorem dX11_pieceOf_42 : decode cX11_pieceOf 42 = .ok (.ifCond .eq 19, 3) := by decide +kernel
theorem dX11_pieceOf_45 : decode cX11_pieceOf 45 = .ok (.aload_n 0, 1) := by decide +kernel
theorem dX11_pieceOf_46 : decode cX11_pieceOf 46 = .ok (.aload_n 0, 1) := by decide +kernel
theorem dX11_pieceOf_47 : decode cX11_pieceOf 47 = .ok (.getfield 36, 3) := by decide +kernel
theorem dX11_pieceOf_50 : decode cX11_pieceOf 50 = .ok (.getfield 234, 3) := by decide +kernel
theorem dX11_pieceOf_53 : decode cX11_pieceOf 53 = .ok (.iload_n 2, 1) := by decide +kernel
theorem dX11_pieceOf_54 : decode cX11_pieceOf 54 = .ok (.iaload, 1) := by decide +kernel
theorem dX11_pieceOf_55 : decode cX11_pieceOf 55 = .ok (.invokevirtual 131, 3) := by decide +kernel
theorem dX11_pieceOf_58 : decode cX11_pieceOf 58 = .ok (.goto 9, 3) := by decide +kernel
theorem dX11_pieceOf_61 : decode cX11_pieceOf 61 = .ok (.aload_n 0, 1) := by decide +kernel
theorem dX11_pieceOf_62 : decode cX11_pieceOf 62 = .ok (.bipush (-12), 2) := by decide +kernel
theorem dX11_pieceOf_64 : decode cX11_pieceOf 64 = .ok (.invokevirtual 120, 3) := by decide +kernel
theorem dX11_pieceOf_67 : decode cX11_pieceOf 67 = .ok (.ireturn, 1) := by decide +kernel
theorem dX11_linking_0 : decode cX11_linking 0 = .ok (.aload_n 0, 1) := by decide +kernel
theorem dX11_linking_1 : decode cX11_linking 1 = .ok (.iload_n 1, 1) := by decide +kernel
theorem dX11_linking_2 : decode cX11_linking 2 = .ok (.invokevirtual 134, 3) := by decide +kernel
theorem dX11_linking_5 : decode cX11_linking 5 = .ok (.ifCond .ne 10, 3) := by decide +kernel
theorem dX11_linking_8 : decode cX11_linking 8 = .ok (.aload_n 0, 1) := by decide +kernel
theorem dX11_linking_9 : decode cX11_linking 9 = .ok (.bipush (-2), 2) := by decide +kernel
theorem dX11_linking_11 : decode cX11_linking 11 = .ok (.invokevirtual 120, 3) := by decide +kernel
theorem dX11_linking_14 : decode cX11_linking 14 = .ok (.ireturn, 1) := by decide +kernel
theorem dX11_linking_15 : decode cX11_linking 15 = .ok (.aload_n 0, 1) := by decide +kernel
theorem dX11_linking_16 : decode cX11_linking 16 = .ok (.iload_n 1, 1) := by decide +kernel
theorem dX11_linking_17 : decode cX11_linking 17 = .ok (.aload_n 0, 1) := by decide +kernel
theorem dX11_linking_18 : decode cX11_linking 18 = .ok (.getfield 36, 3) := by decide +kernel
theorem dX11_linking_21 : decode cX11_linking 21 = .ok (.invokevirtual 184, 3) := by decide +kernel
theorem dX11_linking_24 : decode cX11_linking 24 = .ok (.ifCond .ne 10, 3) := by decide +kernel
theorem dX11_linking_27 : decode cX11_linking 27 = .ok (.aload_n 0, 1) := by decide +kernel
theorem dX11_linking_28 : decode cX11_linking 28 = .ok (.bipush (-13), 2) := by decide +kernel
theorem dX11_linking_30 : decode cX11_linking 30 = .ok (.invokevirtual 120, 3) := by decide +kernel
theorem dX11_linking_33 : decode cX11_linking 33 = .ok (.ireturn, 1) := by decide +kernel
theorem dX11_linking_34 : decode cX11_linking 34 = .ok (.aload_n 0, 1) := by decide +kernel
theorem dX11_linking_35 : decode cX11_linking 35 = .ok (.getfield 36, 3) := by decide +kernel
theorem dX11_linking_38 : decode cX11_linking 38 = .ok (.invokevirtual 188, 3) := by decide +kernel
theorem dX11_linking_41 : decode cX11_linking 41 = .ok (.istore 4, 2) := by decide +kernel
theorem dX11_linking_43 : decode cX11_linking 43 = .ok (.iload_n 2, 1) := by decide +kernel
theorem dX11_linking_44 : decode cX11_linking 44 = .ok (.ifCond .lt 24, 3) := by decide +kernel
theorem dX11_linking_47 : decode cX11_linking 47 = .ok (.iload_n 2, 1) := by decide +kernel
theorem dX11_linking_48 : decode cX11_linking 48 = .ok (.iload 4, 2) := by decide +kernel
theorem dX11_linking_50 : decode cX11_linking 50 = .ok (.if_icmp .ge 18, 3) := by decide +kernel
theorem dX11_linking_53 : decode cX11_linking 53 = .ok (.iload_n 3, 1) := by decide +kernel
theorem dX11_linking_54 : decode cX11_linking 54 = .ok (.ifCond .lt 14, 3) := by decide +kernel
theorem dX11_linking_57 : decode cX11_linking 57 = .ok (.iload_n 3, 1) := by decide +kernel
theorem dX11_linking_58 : decode cX11_linking 58 = .ok (.iload 4, 2) := by decide +kernel
theorem dX11_linking_60 : decode cX11_linking 60 = .ok (.if_icmp .ge 8, 3) := by decide +kernel
theorem dX11_linking_63 : decode cX11_linking 63 = .ok (.iload_n 2, 1) := by decide +kernel
theorem dX11_linking_64 : decode cX11_linking 64 = .ok (.iload_n 3, 1) := by decide +kernel
theorem dX11_linking_65 : decode cX11_linking 65 = .ok (.if_icmp .ne 10, 3) := by decide +kernel
theorem dX11_linking_68 : decode cX11_linking 68 = .ok (.aload_n 0, 1) := by decide +kernel
theorem dX11_linking_69 : decode cX11_linking 69 = .ok (.bipush (-15), 2) := by decide +kernel
theorem dX11_linking_71 : decode cX11_linking 71 = .ok (.invokevirtual 120, 3) := by decide +kernel
theorem dX11_linking_74 : decode cX11_linking 74 = .ok (.ireturn, 1) := by decide +kernel
theorem dX11_linking_75 : decode cX11_linking 75 = .ok (.aload_n 0, 1) := by decide +kernel
theorem dX11_linking_76 : decode cX11_linking 76 = .ok (.aload_n 0, 1) := by decide +kernel
theorem dX11_linking_77 : decode cX11_linking 77 = .ok (.getfield 36, 3) := by decide +kernel
theorem dX11_linking_80 : decode cX11_linking 80 = .ok (.iload_n 2, 1) := by decide +kernel
theorem dX11_linking_81 : decode cX11_linking 81 = .ok (.iload_n 3, 1) := by decide +kernel
theorem dX11_linking_82 : decode cX11_linking 82 = .ok (.invokevirtual 237, 3) := by decide +kernel
theorem dX11_linking_85 : decode cX11_linking 85 = .ok (.invokevirtual 131, 3) := by decide +kernel
theorem dX11_linking_88 : decode cX11_linking 88 = .ok (.ireturn, 1) := by decide +kernel
theorem dX11_isColourCount_0 : decode cX11_isColourCount 0 = .ok (.iconst 0, 1) := by decide +kernel
theorem dX11_isColourCount_1 : decode cX11_isColourCount 1 = .ok (.istore_n 1, 1) := by decide +kernel
theorem dX11_isColourCount_2 : decode cX11_isColourCount 2 = .ok (.iload_n 1, 1) := by decide +kernel
theorem dX11_isColourCount_3 : decode cX11_isColourCount 3 = .ok (.getstatic 241, 3) := by decide +kernel
theorem dX11_isColourCount_6 : decode cX11_isColourCount 6 = .ok (.arraylength, 1) := by decide +kernel
theorem dX11_isColourCount_7 : decode cX11_isColourCount 7 = .ok (.if_icmp .ge 20, 3) := by decide +kernel
theorem dX11_isColourCount_10 : decode cX11_isColourCount 10 = .ok (.getstatic 241, 3) := by decide +kernel
theorem dX11_isColourCount_13 : decode cX11_isColourCount 13 = .ok (.iload_n 1, 1) := by decide +kernel
theorem dX11_isColourCount_14 : decode cX11_isColourCount 14 = .ok (.iaload, 1) := by decide +kernel
theorem dX11_isColourCount_15 : decode cX11_isColourCount 15 = .ok (.iload_n 0, 1) := by decide +kernel
theorem dX11_isColourCount_16 : decode cX11_isColourCount 16 = .ok (.if_icmp .ne 5, 3) := by decide +kernel
theorem dX11_isColourCount_19 : decode cX11_isColourCount 19 = .ok (.iconst 1, 1) := by decide +kernel
theorem dX11_isColourCount_20 : decode cX11_isColourCount 20 = .ok (.ireturn, 1) := by decide +kernel
theorem dX11_isColourCount_21 : decode cX11_isColourCount 21 = .ok (.iinc 1 1, 3) := by decide +kernel
theorem dX11_isColourCount_24 : decode cX11_isColourCount 24 = .ok (.goto (-22), 3) := by decide +kernel
theorem dX11_isColourCount_27 : decode cX11_isColourCount 27 = .ok (.iconst 0, 1) := by decide +kernel
theorem dX11_isColourCount_28 : decode cX11_isColourCount 28 = .ok (.ireturn, 1) := by decide +kernel
theorem dX11_colours_0 : decode cX11_colours 0 = .ok (.aload_n 0, 1) := by decide +kernel
theorem dX11_colours_1 : decode cX11_colours 1 = .ok (.iload_n 1, 1) := by decide +kernel
theorem dX11_colours_2 : decode cX11_colours 2 = .ok (.invokevirtual 134, 3) := by decide +kernel
theorem dX11_colours_5 : decode cX11_colours 5 = .ok (.ifCond .eq 10, 3) := by decide +kernel
theorem dX11_colours_8 : decode cX11_colours 8 = .ok (.iload_n 2, 1) := by decide +kernel
theorem dX11_colours_9 : decode cX11_colours 9 = .ok (.invokestatic 244, 3) := by decide +kernel
theorem dX11_colours_12 : decode cX11_colours 12 = .ok (.ifCond .ne 10, 3) := by decide +kernel
theorem dX11_colours_15 : decode cX11_colours 15 = .ok (.aload_n 0, 1) := by decide +kernel
theorem dX11_colours_16 : decode cX11_colours 16 = .ok (.bipush (-2), 2) := by decide +kernel
theorem dX11_colours_18 : decode cX11_colours 18 = .ok (.invokevirtual 120, 3) := by decide +kernel
theorem dX11_colours_21 : decode cX11_colours 21 = .ok (.ireturn, 1) := by decide +kernel
theorem dX11_colours_22 : decode cX11_colours 22 = .ok (.aload_n 0, 1) := by decide +kernel
theorem dX11_colours_23 : decode cX11_colours 23 = .ok (.iload_n 1, 1) := by decide +kernel
theorem dX11_colours_24 : decode cX11_colours 24 = .ok (.aload_n 0, 1) := by decide +kernel
theorem dX11_colours_25 : decode cX11_colours 25 = .ok (.getfield 36, 3) := by decide +kernel
theorem dX11_colours_28 : decode cX11_colours 28 = .ok (.invokevirtual 184, 3) := by decide +kernel
theorem dX11_colours_31 : decode cX11_colours 31 = .ok (.ifCond .eq 22, 3) := by decide +kernel
theorem dX11_colours_34 : decode cX11_colours 34 = .ok (.aload_n 0, 1) := by decide +kernel
theorem dX11_colours_35 : decode cX11_colours 35 = .ok (.aload_n 0, 1) := by decide +kernel
theorem dX11_colours_36 : decode cX11_colours 36 = .ok (.getfield 71, 3) := by decide +kernel
theorem dX11_colours_39 : decode cX11_colours 39 = .ok (.aload_n 0, 1) := by decide +kernel
theorem dX11_colours_40 : decode cX11_colours 40 = .ok (.getfield 36, 3) := by decide +kernel
theorem dX11_colours_43 : decode cX11_colours 43 = .ok (.iload_n 2, 1) := by decide +kernel
theorem dX11_colours_44 : decode cX11_colours 44 = .ok (.invokevirtual 247, 3) := by decide +kernel
theorem dX11_colours_47 : decode cX11_colours 47 = .ok (.invokevirtual 131, 3) := by decide +kernel
theorem dX11_colours_50 : decode cX11_colours 50 = .ok (.goto 9, 3) := by decide +kernel
theorem dX11_colours_53 : decode cX11_colours 53 = .ok (.aload_n 0, 1) := by decide +kernel
theorem dX11_colours_54 : decode cX11_colours 54 = .ok (.bipush (-13), 2) := by decide +kernel
theorem dX11_colours_56 : decode cX11_colours 56 = .ok (.invokevirtual 120, 3) := by decide +kernel
theorem dX11_colours_59 : decode cX11_colours 59 = .ok (.ireturn, 1) := by decide +kernel
theorem dX11_whyNoBracket_0 : decode cX11_whyNoBracket 0 = .ok (.aload_n 0, 1) := by decide +kernel
theorem dX11_whyNoBracket_1 : decode cX11_whyNoBracket 1 = .ok (.iload_n 1, 1) := by decide +kernel
theorem dX11_whyNoBracket_2 : decode cX11_whyNoBracket 2 = .ok (.aload_n 0, 1) := by decide +kernel
theorem dX11_whyNoBracket_3 : decode cX11_whyNoBracket 3 = .ok (.getfield 36, 3) := by decide +kernel
theorem dX11_whyNoBracket_6 : decode cX11_whyNoBracket 6 = .ok (.invokevirtual 184, 3) := by decide +kernel
theorem dX11_whyNoBracket_9 : decode cX11_whyNoBracket 9 = .ok (.ifCond .ne 6, 3) := by decide +kernel
theorem dX11_whyNoBracket_12 : decode cX11_whyNoBracket 12 = .ok (.bipush (-13), 2) := by decide +kernel
theorem dX11_whyNoBracket_14 : decode cX11_whyNoBracket 14 = .ok (.ireturn, 1) := by decide +kernel
theorem dX11_whyNoBracket_15 : decode cX11_whyNoBracket 15 = .ok (.aload_n 0, 1) := by decide +kernel
theorem dX11_whyNoBracket_16 : decode cX11_whyNoBracket 16 = .ok (.getfield 36, 3) := by decide +kernel
theorem dX11_whyNoBracket_19 : decode cX11_whyNoBracket 19 = .ok (.getfield 213, 3) := by decide +kernel
theorem dX11_whyNoBracket_22 : decode cX11_whyNoBracket 22 = .ok (.ifCond .ne 16, 3) := by decide +kernel
theorem dX11_whyNoBracket_25 : decode cX11_whyNoBracket 25 = .ok (.aload_n 0, 1) := by decide +kernel
theorem dX11_whyNoBracket_26 : decode cX11_whyNoBracket 26 = .ok (.getfield 36, 3) := by decide +kernel
theorem dX11_whyNoBracket_29 : decode cX11_whyNoBracket 29 = .ok (.getfield 214, 3) := by decide +kernel
theorem dX11_whyNoBracket_32 : decode cX11_whyNoBracket 32 = .ok (.ifCond .ne 6, 3) := by decide +kernel
theorem dX11_whyNoBracket_35 : decode cX11_whyNoBracket 35 = .ok (.bipush (-16), 2) := by decide +kernel
theorem dX11_whyNoBracket_37 : decode cX11_whyNoBracket 37 = .ok (.ireturn, 1) := by decide +kernel
theorem dX11_whyNoBracket_38 : decode cX11_whyNoBracket 38 = .ok (.aload_n 0, 1) := by decide +kernel
theorem dX11_whyNoBracket_39 : decode cX11_whyNoBracket 39 = .ok (.getfield 36, 3) := by decide +kernel
theorem dX11_whyNoBracket_42 : decode cX11_whyNoBracket 42 = .ok (.getfield 213, 3) := by decide +kernel
theorem dX11_whyNoBracket_45 : decode cX11_whyNoBracket 45 = .ok (.iload_n 2, 1) := by decide +kernel
theorem dX11_whyNoBracket_46 : decode cX11_whyNoBracket 46 = .ok (.if_icmp .le 6, 3) := by decide +kernel
theorem dX11_whyNoBracket_49 : decode cX11_whyNoBracket 49 = .ok (.bipush (-17), 2) := by decide +kernel
theorem dX11_whyNoBracket_51 : decode cX11_whyNoBracket 51 = .ok (.ireturn, 1) := by decide +kernel
theorem dX11_whyNoBracket_52 : decode cX11_whyNoBracket 52 = .ok (.aload_n 0, 1) := by decide +kernel
theorem dX11_whyNoBracket_53 : decode cX11_whyNoBracket 53 = .ok (.getfield 51, 3) := by decide +kernel
theorem dX11_whyNoBracket_56 : decode cX11_whyNoBracket 56 = .ok (.aload_n 0, 1) := by decide +kernel
theorem dX11_whyNoBracket_57 : decode cX11_whyNoBracket 57 = .ok (.getfield 36, 3) := by decide +kernel
theorem dX11_whyNoBracket_60 : decode cX11_whyNoBracket 60 = .ok (.getfield 213, 3) := by decide +kernel
theorem dX11_whyNoBracket_63 : decode cX11_whyNoBracket 63 = .ok (.invokestatic 251, 3) := by decide +kernel
theorem dX11_whyNoBracket_66 : decode cX11_whyNoBracket 66 = .ok (.invokevirtual 254, 3) := by decide +kernel
theorem dX11_whyNoBracket_69 : decode cX11_whyNoBracket 69 = .ok (.ifCond .eq 7, 3) := by decide +kernel
theorem dX11_whyNoBracket_72 : decode cX11_whyNoBracket 72 = .ok (.iconst 0, 1) := by decide +kernel
theorem dX11_whyNoBracket_73 : decode cX11_whyNoBracket 73 = .ok (.goto 5, 3) := by decide +kernel
theorem dX11_whyNoBracket_76 : decode cX11_whyNoBracket 76 = .ok (.bipush (-19), 2) := by decide +kernel
theorem dX11_whyNoBracket_78 : decode cX11_whyNoBracket 78 = .ok (.ireturn, 1) := by decide +kernel
theorem dX11_bracket_0 : decode cX11_bracket 0 = .ok (.aload_n 0, 1) := by decide +kernel
theorem dX11_bracket_1 : decode cX11_bracket 1 = .ok (.iload_n 1, 1) := by decide +kernel
theorem dX11_bracket_2 : decode cX11_bracket 2 = .ok (.invokevirtual 134, 3) := by decide +kernel
theorem dX11_bracket_5 : decode cX11_bracket 5 = .ok (.ifCond .eq 13, 3) := by decide +kernel
theorem dX11_bracket_8 : decode cX11_bracket 8 = .ok (.aload_n 0, 1) := by decide +kernel
theorem dX11_bracket_9 : decode cX11_bracket 9 = .ok (.iload_n 1, 1) := by decide +kernel
theorem dX11_bracket_10 : decode cX11_bracket 10 = .ok (.bipush 14, 2) := by decide +kernel
theorem dX11_bracket_12 : decode cX11_bracket 12 = .ok (.invokevirtual 257, 3) := by decide +kernel
theorem dX11_bracket_15 : decode cX11_bracket 15 = .ok (.goto 5, 3) := by decide +kernel
theorem dX11_bracket_18 : decode cX11_bracket 18 = .ok (.bipush (-2), 2) := by decide +kernel
theorem dX11_bracket_20 : decode cX11_bracket 20 = .ok (.istore_n 2, 1) := by decide +kernel
theorem dX11_bracket_21 : decode cX11_bracket 21 = .ok (.iload_n 2, 1) := by decide +kernel
theorem dX11_bracket_22 : decode cX11_bracket 22 = .ok (.ifCond .eq 9, 3) := by decide +kernel
theorem dX11_bracket_25 : decode cX11_bracket 25 = .ok (.aload_n 0, 1) := by decide +kernel
theorem dX11_bracket_26 : decode cX11_bracket 26 = .ok (.iload_n 2, 1) := by decide +kernel
theorem dX11_bracket_27 : decode cX11_bracket 27 = .ok (.invokevirtual 120, 3) := by decide +kernel
theorem dX11_bracket_30 : decode cX11_bracket 30 = .ok (.ireturn, 1) := by decide +kernel
theorem dX11_bracket_31 : decode cX11_bracket 31 = .ok (.aload_n 0, 1) := by decide +kernel
theorem dX11_bracket_32 : decode cX11_bracket 32 = .ok (.getfield 51, 3) := by decide +kernel
theorem dX11_bracket_35 : decode cX11_bracket 35 = .ok (.aload_n 0, 1) := by decide +kernel
theorem dX11_bracket_36 : decode cX11_bracket 36 = .ok (.getfield 36, 3) := by decide +kernel
theorem dX11_bracket_39 : decode cX11_bracket 39 = .ok (.aload_n 0, 1) := by decide +kernel
theorem dX11_bracket_40 : decode cX11_bracket 40 = .ok (.getfield 58, 3) := by decide +kernel
theorem dX11_bracket_43 : decode cX11_bracket 43 = .ok (.invokevirtual 260, 3) := by decide +kernel
theorem dX11_bracket_46 : decode cX11_bracket 46 = .ok (.aload_n 0, 1) := by decide +kernel
theorem dX11_bracket_47 : decode cX11_bracket 47 = .ok (.aload_n 0, 1) := by decide +kernel
theorem dX11_bracket_48 : decode cX11_bracket 48 = .ok (.getfield 58, 3) := by decide +kernel
theorem dX11_bracket_51 : decode cX11_bracket 51 = .ok (.invokevirtual 264, 3) := by decide +kernel
theorem dX11_bracket_54 : decode cX11_bracket 54 = .ok (.invokevirtual 131, 3) := by decide +kernel
theorem dX11_bracket_57 : decode cX11_bracket 57 = .ok (.ireturn, 1) := by decide +kernel
theorem dX11_polynomial_0 : decode cX11_polynomial 0 = .ok (.aload_n 0, 1) := by decide +kernel
theorem dX11_polynomial_1 : decode cX11_polynomial 1 = .ok (.iload_n 1, 1) := by decide +kernel
theorem dX11_polynomial_2 : decode cX11_polynomial 2 = .ok (.invokevirtual 134, 3) := by decide +kernel
theorem dX11_polynomial_5 : decode cX11_polynomial 5 = .ok (.ifCond .eq 13, 3) := by decide +kernel
theorem dX11_polynomial_8 : decode cX11_polynomial 8 = .ok (.aload_n 0, 1) := by decide +kernel
theorem dX11_polynomial_9 : decode cX11_polynomial 9 = .ok (.iload_n 1, 1) := by decide +kernel
theorem dX11_polynomial_10 : decode cX11_polynomial 10 = .ok (.bipush 14, 2) := by decide +kernel
theorem dX11_polynomial_12 : decode cX11_polynomial 12 = .ok (.invokevirtual 257, 3) := by decide +kernel
theorem dX11_polynomial_15 : decode cX11_polynomial 15 = .ok (.goto 5, 3) := by decide +kernel
theorem dX11_polynomial_18 : decode cX11_polynomial 18 = .ok (.bipush (-2), 2) := by decide +kernel
theorem dX11_polynomial_20 : decode cX11_polynomial 20 = .ok (.istore_n 2, 1) := by decide +kernel
theorem dX11_polynomial_21 : decode cX11_polynomial 21 = .ok (.iload_n 2, 1) := by decide +kernel
theorem dX11_polynomial_22 : decode cX11_polynomial 22 = .ok (.ifCond .eq 9, 3) := by decide +kernel
theorem dX11_polynomial_25 : decode cX11_polynomial 25 = .ok (.aload_n 0, 1) := by decide +kernel
theorem dX11_polynomial_26 : decode cX11_polynomial 26 = .ok (.iload_n 2, 1) := by decide +kernel
theorem dX11_polynomial_27 : decode cX11_polynomial 27 = .ok (.invokevirtual 120, 3) := by decide +kernel
theorem dX11_polynomial_30 : decode cX11_polynomial 30 = .ok (.ireturn, 1) := by decide +kernel
theorem dX11_polynomial_31 : decode cX11_polynomial 31 = .ok (.aload_n 0, 1) := by decide +kernel
theorem dX11_polynomial_32 : decode cX11_polynomial 32 = .ok (.getfield 51, 3) := by decide +kernel
theorem dX11_polynomial_35 : decode cX11_polynomial 35 = .ok (.aload_n 0, 1) := by decide +kernel
theorem dX11_polynomial_36 : decode cX11_polynomial 36 = .ok (.getfield 36, 3) := by decide +kernel
theorem dX11_polynomial_39 : decode cX11_polynomial 39 = .ok (.aload_n 0, 1) := by decide +kernel
theorem dX11_polynomial_40 : decode cX11_polynomial 40 = .ok (.getfield 58, 3) := by decide +kernel
theorem dX11_polynomial_43 : decode cX11_polynomial 43 = .ok (.invokevirtual 267, 3) := by decide +kernel
theorem dX11_polynomial_46 : decode cX11_polynomial 46 = .ok (.aload_n 0, 1) := by decide +kernel
theorem dX11_polynomial_47 : decode cX11_polynomial 47 = .ok (.aload_n 0, 1) := by decide +kernel
theorem dX11_polynomial_48 : decode cX11_polynomial 48 = .ok (.getfield 58, 3) := by decide +kernel
theorem dX11_polynomial_51 : decode cX11_polynomial 51 = .ok (.invokevirtual 264, 3) := by decide +kernel
theorem dX11_polynomial_54 : decode cX11_polynomial 54 = .ok (.invokevirtual 131, 3) := by decide +kernel
theorem dX11_polynomial_57 : decode cX11_polynomial 57 = .ok (.ireturn, 1) := by decide +kernel
theorem dX11_at_0 : decode cX11_at 0 = .ok (.aload_n 0, 1) := by decide +kernel
theorem dX11_at_1 : decode cX11_at 1 = .ok (.getfield 58, 3) := by decide +kernel
theorem dX11_at_4 : decode cX11_at 4 = .ok (.iload_n 1, 1) := by decide +kernel
theorem dX11_at_5 : decode cX11_at 5 = .ok (.invokevirtual 270, 3) := by decide +kernel
theorem dX11_at_8 : decode cX11_at 8 = .ok (.lreturn, 1) := by decide +kernel
theorem dX11_power_0 : decode cX11_power 0 = .ok (.iload_n 1, 1) := by decide +kernel
theorem dX11_power_1 : decode cX11_power 1 = .ok (.ifCond .eq 15, 3) := by decide +kernel
theorem dX11_power_4 : decode cX11_power 4 = .ok (.iload_n 1, 1) := by decide +kernel
theorem dX11_power_5 : decode cX11_power 5 = .ok (.iconst 1, 1) := by decide +kernel
theorem dX11_power_6 : decode cX11_power 6 = .ok (.if_icmp .eq 10, 3) := by decide +kernel
theorem dX11_power_9 : decode cX11_power 9 = .ok (.aload_n 0, 1) := by decide +kernel
theorem dX11_power_10 : decode cX11_power 10 = .ok (.bipush (-2), 2) := by decide +kernel
theorem dX11_power_12 : decode cX11_power 12 = .ok (.invokevirtual 120, 3) := by decide +kernel
theorem dX11_power_15 : decode cX11_power 15 = .ok (.ireturn, 1) := by decide +kernel
theorem dX11_power_16 : decode cX11_power 16 = .ok (.aload_n 0, 1) := by decide +kernel
theorem dX11_power_17 : decode cX11_power 17 = .ok (.getfield 58, 3) := by decide +kernel
theorem dX11_power_20 : decode cX11_power 20 = .ok (.getfield 274, 3) := by decide +kernel
theorem dX11_power_23 : decode cX11_power 23 = .ok (.ifCond .ne 10, 3) := by decide +kernel
theorem dX11_power_26 : decode cX11_power 26 = .ok (.aload_n 0, 1) := by decide +kernel
theorem dX11_power_27 : decode cX11_power 27 = .ok (.bipush (-15), 2) := by decide +kernel
theorem dX11_power_29 : decode cX11_power 29 = .ok (.invokevirtual 120, 3) := by decide +kernel
theorem dX11_power_32 : decode cX11_power 32 = .ok (.ireturn, 1) := by decide +kernel
theorem dX11_power_33 : decode cX11_power 33 = .ok (.aload_n 0, 1) := by decide +kernel
theorem dX11_power_34 : decode cX11_power 34 = .ok (.iload_n 1, 1) := by decide +kernel
theorem dX11_power_35 : decode cX11_power 35 = .ok (.ifCond .ne 13, 3) := by decide +kernel
theorem dX11_power_38 : decode cX11_power 38 = .ok (.aload_n 0, 1) := by decide +kernel
theorem dX11_power_39 : decode cX11_power 39 = .ok (.getfield 58, 3) := by decide +kernel
theorem dX11_power_42 : decode cX11_power 42 = .ok (.invokevirtual 278, 3) := by decide +kernel
theorem dX11_power_45 : decode cX11_power 45 = .ok (.goto 10, 3) := by decide +kernel
theorem dX11_power_48 : decode cX11_power 48 = .ok (.aload_n 0, 1) := by decide +kernel
theorem dX11_power_49 : decode cX11_power 49 = .ok (.getfield 58, 3) := by decide +kernel
theorem dX11_power_52 : decode cX11_power 52 = .ok (.invokevirtual 281, 3) := by decide +kernel
theorem dX11_power_55 : decode cX11_power 55 = .ok (.invokevirtual 131, 3) := by decide +kernel
theorem dX11_power_58 : decode cX11_power 58 = .ok (.ireturn, 1) := by decide +kernel
theorem dX11_determinant_0 : decode cX11_determinant 0 = .ok (.aload_n 0, 1) := by decide +kernel
theorem dX11_determinant_1 : decode cX11_determinant 1 = .ok (.iload_n 1, 1) := by decide +kernel
theorem dX11_determinant_2 : decode cX11_determinant 2 = .ok (.invokevirtual 134, 3) := by decide +kernel
theorem dX11_determinant_5 : decode cX11_determinant 5 = .ok (.ifCond .eq 13, 3) := by decide +kernel
theorem dX11_determinant_8 : decode cX11_determinant 8 = .ok (.aload_n 0, 1) := by decide +kernel
theorem dX11_determinant_9 : decode cX11_determinant 9 = .ok (.iload_n 1, 1) := by decide +kernel
theorem dX11_determinant_10 : decode cX11_determinant 10 = .ok (.bipush 14, 2) := by decide +kernel
theorem dX11_determinant_12 : decode cX11_determinant 12 = .ok (.invokevirtual 257, 3) := by decide +kernel
theorem dX11_determinant_15 : decode cX11_determinant 15 = .ok (.goto 5, 3) := by decide +kernel
theorem dX11_determinant_18 : decode cX11_determinant 18 = .ok (.bipush (-2), 2) := by decide +kernel
theorem dX11_determinant_20 : decode cX11_determinant 20 = .ok (.istore_n 2, 1) := by decide +kernel
theorem dX11_determinant_21 : decode cX11_determinant 21 = .ok (.iload_n 2, 1) := by decide +kernel
theorem dX11_determinant_22 : decode cX11_determinant 22 = .ok (.ifCond .eq 10, 3) := by decide +kernel
theorem dX11_determinant_25 : decode cX11_determinant 25 = .ok (.aload_n 0, 1) := by decide +kernel
theorem dX11_determinant_26 : decode cX11_determinant 26 = .ok (.iload_n 2, 1) := by decide +kernel
theorem dX11_determinant_27 : decode cX11_determinant 27 = .ok (.invokevirtual 120, 3) := by decide +kernel
theorem dX11_determinant_30 : decode cX11_determinant 30 = .ok (.i2l, 1) := by decide +kernel
theorem dX11_determinant_31 : decode cX11_determinant 31 = .ok (.lreturn, 1) := by decide +kernel
theorem dX11_determinant_32 : decode cX11_determinant 32 = .ok (.aload_n 0, 1) := by decide +kernel
theorem dX11_determinant_33 : decode cX11_determinant 33 = .ok (.getfield 51, 3) := by decide +kernel
theorem dX11_determinant_36 : decode cX11_determinant 36 = .ok (.aload_n 0, 1) := by decide +kernel
theorem dX11_determinant_37 : decode cX11_determinant 37 = .ok (.getfield 36, 3) := by decide +kernel
theorem dX11_determinant_40 : decode cX11_determinant 40 = .ok (.aload_n 0, 1) := by decide +kernel
theorem dX11_determinant_41 : decode cX11_determinant 41 = .ok (.getfield 62, 3) := by decide +kernel
theorem dX11_determinant_44 : decode cX11_determinant 44 = .ok (.invokevirtual 260, 3) := by decide +kernel
theorem dX11_determinant_47 : decode cX11_determinant 47 = .ok (.aload_n 0, 1) := by decide +kernel
theorem dX11_determinant_48 : decode cX11_determinant 48 = .ok (.iconst 0, 1) := by decide +kernel
theorem dX11_determinant_49 : decode cX11_determinant 49 = .ok (.putfield 110, 3) := by decide +kernel
theorem dX11_determinant_52 : decode cX11_determinant 52 = .ok (.aload_n 0, 1) := by decide +kernel
theorem dX11_determinant_53 : decode cX11_determinant 53 = .ok (.getfield 62, 3) := by decide +kernel
theorem dX11_determinant_56 : decode cX11_determinant 56 = .ok (.invokevirtual 284, 3) := by decide +kernel
theorem dX11_determinant_59 : decode cX11_determinant 59 = .ok (.lreturn, 1) := by decide +kernel
theorem dX11_gauss_0 : decode cX11_gauss 0 = .ok (.aload_n 0, 1) := by decide +kernel
theorem dX11_gauss_1 : decode cX11_gauss 1 = .ok (.iload_n 1, 1) := by decide +kernel
theorem dX11_gauss_2 : decode cX11_gauss 2 = .ok (.invokevirtual 134, 3) := by decide +kernel
theorem dX11_gauss_5 : decode cX11_gauss 5 = .ok (.ifCond .ne 10, 3) := by decide +kernel
theorem dX11_gauss_8 : decode cX11_gauss 8 = .ok (.aload_n 0, 1) := by decide +kernel
theorem dX11_gauss_9 : decode cX11_gauss 9 = .ok (.bipush (-2), 2) := by decide +kernel
theorem dX11_gauss_11 : decode cX11_gauss 11 = .ok (.invokevirtual 120, 3) := by decide +kernel
theorem dX11_gauss_14 : decode cX11_gauss 14 = .ok (.ireturn, 1) := by decide +kernel
theorem dX11_gauss_15 : decode cX11_gauss 15 = .ok (.aload_n 0, 1) := by decide +kernel
theorem dX11_gauss_16 : decode cX11_gauss 16 = .ok (.iload_n 1, 1) := by decide +kernel
theorem dX11_gauss_17 : decode cX11_gauss 17 = .ok (.aload_n 0, 1) := by decide +kernel
theorem dX11_gauss_18 : decode cX11_gauss 18 = .ok (.getfield 36, 3) := by decide +kernel
theorem dX11_gauss_21 : decode cX11_gauss 21 = .ok (.invokevirtual 184, 3) := by decide +kernel
theorem dX11_gauss_24 : decode cX11_gauss 24 = .ok (.ifCond .ne 10, 3) := by decide +kernel
theorem dX11_gauss_27 : decode cX11_gauss 27 = .ok (.aload_n 0, 1) := by decide +kernel
theorem dX11_gauss_28 : decode cX11_gauss 28 = .ok (.bipush (-13), 2) := by decide +kernel
theorem dX11_gauss_30 : decode cX11_gauss 30 = .ok (.invokevirtual 120, 3) := by decide +kernel
theorem dX11_gauss_33 : decode cX11_gauss 33 = .ok (.ireturn, 1) := by decide +kernel
theorem dX11_gauss_34 : decode cX11_gauss 34 = .ok (.aload_n 0, 1) := by decide +kernel
theorem dX11_gauss_35 : decode cX11_gauss 35 = .ok (.getfield 36, 3) := by decide +kernel
theorem dX11_gauss_38 : decode cX11_gauss 38 = .ok (.aload_n 0, 1) := by decide +kernel
theorem dX11_gauss_39 : decode cX11_gauss 39 = .ok (.getfield 26, 3) := by decide +kernel
theorem dX11_gauss_42 : decode cX11_gauss 42 = .ok (.invokevirtual 288, 3) := by decide +kernel
theorem dX11_gauss_45 : decode cX11_gauss 45 = .ok (.aload_n 0, 1) := by decide +kernel
theorem dX11_gauss_46 : decode cX11_gauss 46 = .ok (.aload_n 0, 1) := by decide +kernel
theorem dX11_gauss_47 : decode cX11_gauss 47 = .ok (.getfield 26, 3) := by decide +kernel
theorem dX11_gauss_50 : decode cX11_gauss 50 = .ok (.getfield 292, 3) := by decide +kernel
theorem dX11_gauss_53 : decode cX11_gauss 53 = .ok (.invokevirtual 131, 3) := by decide +kernel
theorem dX11_gauss_56 : decode cX11_gauss 56 = .ok (.ireturn, 1) := by decide +kernel
theorem dX11_type_0 : decode cX11_type 0 = .ok (.aload_n 0, 1) := by decide +kernel
theorem dX11_type_1 : decode cX11_type 1 = .ok (.getfield 26, 3) := by decide +kernel
theorem dX11_type_4 : decode cX11_type 4 = .ok (.iload_n 1, 1) := by decide +kernel
theorem dX11_type_5 : decode cX11_type 5 = .ok (.invokevirtual 295, 3) := by decide +kernel
theorem dX11_type_8 : decode cX11_type 8 = .ok (.ifCond .eq 17, 3) := by decide +kernel
theorem dX11_type_11 : decode cX11_type 11 = .ok (.aload_n 0, 1) := by decide +kernel
theorem dX11_type_12 : decode cX11_type 12 = .ok (.aload_n 0, 1) := by decide +kernel
theorem dX11_type_13 : decode cX11_type 13 = .ok (.getfield 26, 3) := by decide +kernel
theorem dX11_type_16 : decode cX11_type 16 = .ok (.getfield 292, 3) := by decide +kernel
theorem dX11_type_19 : decode cX11_type 19 = .ok (.invokevirtual 131, 3) := by decide +kernel
theorem dX11_type_22 : decode cX11_type 22 = .ok (.goto 9, 3) := by decide +kernel
theorem dX11_type_25 : decode cX11_type 25 = .ok (.aload_n 0, 1) := by decide +kernel
theorem dX11_type_26 : decode cX11_type 26 = .ok (.bipush (-3), 2) := by decide +kernel
theorem dX11_type_28 : decode cX11_type 28 = .ok (.invokevirtual 120, 3) := by decide +kernel
theorem dX11_type_31 : decode cX11_type 31 = .ok (.ireturn, 1) := by decide +kernel
theorem dX11_clear_0 : decode cX11_clear 0 = .ok (.aload_n 0, 1) := by decide +kernel
theorem dX11_clear_1 : decode cX11_clear 1 = .ok (.getfield 26, 3) := by decide +kernel
theorem dX11_clear_4 : decode cX11_clear 4 = .ok (.getfield 292, 3) := by decide +kernel
theorem dX11_clear_7 : decode cX11_clear 7 = .ok (.istore_n 1, 1) := by decide +kernel
theorem dX11_clear_8 : decode cX11_clear 8 = .ok (.aload_n 0, 1) := by decide +kernel
theorem dX11_clear_9 : decode cX11_clear 9 = .ok (.getfield 26, 3) := by decide +kernel
theorem dX11_clear_12 : decode cX11_clear 12 = .ok (.invokevirtual 297, 3) := by decide +kernel
theorem dX11_clear_15 : decode cX11_clear 15 = .ok (.aload_n 0, 1) := by decide +kernel
theorem dX11_clear_16 : decode cX11_clear 16 = .ok (.iload_n 1, 1) := by decide +kernel
theorem dX11_clear_17 : decode cX11_clear 17 = .ok (.invokevirtual 131, 3) := by decide +kernel
theorem dX11_clear_20 : decode cX11_clear 20 = .ok (.ireturn, 1) := by decide +kernel
theorem dX11_item_0 : decode cX11_item 0 = .ok (.aload_n 0, 1) := by decide +kernel
theorem dX11_item_1 : decode cX11_item 1 = .ok (.getfield 26, 3) := by decide +kernel
theorem dX11_item_4 : decode cX11_item 4 = .ok (.iload_n 1, 1) := by decide +kernel
theorem dX11_item_5 : decode cX11_item 5 = .ok (.invokevirtual 298, 3) := by decide +kernel
theorem dX11_item_8 : decode cX11_item 8 = .ok (.ifCond .eq 15, 3) := by decide +kernel
theorem dX11_item_11 : decode cX11_item 11 = .ok (.aload_n 0, 1) := by decide +kernel
theorem dX11_item_12 : decode cX11_item 12 = .ok (.getfield 26, 3) := by decide +kernel
theorem dX11_item_15 : decode cX11_item 15 = .ok (.getfield 301, 3) := by decide +kernel
theorem dX11_item_18 : decode cX11_item 18 = .ok (.iload_n 1, 1) := by decide +kernel
theorem dX11_item_19 : decode cX11_item 19 = .ok (.iaload, 1) := by decide +kernel
theorem dX11_item_20 : decode cX11_item 20 = .ok (.goto 5, 3) := by decide +kernel
theorem dX11_item_23 : decode cX11_item 23 = .ok (.bipush (-2), 2) := by decide +kernel
theorem dX11_item_25 : decode cX11_item 25 = .ok (.ireturn, 1) := by decide +kernel
theorem dX11_ofGauss_0 : decode cX11_ofGauss 0 = .ok (.aload_n 0, 1) := by decide +kernel
theorem dX11_ofGauss_1 : decode cX11_ofGauss 1 = .ok (.invokevirtual 116, 3) := by decide +kernel
theorem dX11_ofGauss_4 : decode cX11_ofGauss 4 = .ok (.ifCond .eq 10, 3) := by decide +kernel
theorem dX11_ofGauss_7 : decode cX11_ofGauss 7 = .ok (.aload_n 0, 1) := by decide +kernel
theorem dX11_ofGauss_8 : decode cX11_ofGauss 8 = .ok (.bipush (-3), 2) := by decide +kernel
theorem dX11_ofGauss_10 : decode cX11_ofGauss 10 = .ok (.invokevirtual 120, 3) := by decide +kernel
theorem dX11_ofGauss_13 : decode cX11_ofGauss 13 = .ok (.ireturn, 1) := by decide +kernel
theorem dX11_ofGauss_14 : decode cX11_ofGauss 14 = .ok (.aload_n 0, 1) := by decide +kernel
theorem dX11_ofGauss_15 : decode cX11_ofGauss 15 = .ok (.getfield 44, 3) := by decide +kernel
theorem dX11_ofGauss_18 : decode cX11_ofGauss 18 = .ok (.aload_n 0, 1) := by decide +kernel
theorem dX11_ofGauss_19 : decode cX11_ofGauss 19 = .ok (.getfield 26, 3) := by decide +kernel
theorem dX11_ofGauss_22 : decode cX11_ofGauss 22 = .ok (.invokevirtual 304, 3) := by decide +kernel
theorem dX11_ofGauss_25 : decode cX11_ofGauss 25 = .ok (.ifCond .ne 10, 3) := by decide +kernel
theorem dX11_ofGauss_28 : decode cX11_ofGauss 28 = .ok (.aload_n 0, 1) := by decide +kernel
theorem dX11_ofGauss_29 : decode cX11_ofGauss 29 = .ok (.bipush (-15), 2) := by decide +kernel
theorem dX11_ofGauss_31 : decode cX11_ofGauss 31 = .ok (.invokevirtual 120, 3) := by decide +kernel
theorem dX11_ofGauss_34 : decode cX11_ofGauss 34 = .ok (.ireturn, 1) := by decide +kernel
theorem dX11_ofGauss_35 : decode cX11_ofGauss 35 = .ok (.aload_n 0, 1) := by decide +kernel
theorem dX11_ofGauss_36 : decode cX11_ofGauss 36 = .ok (.getfield 36, 3) := by decide +kernel
theorem dX11_ofGauss_39 : decode cX11_ofGauss 39 = .ok (.aload_n 0, 1) := by decide +kernel
theorem dX11_ofGauss_40 : decode cX11_ofGauss 40 = .ok (.getfield 44, 3) := by decide +kernel
theorem dX11_ofGauss_43 : decode cX11_ofGauss 43 = .ok (.invokevirtual 103, 3) := by decide +kernel
theorem dX11_ofGauss_46 : decode cX11_ofGauss 46 = .ok (.aload_n 0, 1) := by decide +kernel
theorem dX11_ofGauss_47 : decode cX11_ofGauss 47 = .ok (.getfield 36, 3) := by decide +kernel
theorem dX11_ofGauss_50 : decode cX11_ofGauss 50 = .ok (.getfield 107, 3) := by decide +kernel
theorem dX11_ofGauss_53 : decode cX11_ofGauss 53 = .ok (.ifCond .ne 18, 3) := by decide +kernel
theorem dX11_ofGauss_56 : decode cX11_ofGauss 56 = .ok (.aload_n 0, 1) := by decide +kernel
theorem dX11_ofGauss_57 : decode cX11_ofGauss 57 = .ok (.aload_n 0, 1) := by decide +kernel
theorem dX11_ofGauss_58 : decode cX11_ofGauss 58 = .ok (.aload_n 0, 1) := by decide +kernel
theorem dX11_ofGauss_59 : decode cX11_ofGauss 59 = .ok (.getfield 44, 3) := by decide +kernel
theorem dX11_ofGauss_62 : decode cX11_ofGauss 62 = .ok (.invokevirtual 127, 3) := by decide +kernel
theorem dX11_ofGauss_65 : decode cX11_ofGauss 65 = .ok (.invokevirtual 131, 3) := by decide +kernel
theorem dX11_ofGauss_68 : decode cX11_ofGauss 68 = .ok (.goto 9, 3) := by decide +kernel
theorem dX11_ofGauss_71 : decode cX11_ofGauss 71 = .ok (.aload_n 0, 1) := by decide +kernel
theorem dX11_ofGauss_72 : decode cX11_ofGauss 72 = .ok (.bipush (-15), 2) := by decide +kernel
theorem dX11_ofGauss_74 : decode cX11_ofGauss 74 = .ok (.invokevirtual 120, 3) := by decide +kernel
theorem dX11_ofGauss_77 : decode cX11_ofGauss 77 = .ok (.ireturn, 1) := by decide +kernel
theorem dX11_isKind_0 : decode cX11_isKind 0 = .ok (.iload_n 0, 1) := by decide +kernel
theorem dX11_isKind_1 : decode cX11_isKind 1 = .ok (.ifCond .lt 13, 3) := by decide +kernel
theorem dX11_isKind_4 : decode cX11_isKind 4 = .ok (.iload_n 0, 1) := by decide +kernel
theorem dX11_isKind_5 : decode cX11_isKind 5 = .ok (.bipush 6, 2) := by decide +kernel
theorem dX11_isKind_7 : decode cX11_isKind 7 = .ok (.if_icmp .ge 7, 3) := by decide +kernel
theorem dX11_isKind_10 : decode cX11_isKind 10 = .ok (.iconst 1, 1) := by decide +kernel
theorem dX11_isKind_11 : decode cX11_isKind 11 = .ok (.goto 4, 3) := by decide +kernel
theorem dX11_isKind_14 : decode cX11_isKind 14 = .ok (.iconst 0, 1) := by decide +kernel
theorem dX11_isKind_15 : decode cX11_isKind 15 = .ok (.ireturn, 1) := by decide +kernel
theorem dX11_move_0 : decode cX11_move 0 = .ok (.iload_n 1, 1) := by decide +kernel
theorem dX11_move_1 : decode cX11_move 1 = .ok (.invokestatic 308, 3) := by decide +kernel
theorem dX11_move_4 : decode cX11_move 4 = .ok (.ifCond .ne 10, 3) := by decide +kernel
theorem dX11_move_7 : decode cX11_move 7 = .ok (.aload_n 0, 1) := by decide +kernel
theorem dX11_move_8 : decode cX11_move 8 = .ok (.bipush (-2), 2) := by decide +kernel
theorem dX11_move_10 : decode cX11_move 10 = .ok (.invokevirtual 120, 3) := by decide +kernel
theorem dX11_move_13 : decode cX11_move 13 = .ok (.ireturn, 1) := by decide +kernel
theorem dX11_move_14 : decode cX11_move 14 = .ok (.aload_n 0, 1) := by decide +kernel
theorem dX11_move_15 : decode cX11_move 15 = .ok (.getfield 100, 3) := by decide +kernel
theorem dX11_move_18 : decode cX11_move 18 = .ok (.bipush 60, 2) := by decide +kernel
theorem dX11_move_20 : decode cX11_move 20 = .ok (.if_icmp .lt 10, 3) := by decide +kernel
theorem dX11_move_23 : decode cX11_move 23 = .ok (.aload_n 0, 1) := by decide +kernel
theorem dX11_move_24 : decode cX11_move 24 = .ok (.bipush (-3), 2) := by decide +kernel
theorem dX11_move_26 : decode cX11_move 26 = .ok (.invokevirtual 120, 3) := by decide +kernel
theorem dX11_move_29 : decode cX11_move 29 = .ok (.ireturn, 1) := by decide +kernel
theorem dX11_move_30 : decode cX11_move 30 = .ok (.aload_n 0, 1) := by decide +kernel
theorem dX11_move_31 : decode cX11_move 31 = .ok (.getfield 17, 3) := by decide +kernel
theorem dX11_move_34 : decode cX11_move 34 = .ok (.aload_n 0, 1) := by decide +kernel
theorem dX11_move_35 : decode cX11_move 35 = .ok (.getfield 100, 3) := by decide +kernel
theorem dX11_move_38 : decode cX11_move 38 = .ok (.new 15, 3) := by decide +kernel
theorem dX11_move_41 : decode cX11_move 41 = .ok (.dup, 1) := by decide +kernel
theorem dX11_move_42 : decode cX11_move 42 = .ok (.iload_n 1, 1) := by decide +kernel
theorem dX11_move_43 : decode cX11_move 43 = .ok (.iload_n 2, 1) := by decide +kernel
theorem dX11_move_44 : decode cX11_move 44 = .ok (.iload_n 3, 1) := by decide +kernel
theorem dX11_move_45 : decode cX11_move 45 = .ok (.iload 4, 2) := by decide +kernel
theorem dX11_move_47 : decode cX11_move 47 = .ok (.invokespecial 311, 3) := by decide +kernel
theorem dX11_move_50 : decode cX11_move 50 = .ok (.aastore, 1) := by decide +kernel
theorem dX11_move_51 : decode cX11_move 51 = .ok (.aload_n 0, 1) := by decide +kernel
theorem dX11_move_52 : decode cX11_move 52 = .ok (.dup, 1) := by decide +kernel
theorem dX11_move_53 : decode cX11_move 53 = .ok (.getfield 100, 3) := by decide +kernel
theorem dX11_move_56 : decode cX11_move 56 = .ok (.iconst 1, 1) := by decide +kernel
theorem dX11_move_57 : decode cX11_move 57 = .ok (.iadd, 1) := by decide +kernel
theorem dX11_move_58 : decode cX11_move 58 = .ok (.putfield 100, 3) := by decide +kernel
theorem dX11_move_61 : decode cX11_move 61 = .ok (.aload_n 0, 1) := by decide +kernel
theorem dX11_move_62 : decode cX11_move 62 = .ok (.aload_n 0, 1) := by decide +kernel
theorem dX11_move_63 : decode cX11_move 63 = .ok (.getfield 100, 3) := by decide +kernel
theorem dX11_move_66 : decode cX11_move 66 = .ok (.iconst 1, 1) := by decide +kernel
theorem dX11_move_67 : decode cX11_move 67 = .ok (.isub, 1) := by decide +kernel
theorem dX11_move_68 : decode cX11_move 68 = .ok (.invokevirtual 131, 3) := by decide +kernel
theorem dX11_move_71 : decode cX11_move 71 = .ok (.ireturn, 1) := by decide +kernel
theorem dX11_tells_0 : decode cX11_tells 0 = .ok (.aload_n 0, 1) := by decide +kernel
theorem dX11_tells_1 : decode cX11_tells 1 = .ok (.iload_n 1, 1) := by decide +kernel
theorem dX11_tells_2 : decode cX11_tells 2 = .ok (.invokevirtual 313, 3) := by decide +kernel
theorem dX11_tells_5 : decode cX11_tells 5 = .ok (.ifCond .eq 12, 3) := by decide +kernel
theorem dX11_tells_8 : decode cX11_tells 8 = .ok (.iload_n 2, 1) := by decide +kernel
theorem dX11_tells_9 : decode cX11_tells 9 = .ok (.ifCond .lt 8, 3) := by decide +kernel
theorem dX11_tells_12 : decode cX11_tells 12 = .ok (.iload_n 2, 1) := by decide +kernel
theorem dX11_tells_13 : decode cX11_tells 13 = .ok (.iconst 5, 1) := by decide +kernel
theorem dX11_tells_14 : decode cX11_tells 14 = .ok (.if_icmp .le 10, 3) := by decide +kernel
theorem dX11_tells_17 : decode cX11_tells 17 = .ok (.aload_n 0, 1) := by decide +kernel
theorem dX11_tells_18 : decode cX11_tells 18 = .ok (.bipush (-2), 2) := by decide +kernel
theorem dX11_tells_20 : decode cX11_tells 20 = .ok (.invokevirtual 120, 3) := by decide +kernel
theorem dX11_tells_23 : decode cX11_tells 23 = .ok (.ireturn, 1) := by decide +kernel
theorem dX11_tells_24 : decode cX11_tells 24 = .ok (.aload_n 0, 1) := by decide +kernel
theorem dX11_tells_25 : decode cX11_tells 25 = .ok (.getfield 30, 3) := by decide +kernel
theorem dX11_tells_28 : decode cX11_tells 28 = .ok (.invokevirtual 297, 3) := by decide +kernel
theorem dX11_tells_31 : decode cX11_tells 31 = .ok (.iload_n 2, 1) := by decide +kernel
theorem dX11_tells_32 : decode cX11_tells 32 = .ok (.iconst 4, 1) := by decide +kernel
theorem dX11_tells_33 : decode cX11_tells 33 = .ok (.if_icmp .ge 18, 3) := by decide +kernel
theorem dX11_tells_36 : decode cX11_tells 36 = .ok (.aload_n 0, 1) := by decide +kernel
theorem dX11_tells_37 : decode cX11_tells 37 = .ok (.aload_n 0, 1) := by decide +kernel
theorem dX11_tells_38 : decode cX11_tells 38 = .ok (.getfield 17, 3) := by decide +kernel
theorem dX11_tells_41 : decode cX11_tells 41 = .ok (.iload_n 1, 1) := by decide +kernel
theorem dX11_tells_42 : decode cX11_tells 42 = .ok (.aaload, 1) := by decide +kernel
theorem dX11_tells_43 : decode cX11_tells 43 = .ok (.iload_n 2, 1) := by decide +kernel
theorem dX11_tells_44 : decode cX11_tells 44 = .ok (.invokevirtual 316, 3) := by decide +kernel
theorem dX11_tells_47 : decode cX11_tells 47 = .ok (.invokevirtual 131, 3) := by decide +kernel
theorem dX11_tells_50 : decode cX11_tells 50 = .ok (.ireturn, 1) := by decide +kernel
theorem dX11_tells_51 : decode cX11_tells 51 = .ok (.aload_n 0, 1) := by decide +kernel
theorem dX11_tells_52 : decode cX11_tells 52 = .ok (.getfield 17, 3) := by decide +kernel
theorem dX11_tells_55 : decode cX11_tells 55 = .ok (.iload_n 1, 1) := by decide +kernel
theorem dX11_tells_56 : decode cX11_tells 56 = .ok (.aaload, 1) := by decide +kernel
theorem dX11_tells_57 : decode cX11_tells 57 = .ok (.aload_n 0, 1) := by decide +kernel
theorem dX11_tells_58 : decode cX11_tells 58 = .ok (.getfield 30, 3) := by decide +kernel
theorem dX11_tells_61 : decode cX11_tells 61 = .ok (.invokevirtual 319, 3) := by decide +kernel
theorem dX11_tells_64 : decode cX11_tells 64 = .ok (.istore_n 3, 1) := by decide +kernel
theorem dX11_tells_65 : decode cX11_tells 65 = .ok (.iload_n 2, 1) := by decide +kernel
theorem dX11_tells_66 : decode cX11_tells 66 = .ok (.iconst 4, 1) := by decide +kernel
theorem dX11_tells_67 : decode cX11_tells 67 = .ok (.if_icmp .ne 9, 3) := by decide +kernel
theorem dX11_tells_70 : decode cX11_tells 70 = .ok (.aload_n 0, 1) := by decide +kernel
theorem dX11_tells_71 : decode cX11_tells 71 = .ok (.iload_n 3, 1) := by decide +kernel
theorem dX11_tells_72 : decode cX11_tells 72 = .ok (.invokevirtual 131, 3) := by decide +kernel
theorem dX11_tells_75 : decode cX11_tells 75 = .ok (.ireturn, 1) := by decide +kernel
theorem dX11_tells_76 : decode cX11_tells 76 = .ok (.aload_n 0, 1) := by decide +kernel
theorem dX11_tells_77 : decode cX11_tells 77 = .ok (.iload_n 3, 1) := by decide +kernel
theorem dX11_tells_78 : decode cX11_tells 78 = .ok (.ifCond .ne 7, 3) := by decide +kernel
theorem dX11_tells_81 : decode cX11_tells 81 = .ok (.iconst 1, 1) := by decide +kernel
theorem dX11_tells_82 : decode cX11_tells 82 = .ok (.goto 4, 3) := by decide +kernel
theorem dX11_tells_85 : decode cX11_tells 85 = .ok (.iconst 0, 1) := by decide +kernel
theorem dX11_tells_86 : decode cX11_tells 86 = .ok (.invokevirtual 131, 3) := by decide +kernel
theorem dX11_tells_89 : decode cX11_tells 89 = .ok (.ireturn, 1) := by decide +kernel
theorem dX11_as_0 : decode cX11_as 0 = .ok (.aload_n 0, 1) := by decide +kernel
theorem dX11_as_1 : decode cX11_as 1 = .ok (.iload_n 1, 1) := by decide +kernel
theorem dX11_as_2 : decode cX11_as 2 = .ok (.invokevirtual 313, 3) := by decide +kernel
theorem dX11_as_5 : decode cX11_as 5 = .ok (.ifCond .eq 10, 3) := by decide +kernel
theorem dX11_as_8 : decode cX11_as 8 = .ok (.iload_n 2, 1) := by decide +kernel
theorem dX11_as_9 : decode cX11_as 9 = .ok (.invokestatic 308, 3) := by decide +kernel
theorem dX11_as_12 : decode cX11_as 12 = .ok (.ifCond .ne 10, 3) := by decide +kernel
theorem dX11_as_15 : decode cX11_as 15 = .ok (.aload_n 0, 1) := by decide +kernel
theorem dX11_as_16 : decode cX11_as 16 = .ok (.bipush (-2), 2) := by decide +kernel
theorem dX11_as_18 : decode cX11_as 18 = .ok (.invokevirtual 120, 3) := by decide +kernel
theorem dX11_as_21 : decode cX11_as 21 = .ok (.ireturn, 1) := by decide +kernel
theorem dX11_as_22 : decode cX11_as 22 = .ok (.aload_n 0, 1) := by decide +kernel
theorem dX11_as_23 : decode cX11_as 23 = .ok (.getfield 17, 3) := by decide +kernel
theorem dX11_as_26 : decode cX11_as 26 = .ok (.iload_n 1, 1) := by decide +kernel
theorem dX11_as_27 : decode cX11_as 27 = .ok (.aaload, 1) := by decide +kernel
theorem dX11_as_28 : decode cX11_as 28 = .ok (.iload_n 2, 1) := by decide +kernel
theorem dX11_as_29 : decode cX11_as 29 = .ok (.invokevirtual 323, 3) := by decide +kernel
theorem dX11_as_32 : decode cX11_as 32 = .ok (.ifCond .eq 11, 3) := by decide +kernel
theorem dX11_as_35 : decode cX11_as 35 = .ok (.aload_n 0, 1) := by decide +kernel
theorem dX11_as_36 : decode cX11_as 36 = .ok (.iconst 1, 1) := by decide +kernel
theorem dX11_as_37 : decode cX11_as 37 = .ok (.invokevirtual 131, 3) := by decide +kernel
theorem dX11_as_40 : decode cX11_as 40 = .ok (.goto 9, 3) := by decide +kernel
theorem dX11_as_43 : decode cX11_as 43 = .ok (.aload_n 0, 1) := by decide +kernel
theorem dX11_as_44 : decode cX11_as 44 = .ok (.bipush (-14), 2) := by decide +kernel
theorem dX11_as_46 : decode cX11_as 46 = .ok (.invokevirtual 120, 3) := by decide +kernel
theorem dX11_as_49 : decode cX11_as 49 = .ok (.ireturn, 1) := by decide +kernel
theorem dX11_tryMove_0 : decode cX11_tryMove 0 = .ok (.aload_n 0, 1) := by decide +kernel
theorem dX11_tryMove_1 : decode cX11_tryMove 1 = .ok (.iload_n 1, 1) := by decide +kernel
theorem dX11_tryMove_2 : decode cX11_tryMove 2 = .ok (.invokevirtual 134, 3) := by decide +kernel
theorem dX11_tryMove_5 : decode cX11_tryMove 5 = .ok (.ifCond .eq 11, 3) := by decide +kernel
theorem dX11_tryMove_8 : decode cX11_tryMove 8 = .ok (.aload_n 0, 1) := by decide +kernel
theorem dX11_tryMove_9 : decode cX11_tryMove 9 = .ok (.iload_n 2, 1) := by decide +kernel
theorem dX11_tryMove_10 : decode cX11_tryMove 10 = .ok (.invokevirtual 313, 3) := by decide +kernel
theorem dX11_tryMove_13 : decode cX11_tryMove 13 = .ok (.ifCond .ne 6, 3) := by decide +kernel
theorem dX11_tryMove_16 : decode cX11_tryMove 16 = .ok (.bipush (-2), 2) := by decide +kernel
theorem dX11_tryMove_18 : decode cX11_tryMove 18 = .ok (.ireturn, 1) := by decide +kernel
theorem dX11_tryMove_19 : decode cX11_tryMove 19 = .ok (.aload_n 0, 1) := by decide +kernel
theorem dX11_tryMove_20 : decode cX11_tryMove 20 = .ok (.iload_n 1, 1) := by decide +kernel
theorem dX11_tryMove_21 : decode cX11_tryMove 21 = .ok (.aload_n 0, 1) := by decide +kernel
theorem dX11_tryMove_22 : decode cX11_tryMove 22 = .ok (.getfield 36, 3) := by decide +kernel
theorem dX11_tryMove_25 : decode cX11_tryMove 25 = .ok (.invokevirtual 184, 3) := by decide +kernel
theorem dX11_tryMove_28 : decode cX11_tryMove 28 = .ok (.ifCond .ne 6, 3) := by decide +kernel
theorem dX11_tryMove_31 : decode cX11_tryMove 31 = .ok (.bipush (-13), 2) := by decide +kernel
theorem dX11_tryMove_33 : decode cX11_tryMove 33 = .ok (.ireturn, 1) := by decide +kernel
theorem dX11_tryMove_34 : decode cX11_tryMove 34 = .ok (.aload_n 0, 1) := by decide +kernel
theorem dX11_tryMove_35 : decode cX11_tryMove 35 = .ok (.getfield 44, 3) := by decide +kernel
theorem dX11_tryMove_38 : decode cX11_tryMove 38 = .ok (.aload_n 0, 1) := by decide +kernel
theorem dX11_tryMove_39 : decode cX11_tryMove 39 = .ok (.getfield 11, 3) := by decide +kernel
theorem dX11_tryMove_42 : decode cX11_tryMove 42 = .ok (.iload_n 1, 1) := by decide +kernel
theorem dX11_tryMove_43 : decode cX11_tryMove 43 = .ok (.aaload, 1) := by decide +kernel
theorem dX11_tryMove_44 : decode cX11_tryMove 44 = .ok (.invokevirtual 113, 3) := by decide +kernel
theorem dX11_tryMove_47 : decode cX11_tryMove 47 = .ok (.aload_n 0, 1) := by decide +kernel
theorem dX11_tryMove_48 : decode cX11_tryMove 48 = .ok (.getfield 17, 3) := by decide +kernel
theorem dX11_tryMove_51 : decode cX11_tryMove 51 = .ok (.iload_n 2, 1) := by decide +kernel
theorem dX11_tryMove_52 : decode cX11_tryMove 52 = .ok (.aaload, 1) := by decide +kernel
theorem dX11_tryMove_53 : decode cX11_tryMove 53 = .ok (.aload_n 0, 1) := by decide +kernel
theorem dX11_tryMove_54 : decode cX11_tryMove 54 = .ok (.getfield 44, 3) := by decide +kernel
theorem dX11_tryMove_57 : decode cX11_tryMove 57 = .ok (.aload_n 0, 1) := by decide +kernel
theorem dX11_tryMove_58 : decode cX11_tryMove 58 = .ok (.getfield 36, 3) := by decide +kernel
theorem dX11_tryMove_61 : decode cX11_tryMove 61 = .ok (.invokevirtual 326, 3) := by decide +kernel
theorem dX11_tryMove_64 : decode cX11_tryMove 64 = .ok (.ireturn, 1) := by decide +kernel
theorem dX11_tryUndoing_0 : decode cX11_tryUndoing 0 = .ok (.aload_n 0, 1) := by decide +kernel
theorem dX11_tryUndoing_1 : decode cX11_tryUndoing 1 = .ok (.iload_n 1, 1) := by decide +kernel
theorem dX11_tryUndoing_2 : decode cX11_tryUndoing 2 = .ok (.invokevirtual 134, 3) := by decide +kernel
theorem dX11_tryUndoing_5 : decode cX11_tryUndoing 5 = .ok (.ifCond .eq 11, 3) := by decide +kernel
theorem dX11_tryUndoing_8 : decode cX11_tryUndoing 8 = .ok (.aload_n 0, 1) := by decide +kernel
theorem dX11_tryUndoing_9 : decode cX11_tryUndoing 9 = .ok (.iload_n 2, 1) := by decide +kernel
theorem dX11_tryUndoing_10 : decode cX11_tryUndoing 10 = .ok (.invokevirtual 313, 3) := by decide +kernel
theorem dX11_tryUndoing_13 : decode cX11_tryUndoing 13 = .ok (.ifCond .ne 6, 3) := by decide +kernel
theorem dX11_tryUndoing_16 : decode cX11_tryUndoing 16 = .ok (.bipush (-2), 2) := by decide +kernel
theorem dX11_tryUndoing_18 : decode cX11_tryUndoing 18 = .ok (.ireturn, 1) := by decide +kernel
theorem dX11_tryUndoing_19 : decode cX11_tryUndoing 19 = .ok (.aload_n 0, 1) := by decide +kernel
theorem dX11_tryUndoing_20 : decode cX11_tryUndoing 20 = .ok (.getfield 17, 3) := by decide +kernel
theorem dX11_tryUndoing_23 : decode cX11_tryUndoing 23 = .ok (.iload_n 2, 1) := by decide +kernel
theorem dX11_tryUndoing_24 : decode cX11_tryUndoing 24 = .ok (.aaload, 1) := by decide +kernel
theorem dX11_tryUndoing_25 : decode cX11_tryUndoing 25 = .ok (.invokevirtual 330, 3) := by decide +kernel
theorem dX11_tryUndoing_28 : decode cX11_tryUndoing 28 = .ok (.ifCond .ne 6, 3) := by decide +kernel
theorem dX11_tryUndoing_31 : decode cX11_tryUndoing 31 = .ok (.bipush (-14), 2) := by decide +kernel
theorem dX11_tryUndoing_33 : decode cX11_tryUndoing 33 = .ok (.ireturn, 1) := by decide +kernel
theorem dX11_tryUndoing_34 : decode cX11_tryUndoing 34 = .ok (.aload_n 0, 1) := by decide +kernel
theorem dX11_tryUndoing_35 : decode cX11_tryUndoing 35 = .ok (.iload_n 1, 1) := by decide +kernel
theorem dX11_tryUndoing_36 : decode cX11_tryUndoing 36 = .ok (.aload_n 0, 1) := by decide +kernel
theorem dX11_tryUndoing_37 : decode cX11_tryUndoing 37 = .ok (.getfield 36, 3) := by decide +kernel
theorem dX11_tryUndoing_40 : decode cX11_tryUndoing 40 = .ok (.invokevirtual 184, 3) := by decide +kernel
theorem dX11_tryUndoing_43 : decode cX11_tryUndoing 43 = .ok (.ifCond .ne 6, 3) := by decide +kernel
theorem dX11_tryUndoing_46 : decode cX11_tryUndoing 46 = .ok (.bipush (-13), 2) := by decide +kernel
theorem dX11_tryUndoing_48 : decode cX11_tryUndoing 48 = .ok (.ireturn, 1) := by decide +kernel
theorem dX11_tryUndoing_49 : decode cX11_tryUndoing 49 = .ok (.aload_n 0, 1) := by decide +kernel
theorem dX11_tryUndoing_50 : decode cX11_tryUndoing 50 = .ok (.getfield 44, 3) := by decide +kernel
theorem dX11_tryUndoing_53 : decode cX11_tryUndoing 53 = .ok (.aload_n 0, 1) := by decide +kernel
theorem dX11_tryUndoing_54 : decode cX11_tryUndoing 54 = .ok (.getfield 11, 3) := by decide +kernel
theorem dX11_tryUndoing_57 : decode cX11_tryUndoing 57 = .ok (.iload_n 1, 1) := by decide +kernel
theorem dX11_tryUndoing_58 : decode cX11_tryUndoing 58 = .ok (.aaload, 1) := by decide +kernel
theorem dX11_tryUndoing_59 : decode cX11_tryUndoing 59 = .ok (.invokevirtual 113, 3) := by decide +kernel
theorem dX11_tryUndoing_62 : decode cX11_tryUndoing 62 = .ok (.aload_n 0, 1) := by decide +kernel
theorem dX11_tryUndoing_63 : decode cX11_tryUndoing 63 = .ok (.getfield 17, 3) := by decide +kernel
theorem dX11_tryUndoing_66 : decode cX11_tryUndoing 66 = .ok (.iload_n 2, 1) := by decide +kernel
theorem dX11_tryUndoing_67 : decode cX11_tryUndoing 67 = .ok (.aaload, 1) := by decide +kernel
theorem dX11_tryUndoing_68 : decode cX11_tryUndoing 68 = .ok (.aload_n 0, 1) := by decide +kernel
theorem dX11_tryUndoing_69 : decode cX11_tryUndoing 69 = .ok (.getfield 44, 3) := by decide +kernel
theorem dX11_tryUndoing_72 : decode cX11_tryUndoing 72 = .ok (.aload_n 0, 1) := by decide +kernel
theorem dX11_tryUndoing_73 : decode cX11_tryUndoing 73 = .ok (.getfield 36, 3) := by decide +kernel
theorem dX11_tryUndoing_76 : decode cX11_tryUndoing 76 = .ok (.invokevirtual 333, 3) := by decide +kernel
theorem dX11_tryUndoing_79 : decode cX11_tryUndoing 79 = .ok (.ireturn, 1) := by decide +kernel
theorem dX11_settle_0 : decode cX11_settle 0 = .ok (.iload_n 2, 1) := by decide +kernel
theorem dX11_settle_1 : decode cX11_settle 1 = .ok (.iconst 1, 1) := by decide +kernel
theorem dX11_settle_2 : decode cX11_settle 2 = .ok (.if_icmp .eq 9, 3) := by decide +kernel
theorem dX11_settle_5 : decode cX11_settle 5 = .ok (.aload_n 0, 1) := by decide +kernel
theorem dX11_settle_6 : decode cX11_settle 6 = .ok (.iload_n 2, 1) := by decide +kernel
theorem dX11_settle_7 : decode cX11_settle 7 = .ok (.invokevirtual 120, 3) := by decide +kernel
theorem dX11_settle_10 : decode cX11_settle 10 = .ok (.ireturn, 1) := by decide +kernel
theorem dX11_settle_11 : decode cX11_settle 11 = .ok (.aload_n 0, 1) := by decide +kernel
theorem dX11_settle_12 : decode cX11_settle 12 = .ok (.getfield 11, 3) := by decide +kernel
theorem dX11_settle_15 : decode cX11_settle 15 = .ok (.iload_n 1, 1) := by decide +kernel
theorem dX11_settle_16 : decode cX11_settle 16 = .ok (.aaload, 1) := by decide +kernel
theorem dX11_settle_17 : decode cX11_settle 17 = .ok (.invokevirtual 201, 3) := by decide +kernel
theorem dX11_settle_20 : decode cX11_settle 20 = .ok (.aload_n 0, 1) := by decide +kernel
theorem dX11_settle_21 : decode cX11_settle 21 = .ok (.getfield 11, 3) := by decide +kernel
theorem dX11_settle_24 : decode cX11_settle 24 = .ok (.iload_n 1, 1) := by decide +kernel
theorem dX11_settle_25 : decode cX11_settle 25 = .ok (.aaload, 1) := by decide +kernel
theorem dX11_settle_26 : decode cX11_settle 26 = .ok (.aload_n 0, 1) := by decide +kernel
theorem dX11_settle_27 : decode cX11_settle 27 = .ok (.getfield 44, 3) := by decide +kernel
theorem dX11_settle_30 : decode cX11_settle 30 = .ok (.invokevirtual 113, 3) := by decide +kernel
theorem dX11_settle_33 : decode cX11_settle 33 = .ok (.aload_n 0, 1) := by decide +kernel
theorem dX11_settle_34 : decode cX11_settle 34 = .ok (.iconst 1, 1) := by decide +kernel
theorem dX11_settle_35 : decode cX11_settle 35 = .ok (.invokevirtual 131, 3) := by decide +kernel
theorem dX11_settle_38 : decode cX11_settle 38 = .ok (.ireturn, 1) := by decide +kernel
theorem dX11_may_0 : decode cX11_may 0 = .ok (.aload_n 0, 1) := by decide +kernel
theorem dX11_may_1 : decode cX11_may 1 = .ok (.iload_n 1, 1) := by decide +kernel
theorem dX11_may_2 : decode cX11_may 2 = .ok (.iload_n 2, 1) := by decide +kernel
theorem dX11_may_3 : decode cX11_may 3 = .ok (.invokevirtual 336, 3) := by decide +kernel
theorem dX11_may_6 : decode cX11_may 6 = .ok (.istore_n 3, 1) := by decide +kernel
theorem dX11_may_7 : decode cX11_may 7 = .ok (.iload_n 3, 1) := by decide +kernel
theorem dX11_may_8 : decode cX11_may 8 = .ok (.iconst 1, 1) := by decide +kernel
theorem dX11_may_9 : decode cX11_may 9 = .ok (.if_icmp .ne 11, 3) := by decide +kernel
theorem dX11_may_12 : decode cX11_may 12 = .ok (.aload_n 0, 1) := by decide +kernel
theorem dX11_may_13 : decode cX11_may 13 = .ok (.iconst 1, 1) := by decide +kernel
theorem dX11_may_14 : decode cX11_may 14 = .ok (.invokevirtual 131, 3) := by decide +kernel
theorem dX11_may_17 : decode cX11_may 17 = .ok (.goto 8, 3) := by decide +kernel
theorem dX11_may_20 : decode cX11_may 20 = .ok (.aload_n 0, 1) := by decide +kernel
theorem dX11_may_21 : decode cX11_may 21 = .ok (.iload_n 3, 1) := by decide +kernel
theorem dX11_may_22 : decode cX11_may 22 = .ok (.invokevirtual 120, 3) := by decide +kernel
theorem dX11_may_25 : decode cX11_may 25 = .ok (.ireturn, 1) := by decide +kernel
theorem dX11_does_0 : decode cX11_does 0 = .ok (.aload_n 0, 1) := by decide +kernel
theorem dX11_does_1 : decode cX11_does 1 = .ok (.iload_n 1, 1) := by decide +kernel
theorem dX11_does_2 : decode cX11_does 2 = .ok (.aload_n 0, 1) := by decide +kernel
theorem dX11_does_3 : decode cX11_does 3 = .ok (.iload_n 1, 1) := by decide +kernel
theorem dX11_does_4 : decode cX11_does 4 = .ok (.iload_n 2, 1) := by decide +kernel
theorem dX11_does_5 : decode cX11_does 5 = .ok (.invokevirtual 336, 3) := by decide +kernel
theorem dX11_does_8 : decode cX11_does 8 = .ok (.invokevirtual 339, 3) := by decide +kernel
theorem dX11_does_11 : decode cX11_does 11 = .ok (.ireturn, 1) := by decide +kernel
theorem dX11_undoes_0 : decode cX11_undoes 0 = .ok (.aload_n 0, 1) := by decide +kernel
theorem dX11_undoes_1 : decode cX11_undoes 1 = .ok (.iload_n 1, 1) := by decide +kernel
theorem dX11_undoes_2 : decode cX11_undoes 2 = .ok (.aload_n 0, 1) := by decide +kernel
theorem dX11_undoes_3 : decode cX11_undoes 3 = .ok (.iload_n 1, 1) := by decide +kernel
theorem dX11_undoes_4 : decode cX11_undoes 4 = .ok (.iload_n 2, 1) := by decide +kernel
theorem dX11_undoes_5 : decode cX11_undoes 5 = .ok (.invokevirtual 342, 3) := by decide +kernel
theorem dX11_undoes_8 : decode cX11_undoes 8 = .ok (.invokevirtual 339, 3) := by decide +kernel
theorem dX11_undoes_11 : decode cX11_undoes 11 = .ok (.ireturn, 1) := by decide +kernel
theorem dX11_trace_0 : decode cX11_trace 0 = .ok (.aload_n 0, 1) := by decide +kernel
theorem dX11_trace_1 : decode cX11_trace 1 = .ok (.getfield 30, 3) := by decide +kernel
theorem dX11_trace_4 : decode cX11_trace 4 = .ok (.iload_n 1, 1) := by decide +kernel
theorem dX11_trace_5 : decode cX11_trace 5 = .ok (.invokevirtual 298, 3) := by decide +kernel
theorem dX11_trace_8 : decode cX11_trace 8 = .ok (.ifCond .eq 15, 3) := by decide +kernel
theorem dX11_trace_11 : decode cX11_trace 11 = .ok (.aload_n 0, 1) := by decide +kernel
theorem dX11_trace_12 : decode cX11_trace 12 = .ok (.getfield 30, 3) := by decide +kernel
theorem dX11_trace_15 : decode cX11_trace 15 = .ok (.getfield 301, 3) := by decide +kernel
theorem dX11_trace_18 : decode cX11_trace 18 = .ok (.iload_n 1, 1) := by decide +kernel
theorem dX11_trace_19 : decode cX11_trace 19 = .ok (.iaload, 1) := by decide +kernel
theorem dX11_trace_20 : decode cX11_trace 20 = .ok (.goto 4, 3) := by decide +kernel
theorem dX11_trace_23 : decode cX11_trace 23 = .ok (.iconst (-1), 1) := by decide +kernel
theorem dX11_trace_24 : decode cX11_trace 24 = .ok (.ireturn, 1) := by decide +kernel
theorem dX11_like_0 : decode cX11_like 0 = .ok (.aload_n 0, 1) := by decide +kernel
theorem dX11_like_1 : decode cX11_like 1 = .ok (.iload_n 1, 1) := by decide +kernel
theorem dX11_like_2 : decode cX11_like 2 = .ok (.invokevirtual 134, 3) := by decide +kernel
theorem dX11_like_5 : decode cX11_like 5 = .ok (.ifCond .eq 11, 3) := by decide +kernel
theorem dX11_like_8 : decode cX11_like 8 = .ok (.aload_n 0, 1) := by decide +kernel
theorem dX11_like_9 : decode cX11_like 9 = .ok (.iload_n 2, 1) := by decide +kernel
theorem dX11_like_10 : decode cX11_like 10 = .ok (.invokevirtual 134, 3) := by decide +kernel
theorem dX11_like_13 : decode cX11_like 13 = .ok (.ifCond .ne 10, 3) := by decide +kernel
theorem dX11_like_16 : decode cX11_like 16 = .ok (.aload_n 0, 1) := by decide +kernel
theorem dX11_like_17 : decode cX11_like 17 = .ok (.bipush (-2), 2) := by decide +kernel
theorem dX11_like_19 : decode cX11_like 19 = .ok (.invokevirtual 120, 3) := by decide +kernel
theorem dX11_like_22 : decode cX11_like 22 = .ok (.ireturn, 1) := by decide +kernel
theorem dX11_like_23 : decode cX11_like 23 = .ok (.aload_n 0, 1) := by decide +kernel
theorem dX11_like_24 : decode cX11_like 24 = .ok (.iload_n 1, 1) := by decide +kernel
theorem dX11_like_25 : decode cX11_like 25 = .ok (.aload_n 0, 1) := by decide +kernel
theorem dX11_like_26 : decode cX11_like 26 = .ok (.getfield 36, 3) := by decide +kernel
theorem dX11_like_29 : decode cX11_like 29 = .ok (.invokevirtual 184, 3) := by decide +kernel
theorem dX11_like_32 : decode cX11_like 32 = .ok (.ifCond .eq 15, 3) := by decide +kernel
theorem dX11_like_35 : decode cX11_like 35 = .ok (.aload_n 0, 1) := by decide +kernel
theorem dX11_like_36 : decode cX11_like 36 = .ok (.iload_n 2, 1) := by decide +kernel
theorem dX11_like_37 : decode cX11_like 37 = .ok (.aload_n 0, 1) := by decide +kernel
theorem dX11_like_38 : decode cX11_like 38 = .ok (.getfield 40, 3) := by decide +kernel
theorem dX11_like_41 : decode cX11_like 41 = .ok (.invokevirtual 184, 3) := by decide +kernel
theorem dX11_like_44 : decode cX11_like 44 = .ok (.ifCond .ne 10, 3) := by decide +kernel
theorem dX11_like_47 : decode cX11_like 47 = .ok (.aload_n 0, 1) := by decide +kernel
theorem dX11_like_48 : decode cX11_like 48 = .ok (.bipush (-13), 2) := by decide +kernel
theorem dX11_like_50 : decode cX11_like 50 = .ok (.invokevirtual 120, 3) := by decide +kernel
theorem dX11_like_53 : decode cX11_like 53 = .ok (.ireturn, 1) := by decide +kernel
theorem dX11_like_54 : decode cX11_like 54 = .ok (.aload_n 0, 1) := by decide +kernel
theorem dX11_like_55 : decode cX11_like 55 = .ok (.getfield 36, 3) := by decide +kernel
theorem dX11_like_58 : decode cX11_like 58 = .ok (.getfield 213, 3) := by decide +kernel
theorem dX11_like_61 : decode cX11_like 61 = .ok (.aload_n 0, 1) := by decide +kernel
theorem dX11_like_62 : decode cX11_like 62 = .ok (.getfield 40, 3) := by decide +kernel
theorem dX11_like_65 : decode cX11_like 65 = .ok (.getfield 213, 3) := by decide +kernel
theorem dX11_like_68 : decode cX11_like 68 = .ok (.if_icmp .ne 20, 3) := by decide +kernel
theorem dX11_like_71 : decode cX11_like 71 = .ok (.aload_n 0, 1) := by decide +kernel
theorem dX11_like_72 : decode cX11_like 72 = .ok (.getfield 36, 3) := by decide +kernel
theorem dX11_like_75 : decode cX11_like 75 = .ok (.getfield 214, 3) := by decide +kernel
theorem dX11_like_78 : decode cX11_like 78 = .ok (.aload_n 0, 1) := by decide +kernel
theorem dX11_like_79 : decode cX11_like 79 = .ok (.getfield 40, 3) := by decide +kernel
theorem dX11_like_82 : decode cX11_like 82 = .ok (.getfield 214, 3) := by decide +kernel
theorem dX11_like_85 : decode cX11_like 85 = .ok (.if_icmp .eq 9, 3) := by decide +kernel
theorem dX11_like_88 : decode cX11_like 88 = .ok (.aload_n 0, 1) := by decide +kernel
theorem dX11_like_89 : decode cX11_like 89 = .ok (.iconst 0, 1) := by decide +kernel
theorem dX11_like_90 : decode cX11_like 90 = .ok (.invokevirtual 131, 3) := by decide +kernel
theorem dX11_like_93 : decode cX11_like 93 = .ok (.ireturn, 1) := by decide +kernel
theorem dX11_like_94 : decode cX11_like 94 = .ok (.aload_n 0, 1) := by decide +kernel
theorem dX11_like_95 : decode cX11_like 95 = .ok (.aload_n 0, 1) := by decide +kernel
theorem dX11_like_96 : decode cX11_like 96 = .ok (.getfield 78, 3) := by decide +kernel
theorem dX11_like_99 : decode cX11_like 99 = .ok (.getfield 345, 3) := by decide +kernel
theorem dX11_like_102 : decode cX11_like 102 = .ok (.aload_n 0, 1) := by decide +kernel
theorem dX11_like_103 : decode cX11_like 103 = .ok (.getfield 36, 3) := by decide +kernel
theorem dX11_like_106 : decode cX11_like 106 = .ok (.getfield 222, 3) := by decide +kernel
theorem dX11_like_109 : decode cX11_like 109 = .ok (.aload_n 0, 1) := by decide +kernel
theorem dX11_like_110 : decode cX11_like 110 = .ok (.getfield 40, 3) := by decide +kernel
theorem dX11_like_113 : decode cX11_like 113 = .ok (.getfield 222, 3) := by decide +kernel
theorem dX11_like_116 : decode cX11_like 116 = .ok (.aload_n 0, 1) := by decide +kernel
theorem dX11_like_117 : decode cX11_like 117 = .ok (.getfield 36, 3) := by decide +kernel
theorem dX11_like_120 : decode cX11_like 120 = .ok (.getfield 213, 3) := by decide +kernel
theorem dX11_like_123 : decode cX11_like 123 = .ok (.invokevirtual 349, 3) := by decide +kernel
theorem dX11_like_126 : decode cX11_like 126 = .ok (.ifCond .eq 7, 3) := by decide +kernel
theorem dX11_like_129 : decode cX11_like 129 = .ok (.iconst 1, 1) := by decide +kernel
theorem dX11_like_130 : decode cX11_like 130 = .ok (.goto 4, 3) := by decide +kernel
theorem dX11_like_133 : decode cX11_like 133 = .ok (.iconst 0, 1) := by decide +kernel
theorem dX11_like_134 : decode cX11_like 134 = .ok (.invokevirtual 131, 3) := by decide +kernel
theorem dX11_like_137 : decode cX11_like 137 = .ok (.ireturn, 1) := by decide +kernel
theorem dX11_isStepCount_0 : decode cX11_isStepCount 0 = .ok (.iload_n 0, 1) := by decide +kernel
theorem dX11_isStepCount_1 : decode cX11_isStepCount 1 = .ok (.ifCond .lt 14, 3) := by decide +kernel
theorem dX11_isStepCount_4 : decode cX11_isStepCount 4 = .ok (.iload_n 0, 1) := by decide +kernel
theorem dX11_isStepCount_5 : decode cX11_isStepCount 5 = .ok (.sipush 5000, 3) := by decide +kernel
theorem dX11_isStepCount_8 : decode cX11_isStepCount 8 = .ok (.if_icmp .gt 7, 3) := by decide +kernel
theorem dX11_isStepCount_11 : decode cX11_isStepCount 11 = .ok (.iconst 1, 1) := by decide +kernel
theorem dX11_isStepCount_12 : decode cX11_isStepCount 12 = .ok (.goto 4, 3) := by decide +kernel
theorem dX11_isStepCount_15 : decode cX11_isStepCount 15 = .ok (.iconst 0, 1) := by decide +kernel
theorem dX11_isStepCount_16 : decode cX11_isStepCount 16 = .ok (.ireturn, 1) := by decide +kernel
theorem dX11_search_0 : decode cX11_search 0 = .ok (.aload_n 0, 1) := by decide +kernel
theorem dX11_search_1 : decode cX11_search 1 = .ok (.iload_n 1, 1) := by decide +kernel
theorem dX11_search_2 : decode cX11_search 2 = .ok (.invokevirtual 134, 3) := by decide +kernel
theorem dX11_search_5 : decode cX11_search 5 = .ok (.ifCond .eq 10, 3) := by decide +kernel
theorem dX11_search_8 : decode cX11_search 8 = .ok (.iload_n 2, 1) := by decide +kernel
theorem dX11_search_9 : decode cX11_search 9 = .ok (.invokestatic 355, 3) := by decide +kernel
theorem dX11_search_12 : decode cX11_search 12 = .ok (.ifCond .ne 10, 3) := by decide +kernel
theorem dX11_search_15 : decode cX11_search 15 = .ok (.aload_n 0, 1) := by decide +kernel
theorem dX11_search_16 : decode cX11_search 16 = .ok (.bipush (-2), 2) := by decide +kernel
theorem dX11_search_18 : decode cX11_search 18 = .ok (.invokevirtual 120, 3) := by decide +kernel
theorem dX11_search_21 : decode cX11_search 21 = .ok (.ireturn, 1) := by decide +kernel
theorem dX11_search_22 : decode cX11_search 22 = .ok (.aload_n 0, 1) := by decide +kernel
theorem dX11_search_23 : decode cX11_search 23 = .ok (.iload_n 1, 1) := by decide +kernel
theorem dX11_search_24 : decode cX11_search 24 = .ok (.aload_n 0, 1) := by decide +kernel
theorem dX11_search_25 : decode cX11_search 25 = .ok (.getfield 36, 3) := by decide +kernel
theorem dX11_search_28 : decode cX11_search 28 = .ok (.invokevirtual 184, 3) := by decide +kernel
theorem dX11_search_31 : decode cX11_search 31 = .ok (.ifCond .ne 10, 3) := by decide +kernel
theorem dX11_search_34 : decode cX11_search 34 = .ok (.aload_n 0, 1) := by decide +kernel
theorem dX11_search_35 : decode cX11_search 35 = .ok (.bipush (-13), 2) := by decide +kernel
theorem dX11_search_37 : decode cX11_search 37 = .ok (.invokevirtual 120, 3) := by decide +kernel
theorem dX11_search_40 : decode cX11_search 40 = .ok (.ireturn, 1) := by decide +kernel
theorem dX11_search_41 : decode cX11_search 41 = .ok (.aload_n 0, 1) := by decide +kernel
theorem dX11_search_42 : decode cX11_search 42 = .ok (.getfield 36, 3) := by decide +kernel
theorem dX11_search_45 : decode cX11_search 45 = .ok (.getfield 213, 3) := by decide +kernel
theorem dX11_search_48 : decode cX11_search 48 = .ok (.bipush 12, 2) := by decide +kernel
theorem dX11_search_50 : decode cX11_search 50 = .ok (.if_icmp .le 10, 3) := by decide +kernel
theorem dX11_search_53 : decode cX11_search 53 = .ok (.aload_n 0, 1) := by decide +kernel
theorem dX11_search_54 : decode cX11_search 54 = .ok (.bipush (-17), 2) := by decide +kernel
theorem dX11_search_56 : decode cX11_search 56 = .ok (.invokevirtual 120, 3) := by decide +kernel
theorem dX11_search_59 : decode cX11_search 59 = .ok (.ireturn, 1) := by decide +kernel
theorem dX11_search_60 : decode cX11_search 60 = .ok (.aload_n 0, 1) := by decide +kernel
theorem dX11_search_61 : decode cX11_search 61 = .ok (.getfield 78, 3) := by decide +kernel
theorem dX11_search_64 : decode cX11_search 64 = .ok (.aload_n 0, 1) := by decide +kernel
theorem dX11_search_65 : decode cX11_search 65 = .ok (.getfield 11, 3) := by decide +kernel
theorem dX11_search_68 : decode cX11_search 68 = .ok (.iload_n 1, 1) := by decide +kernel
theorem dX11_search_69 : decode cX11_search 69 = .ok (.aaload, 1) := by decide +kernel
theorem dX11_search_70 : decode cX11_search 70 = .ok (.invokevirtual 358, 3) := by decide +kernel
theorem dX11_search_73 : decode cX11_search 73 = .ok (.aload_n 0, 1) := by decide +kernel
theorem dX11_search_74 : decode cX11_search 74 = .ok (.aload_n 0, 1) := by decide +kernel
theorem dX11_search_75 : decode cX11_search 75 = .ok (.getfield 78, 3) := by decide +kernel
theorem dX11_search_78 : decode cX11_search 78 = .ok (.iload_n 2, 1) := by decide +kernel
theorem dX11_search_79 : decode cX11_search 79 = .ok (.invokevirtual 361, 3) := by decide +kernel
theorem dX11_search_82 : decode cX11_search 82 = .ok (.invokevirtual 131, 3) := by decide +kernel
theorem dX11_search_85 : decode cX11_search 85 = .ok (.ireturn, 1) := by decide +kernel
theorem dX11_goOn_0 : decode cX11_goOn 0 = .ok (.iload_n 1, 1) := by decide +kernel
theorem dX11_goOn_1 : decode cX11_goOn 1 = .ok (.invokestatic 355, 3) := by decide +kernel
theorem dX11_goOn_4 : decode cX11_goOn 4 = .ok (.ifCond .ne 10, 3) := by decide +kernel
theorem dX11_goOn_7 : decode cX11_goOn 7 = .ok (.aload_n 0, 1) := by decide +kernel
theorem dX11_goOn_8 : decode cX11_goOn 8 = .ok (.bipush (-2), 2) := by decide +kernel
theorem dX11_goOn_10 : decode cX11_goOn 10 = .ok (.invokevirtual 120, 3) := by decide +kernel
theorem dX11_goOn_13 : decode cX11_goOn 13 = .ok (.ireturn, 1) := by decide +kernel
theorem dX11_goOn_14 : decode cX11_goOn 14 = .ok (.aload_n 0, 1) := by decide +kernel
theorem dX11_goOn_15 : decode cX11_goOn 15 = .ok (.getfield 78, 3) := by decide +kernel
theorem dX11_goOn_18 : decode cX11_goOn 18 = .ok (.getfield 364, 3) := by decide +kernel
theorem dX11_goOn_21 : decode cX11_goOn 21 = .ok (.ifCond .eq 18, 3) := by decide +kernel
theorem dX11_goOn_24 : decode cX11_goOn 24 = .ok (.aload_n 0, 1) := by decide +kernel
theorem dX11_goOn_25 : decode cX11_goOn 25 = .ok (.aload_n 0, 1) := by decide +kernel
theorem dX11_goOn_26 : decode cX11_goOn 26 = .ok (.getfield 78, 3) := by decide +kernel
theorem dX11_goOn_29 : decode cX11_goOn 29 = .ok (.iload_n 1, 1) := by decide +kernel
theorem dX11_goOn_30 : decode cX11_goOn 30 = .ok (.invokevirtual 361, 3) := by decide +kernel
theorem dX11_goOn_33 : decode cX11_goOn 33 = .ok (.invokevirtual 131, 3) := by decide +kernel
theorem dX11_goOn_36 : decode cX11_goOn 36 = .ok (.goto 9, 3) := by decide +kernel
theorem dX11_goOn_39 : decode cX11_goOn 39 = .ok (.aload_n 0, 1) := by decide +kernel
theorem dX11_goOn_40 : decode cX11_goOn 40 = .ok (.bipush (-15), 2) := by decide +kernel
theorem dX11_goOn_42 : decode cX11_goOn 42 = .ok (.invokevirtual 120, 3) := by decide +kernel
theorem dX11_goOn_45 : decode cX11_goOn 45 = .ok (.ireturn, 1) := by decide +kernel
theorem dX11_searched_0 : decode cX11_searched 0 = .ok (.iload_n 1, 1) := by decide +kernel
theorem dX11_searched_1 : decode cX11_searched 1 = .ok (.ifCond .lt 8, 3) := by decide +kernel
theorem dX11_searched_4 : decode cX11_searched 4 = .ok (.iload_n 1, 1) := by decide +kernel
theorem dX11_searched_5 : decode cX11_searched 5 = .ok (.iconst 3, 1) := by decide +kernel
theorem dX11_searched_6 : decode cX11_searched 6 = .ok (.if_icmp .le 10, 3) := by decide +kernel
theorem dX11_searched_9 : decode cX11_searched 9 = .ok (.aload_n 0, 1) := by decide +kernel
theorem dX11_searched_10 : decode cX11_searched 10 = .ok (.bipush (-2), 2) := by decide +kernel
theorem dX11_searched_12 : decode cX11_searched 12 = .ok (.invokevirtual 120, 3) := by decide +kernel
theorem dX11_searched_15 : decode cX11_searched 15 = .ok (.ireturn, 1) := by decide +kernel
theorem dX11_searched_16 : decode cX11_searched 16 = .ok (.aload_n 0, 1) := by decide +kernel
theorem dX11_searched_17 : decode cX11_searched 17 = .ok (.getfield 78, 3) := by decide +kernel
theorem dX11_searched_20 : decode cX11_searched 20 = .ok (.getfield 364, 3) := by decide +kernel
theorem dX11_searched_23 : decode cX11_searched 23 = .ok (.ifCond .ne 10, 3) := by decide +kernel
theorem dX11_searched_26 : decode cX11_searched 26 = .ok (.aload_n 0, 1) := by decide +kernel
theorem dX11_searched_27 : decode cX11_searched 27 = .ok (.bipush (-15), 2) := by decide +kernel
theorem dX11_searched_29 : decode cX11_searched 29 = .ok (.invokevirtual 120, 3) := by decide +kernel
theorem dX11_searched_32 : decode cX11_searched 32 = .ok (.ireturn, 1) := by decide +kernel
theorem dX11_searched_33 : decode cX11_searched 33 = .ok (.iload_n 1, 1) := by decide +kernel
theorem dX11_searched_34 : decode cX11_searched 34 = .ok (.tableswitch 81 0 2 #[26, 46, 58], 26) := by decide +kernel
theorem dX11_searched_60 : decode cX11_searched 60 = .ok (.aload_n 0, 1) := by decide +kernel
theorem dX11_searched_61 : decode cX11_searched 61 = .ok (.aload_n 0, 1) := by decide +kernel
theorem dX11_searched_62 : decode cX11_searched 62 = .ok (.getfield 78, 3) := by decide +kernel
theorem dX11_searched_65 : decode cX11_searched 65 = .ok (.getfield 367, 3) := by decide +kernel
theorem dX11_searched_68 : decode cX11_searched 68 = .ok (.ifCond .eq 7, 3) := by decide +kernel
theorem dX11_searched_71 : decode cX11_searched 71 = .ok (.iconst 1, 1) := by decide +kernel
theorem dX11_searched_72 : decode cX11_searched 72 = .ok (.goto 4, 3) := by decide +kernel
theorem dX11_searched_75 : decode cX11_searched 75 = .ok (.iconst 0, 1) := by decide +kernel
theorem dX11_searched_76 : decode cX11_searched 76 = .ok (.invokevirtual 131, 3) := by decide +kernel
theorem dX11_searched_79 : decode cX11_searched 79 = .ok (.ireturn, 1) := by decide +kernel
theorem dX11_searched_80 : decode cX11_searched 80 = .ok (.aload_n 0, 1) := by decide +kernel
theorem dX11_searched_81 : decode cX11_searched 81 = .ok (.aload_n 0, 1) := by decide +kernel
theorem dX11_searched_82 : decode cX11_searched 82 = .ok (.getfield 78, 3) := by decide +kernel
theorem dX11_searched_85 : decode cX11_searched 85 = .ok (.getfield 370, 3) := by decide +kernel
theorem dX11_searched_88 : decode cX11_searched 88 = .ok (.invokevirtual 131, 3) := by decide +kernel
theorem dX11_searched_91 : decode cX11_searched 91 = .ok (.ireturn, 1) := by decide +kernel
theorem dX11_searched_92 : decode cX11_searched 92 = .ok (.aload_n 0, 1) := by decide +kernel
theorem dX11_searched_93 : decode cX11_searched 93 = .ok (.aload_n 0, 1) := by decide +kernel
theorem dX11_searched_94 : decode cX11_searched 94 = .ok (.getfield 78, 3) := by decide +kernel
theorem dX11_searched_97 : decode cX11_searched 97 = .ok (.getfield 373, 3) := by decide +kernel
theorem dX11_searched_100 : decode cX11_searched 100 = .ok (.aload_n 0, 1) := by decide +kernel
theorem dX11_searched_101 : decode cX11_searched 101 = .ok (.getfield 78, 3) := by decide +kernel
theorem dX11_searched_104 : decode cX11_searched 104 = .ok (.invokevirtual 377, 3) := by decide +kernel
theorem dX11_searched_107 : decode cX11_searched 107 = .ok (.aaload, 1) := by decide +kernel
theorem dX11_searched_108 : decode cX11_searched 108 = .ok (.getfield 380, 3) := by decide +kernel
theorem dX11_searched_111 : decode cX11_searched 111 = .ok (.invokevirtual 131, 3) := by decide +kernel
theorem dX11_searched_114 : decode cX11_searched 114 = .ok (.ireturn, 1) := by decide +kernel
theorem dX11_searched_115 : decode cX11_searched 115 = .ok (.aload_n 0, 1) := by decide +kernel
theorem dX11_searched_116 : decode cX11_searched 116 = .ok (.aload_n 0, 1) := by decide +kernel
theorem dX11_searched_117 : decode cX11_searched 117 = .ok (.getfield 78, 3) := by decide +kernel
theorem dX11_searched_120 : decode cX11_searched 120 = .ok (.getfield 383, 3) := by decide +kernel
theorem dX11_searched_123 : decode cX11_searched 123 = .ok (.invokevirtual 131, 3) := by decide +kernel
theorem dX11_searched_126 : decode cX11_searched 126 = .ok (.ireturn, 1) := by decide +kernel
theorem dX11_fewer_0 : decode cX11_fewer 0 = .ok (.aload_n 0, 1) := by decide +kernel
theorem dX11_fewer_1 : decode cX11_fewer 1 = .ok (.invokevirtual 116, 3) := by decide +kernel
theorem dX11_fewer_4 : decode cX11_fewer 4 = .ok (.ifCond .eq 10, 3) := by decide +kernel
theorem dX11_fewer_7 : decode cX11_fewer 7 = .ok (.aload_n 0, 1) := by decide +kernel
theorem dX11_fewer_8 : decode cX11_fewer 8 = .ok (.bipush (-3), 2) := by decide +kernel
theorem dX11_fewer_10 : decode cX11_fewer 10 = .ok (.invokevirtual 120, 3) := by decide +kernel
theorem dX11_fewer_13 : decode cX11_fewer 13 = .ok (.ireturn, 1) := by decide +kernel
theorem dX11_fewer_14 : decode cX11_fewer 14 = .ok (.aload_n 0, 1) := by decide +kernel
theorem dX11_fewer_15 : decode cX11_fewer 15 = .ok (.getfield 78, 3) := by decide +kernel
theorem dX11_fewer_18 : decode cX11_fewer 18 = .ok (.getfield 364, 3) := by decide +kernel
theorem dX11_fewer_21 : decode cX11_fewer 21 = .ok (.ifCond .ne 10, 3) := by decide +kernel
theorem dX11_fewer_24 : decode cX11_fewer 24 = .ok (.aload_n 0, 1) := by decide +kernel
theorem dX11_fewer_25 : decode cX11_fewer 25 = .ok (.bipush (-15), 2) := by decide +kernel
theorem dX11_fewer_27 : decode cX11_fewer 27 = .ok (.invokevirtual 120, 3) := by decide +kernel
theorem dX11_fewer_30 : decode cX11_fewer 30 = .ok (.ireturn, 1) := by decide +kernel
theorem dX11_fewer_31 : decode cX11_fewer 31 = .ok (.aload_n 0, 1) := by decide +kernel
theorem dX11_fewer_32 : decode cX11_fewer 32 = .ok (.getfield 78, 3) := by decide +kernel
theorem dX11_fewer_35 : decode cX11_fewer 35 = .ok (.invokevirtual 377, 3) := by decide +kernel
theorem dX11_fewer_38 : decode cX11_fewer 38 = .ok (.istore_n 1, 1) := by decide +kernel
theorem dX11_fewer_39 : decode cX11_fewer 39 = .ok (.aload_n 0, 1) := by decide +kernel
theorem dX11_fewer_40 : decode cX11_fewer 40 = .ok (.getfield 78, 3) := by decide +kernel
theorem dX11_fewer_43 : decode cX11_fewer 43 = .ok (.iload_n 1, 1) := by decide +kernel
theorem dX11_fewer_44 : decode cX11_fewer 44 = .ok (.invokevirtual 386, 3) := by decide +kernel
theorem dX11_fewer_47 : decode cX11_fewer 47 = .ok (.aload_n 0, 1) := by decide +kernel
theorem dX11_fewer_48 : decode cX11_fewer 48 = .ok (.getfield 78, 3) := by decide +kernel
theorem dX11_fewer_51 : decode cX11_fewer 51 = .ok (.getfield 373, 3) := by decide +kernel
theorem dX11_fewer_54 : decode cX11_fewer 54 = .ok (.iload_n 1, 1) := by decide +kernel
theorem dX11_fewer_55 : decode cX11_fewer 55 = .ok (.aaload, 1) := by decide +kernel
theorem dX11_fewer_56 : decode cX11_fewer 56 = .ok (.aload_n 0, 1) := by decide +kernel
theorem dX11_fewer_57 : decode cX11_fewer 57 = .ok (.getfield 44, 3) := by decide +kernel
theorem dX11_fewer_60 : decode cX11_fewer 60 = .ok (.invokevirtual 389, 3) := by decide +kernel
theorem dX11_fewer_63 : decode cX11_fewer 63 = .ok (.aload_n 0, 1) := by decide +kernel
theorem dX11_fewer_64 : decode cX11_fewer 64 = .ok (.aload_n 0, 1) := by decide +kernel
theorem dX11_fewer_65 : decode cX11_fewer 65 = .ok (.aload_n 0, 1) := by decide +kernel
theorem dX11_fewer_66 : decode cX11_fewer 66 = .ok (.getfield 44, 3) := by decide +kernel
theorem dX11_fewer_69 : decode cX11_fewer 69 = .ok (.invokevirtual 127, 3) := by decide +kernel
theorem dX11_fewer_72 : decode cX11_fewer 72 = .ok (.invokevirtual 131, 3) := by decide +kernel
theorem dX11_fewer_75 : decode cX11_fewer 75 = .ok (.ireturn, 1) := by decide +kernel
theorem dX11_partingNumber_0 : decode cX11_partingNumber 0 = .ok (.aload_n 0, 1) := by decide +kernel
theorem dX11_partingNumber_1 : decode cX11_partingNumber 1 = .ok (.getfield 36, 3) := by decide +kernel
theorem dX11_partingNumber_4 : decode cX11_partingNumber 4 = .ok (.invokevirtual 188, 3) := by decide +kernel
theorem dX11_partingNumber_7 : decode cX11_partingNumber 7 = .ok (.aload_n 0, 1) := by decide +kernel
theorem dX11_partingNumber_8 : decode cX11_partingNumber 8 = .ok (.getfield 40, 3) := by decide +kernel
theorem dX11_partingNumber_11 : decode cX11_partingNumber 11 = .ok (.invokevirtual 188, 3) := by decide +kernel
theorem dX11_partingNumber_14 : decode cX11_partingNumber 14 = .ok (.if_icmp .eq 5, 3) := by decide +kernel
theorem dX11_partingNumber_17 : decode cX11_partingNumber 17 = .ok (.iconst 1, 1) := by decide +kernel
theorem dX11_partingNumber_18 : decode cX11_partingNumber 18 = .ok (.ireturn, 1) := by decide +kernel
theorem dX11_partingNumber_19 : decode cX11_partingNumber 19 = .ok (.iconst 0, 1) := by decide +kernel
theorem dX11_partingNumber_20 : decode cX11_partingNumber 20 = .ok (.istore_n 1, 1) := by decide +kernel
theorem dX11_partingNumber_21 : decode cX11_partingNumber 21 = .ok (.iload_n 1, 1) := by decide +kernel
theorem dX11_partingNumber_22 : decode cX11_partingNumber 22 = .ok (.getstatic 241, 3) := by decide +kernel
theorem dX11_partingNumber_25 : decode cX11_partingNumber 25 = .ok (.arraylength, 1) := by decide +kernel
theorem dX11_partingNumber_26 : decode cX11_partingNumber 26 = .ok (.if_icmp .ge 46, 3) := by decide +kernel
theorem dX11_partingNumber_29 : decode cX11_partingNumber 29 = .ok (.getstatic 241, 3) := by decide +kernel
theorem dX11_partingNumber_32 : decode cX11_partingNumber 32 = .ok (.iload_n 1, 1) := by decide +kernel
theorem dX11_partingNumber_33 : decode cX11_partingNumber 33 = .ok (.iaload, 1) := by decide +kernel
theorem dX11_partingNumber_34 : decode cX11_partingNumber 34 = .ok (.istore_n 2, 1) := by decide +kernel
theorem dX11_partingNumber_35 : decode cX11_partingNumber 35 = .ok (.aload_n 0, 1) := by decide +kernel
theorem dX11_partingNumber_36 : decode cX11_partingNumber 36 = .ok (.getfield 71, 3) := by decide +kernel
theorem dX11_partingNumber_39 : decode cX11_partingNumber 39 = .ok (.aload_n 0, 1) := by decide +kernel
theorem dX11_partingNumber_40 : decode cX11_partingNumber 40 = .ok (.getfield 36, 3) := by decide +kernel
theorem dX11_partingNumber_43 : decode cX11_partingNumber 43 = .ok (.iload_n 2, 1) := by decide +kernel
theorem dX11_partingNumber_44 : decode cX11_partingNumber 44 = .ok (.invokevirtual 247, 3) := by decide +kernel
theorem dX11_partingNumber_47 : decode cX11_partingNumber 47 = .ok (.aload_n 0, 1) := by decide +kernel
theorem dX11_partingNumber_48 : decode cX11_partingNumber 48 = .ok (.getfield 71, 3) := by decide +kernel
theorem dX11_partingNumber_51 : decode cX11_partingNumber 51 = .ok (.aload_n 0, 1) := by decide +kernel
theorem dX11_partingNumber_52 : decode cX11_partingNumber 52 = .ok (.getfield 40, 3) := by decide +kernel
theorem dX11_partingNumber_55 : decode cX11_partingNumber 55 = .ok (.iload_n 2, 1) := by decide +kernel
theorem dX11_partingNumber_56 : decode cX11_partingNumber 56 = .ok (.invokevirtual 247, 3) := by decide +kernel
theorem dX11_partingNumber_59 : decode cX11_partingNumber 59 = .ok (.if_icmp .eq 7, 3) := by decide +kernel
theorem dX11_partingNumber_62 : decode cX11_partingNumber 62 = .ok (.iconst 2, 1) := by decide +kernel
theorem dX11_partingNumber_63 : decode cX11_partingNumber 63 = .ok (.iload_n 1, 1) := by decide +kernel
theorem dX11_partingNumber_64 : decode cX11_partingNumber 64 = .ok (.iadd, 1) := by decide +kernel
theorem dX11_partingNumber_65 : decode cX11_partingNumber 65 = .ok (.ireturn, 1) := by decide +kernel
theorem dX11_partingNumber_66 : decode cX11_partingNumber 66 = .ok (.iinc 1 1, 3) := by decide +kernel
theorem dX11_partingNumber_69 : decode cX11_partingNumber 69 = .ok (.goto (-48), 3) := by decide +kernel
theorem dX11_partingNumber_72 : decode cX11_partingNumber 72 = .ok (.aload_n 0, 1) := by decide +kernel
theorem dX11_partingNumber_73 : decode cX11_partingNumber 73 = .ok (.getfield 36, 3) := by decide +kernel
theorem dX11_partingNumber_76 : decode cX11_partingNumber 76 = .ok (.invokevirtual 188, 3) := by decide +kernel
theorem dX11_partingNumber_79 : decode cX11_partingNumber 79 = .ok (.iconst 1, 1) := by decide +kernel
theorem dX11_partingNumber_80 : decode cX11_partingNumber 80 = .ok (.if_icmp .ne 27, 3) := by decide +kernel
theorem dX11_partingNumber_83 : decode cX11_partingNumber 83 = .ok (.aload_n 0, 1) := by decide +kernel
theorem dX11_partingNumber_84 : decode cX11_partingNumber 84 = .ok (.getfield 36, 3) := by decide +kernel
theorem dX11_partingNumber_87 : decode cX11_partingNumber 87 = .ok (.getfield 213, 3) := by decide +kernel
theorem dX11_partingNumber_90 : decode cX11_partingNumber 90 = .ok (.bipush 14, 2) := by decide +kernel
theorem dX11_partingNumber_92 : decode cX11_partingNumber 92 = .ok (.if_icmp .gt 15, 3) := by decide +kernel
theorem dX11_partingNumber_95 : decode cX11_partingNumber 95 = .ok (.aload_n 0, 1) := by decide +kernel
theorem dX11_partingNumber_96 : decode cX11_partingNumber 96 = .ok (.getfield 40, 3) := by decide +kernel
theorem dX11_partingNumber_99 : decode cX11_partingNumber 99 = .ok (.getfield 213, 3) := by decide +kernel
theorem dX11_partingNumber_102 : decode cX11_partingNumber 102 = .ok (.bipush 14, 2) := by decide +kernel
theorem dX11_partingNumber_104 : decode cX11_partingNumber 104 = .ok (.if_icmp .le 5, 3) := by decide +kernel
theorem dX11_partingNumber_107 : decode cX11_partingNumber 107 = .ok (.iconst 0, 1) := by decide +kernel
theorem dX11_partingNumber_108 : decode cX11_partingNumber 108 = .ok (.ireturn, 1) := by decide +kernel
theorem dX11_partingNumber_109 : decode cX11_partingNumber 109 = .ok (.aload_n 0, 1) := by decide +kernel
theorem dX11_partingNumber_110 : decode cX11_partingNumber 110 = .ok (.getfield 51, 3) := by decide +kernel
theorem dX11_partingNumber_113 : decode cX11_partingNumber 113 = .ok (.aload_n 0, 1) := by decide +kernel
theorem dX11_partingNumber_114 : decode cX11_partingNumber 114 = .ok (.getfield 36, 3) := by decide +kernel
theorem dX11_partingNumber_117 : decode cX11_partingNumber 117 = .ok (.getfield 213, 3) := by decide +kernel
theorem dX11_partingNumber_120 : decode cX11_partingNumber 120 = .ok (.invokestatic 251, 3) := by decide +kernel
theorem dX11_partingNumber_123 : decode cX11_partingNumber 123 = .ok (.aload_n 0, 1) := by decide +kernel
theorem dX11_partingNumber_124 : decode cX11_partingNumber 124 = .ok (.getfield 40, 3) := by decide +kernel
theorem dX11_partingNumber_127 : decode cX11_partingNumber 127 = .ok (.getfield 213, 3) := by decide +kernel
theorem dX11_partingNumber_130 : decode cX11_partingNumber 130 = .ok (.invokestatic 251, 3) := by decide +kernel
theorem dX11_partingNumber_133 : decode cX11_partingNumber 133 = .ok (.iadd, 1) := by decide +kernel
theorem dX11_partingNumber_134 : decode cX11_partingNumber 134 = .ok (.invokevirtual 254, 3) := by decide +kernel
theorem dX11_partingNumber_137 : decode cX11_partingNumber 137 = .ok (.ifCond .ne 6, 3) := by decide +kernel
theorem dX11_partingNumber_140 : decode cX11_partingNumber 140 = .ok (.bipush (-19), 2) := by decide +kernel
theorem dX11_partingNumber_142 : decode cX11_partingNumber 142 = .ok (.ireturn, 1) := by decide +kernel
theorem dX11_partingNumber_143 : decode cX11_partingNumber 143 = .ok (.aload_n 0, 1) := by decide +kernel
theorem dX11_partingNumber_144 : decode cX11_partingNumber 144 = .ok (.getfield 51, 3) := by decide +kernel
theorem dX11_partingNumber_147 : decode cX11_partingNumber 147 = .ok (.aload_n 0, 1) := by decide +kernel
theorem dX11_partingNumber_148 : decode cX11_partingNumber 148 = .ok (.getfield 36, 3) := by decide +kernel
theorem dX11_partingNumber_151 : decode cX11_partingNumber 151 = .ok (.aload_n 0, 1) := by decide +kernel
theorem dX11_partingNumber_152 : decode cX11_partingNumber 152 = .ok (.getfield 62, 3) := by decide +kernel
theorem dX11_partingNumber_155 : decode cX11_partingNumber 155 = .ok (.invokevirtual 267, 3) := by decide +kernel
theorem dX11_partingNumber_158 : decode cX11_partingNumber 158 = .ok (.aload_n 0, 1) := by decide +kernel
theorem dX11_partingNumber_159 : decode cX11_partingNumber 159 = .ok (.getfield 51, 3) := by decide +kernel
theorem dX11_partingNumber_162 : decode cX11_partingNumber 162 = .ok (.aload_n 0, 1) := by decide +kernel
theorem dX11_partingNumber_163 : decode cX11_partingNumber 163 = .ok (.getfield 40, 3) := by decide +kernel
theorem dX11_partingNumber_166 : decode cX11_partingNumber 166 = .ok (.aload_n 0, 1) := by decide +kernel
theorem dX11_partingNumber_167 : decode cX11_partingNumber 167 = .ok (.getfield 65, 3) := by decide +kernel
theorem dX11_partingNumber_170 : decode cX11_partingNumber 170 = .ok (.invokevirtual 267, 3) := by decide +kernel
theorem dX11_partingNumber_173 : decode cX11_partingNumber 173 = .ok (.aload_n 0, 1) := by decide +kernel
theorem dX11_partingNumber_174 : decode cX11_partingNumber 174 = .ok (.getfield 62, 3) := by decide +kernel
theorem dX11_partingNumber_177 : decode cX11_partingNumber 177 = .ok (.aload_n 0, 1) := by decide +kernel
theorem dX11_partingNumber_178 : decode cX11_partingNumber 178 = .ok (.getfield 65, 3) := by decide +kernel
theorem dX11_partingNumber_181 : decode cX11_partingNumber 181 = .ok (.invokevirtual 392, 3) := by decide +kernel
theorem dX11_partingNumber_184 : decode cX11_partingNumber 184 = .ok (.ifCond .eq 7, 3) := by decide +kernel
theorem dX11_partingNumber_187 : decode cX11_partingNumber 187 = .ok (.iconst 0, 1) := by decide +kernel
theorem dX11_partingNumber_188 : decode cX11_partingNumber 188 = .ok (.goto 5, 3) := by decide +kernel
theorem dX11_partingNumber_191 : decode cX11_partingNumber 191 = .ok (.bipush 6, 2) := by decide +kernel
theorem dX11_partingNumber_193 : decode cX11_partingNumber 193 = .ok (.ireturn, 1) := by decide +kernel
theorem dX11_same_0 : decode cX11_same 0 = .ok (.aload_n 0, 1) := by decide +kernel
theorem dX11_same_1 : decode cX11_same 1 = .ok (.iload_n 1, 1) := by decide +kernel
theorem dX11_same_2 : decode cX11_same 2 = .ok (.invokevirtual 134, 3) := by decide +kernel
theorem dX11_same_5 : decode cX11_same 5 = .ok (.ifCond .eq 18, 3) := by decide +kernel
theorem dX11_same_8 : decode cX11_same 8 = .ok (.aload_n 0, 1) := by decide +kernel
theorem dX11_same_9 : decode cX11_same 9 = .ok (.iload_n 2, 1) := by decide +kernel
theorem dX11_same_10 : decode cX11_same 10 = .ok (.invokevirtual 134, 3) := by decide +kernel
theorem dX11_same_13 : decode cX11_same 13 = .ok (.ifCond .eq 10, 3) := by decide +kernel
theorem dX11_same_16 : decode cX11_same 16 = .ok (.iload_n 3, 1) := by decide +kernel
theorem dX11_same_17 : decode cX11_same 17 = .ok (.invokestatic 355, 3) := by decide +kernel
theorem dX11_same_20 : decode cX11_same 20 = .ok (.ifCond .ne 10, 3) := by decide +kernel
theorem dX11_same_23 : decode cX11_same 23 = .ok (.aload_n 0, 1) := by decide +kernel
theorem dX11_same_24 : decode cX11_same 24 = .ok (.bipush (-2), 2) := by decide +kernel
theorem dX11_same_26 : decode cX11_same 26 = .ok (.invokevirtual 120, 3) := by decide +kernel
theorem dX11_same_29 : decode cX11_same 29 = .ok (.ireturn, 1) := by decide +kernel
theorem dX11_same_30 : decode cX11_same 30 = .ok (.aload_n 0, 1) := by decide +kernel
theorem dX11_same_31 : decode cX11_same 31 = .ok (.iload_n 1, 1) := by decide +kernel
theorem dX11_same_32 : decode cX11_same 32 = .ok (.aload_n 0, 1) := by decide +kernel
theorem dX11_same_33 : decode cX11_same 33 = .ok (.getfield 36, 3) := by decide +kernel
theorem dX11_same_36 : decode cX11_same 36 = .ok (.invokevirtual 184, 3) := by decide +kernel
theorem dX11_same_39 : decode cX11_same 39 = .ok (.ifCond .eq 15, 3) := by decide +kernel
theorem dX11_same_42 : decode cX11_same 42 = .ok (.aload_n 0, 1) := by decide +kernel
theorem dX11_same_43 : decode cX11_same 43 = .ok (.iload_n 2, 1) := by decide +kernel
theorem dX11_same_44 : decode cX11_same 44 = .ok (.aload_n 0, 1) := by decide +kernel
theorem dX11_same_45 : decode cX11_same 45 = .ok (.getfield 40, 3) := by decide +kernel
theorem dX11_same_48 : decode cX11_same 48 = .ok (.invokevirtual 184, 3) := by decide +kernel
theorem dX11_same_51 : decode cX11_same 51 = .ok (.ifCond .ne 10, 3) := by decide +kernel
theorem dX11_same_54 : decode cX11_same 54 = .ok (.aload_n 0, 1) := by decide +kernel
theorem dX11_same_55 : decode cX11_same 55 = .ok (.bipush (-13), 2) := by decide +kernel
theorem dX11_same_57 : decode cX11_same 57 = .ok (.invokevirtual 120, 3) := by decide +kernel
theorem dX11_same_60 : decode cX11_same 60 = .ok (.ireturn, 1) := by decide +kernel
theorem dX11_same_61 : decode cX11_same 61 = .ok (.aload_n 0, 1) := by decide +kernel
theorem dX11_same_62 : decode cX11_same 62 = .ok (.getfield 36, 3) := by decide +kernel
theorem dX11_same_65 : decode cX11_same 65 = .ok (.getfield 213, 3) := by decide +kernel
theorem dX11_same_68 : decode cX11_same 68 = .ok (.bipush 12, 2) := by decide +kernel
theorem dX11_same_70 : decode cX11_same 70 = .ok (.if_icmp .le 10, 3) := by decide +kernel
theorem dX11_same_73 : decode cX11_same 73 = .ok (.aload_n 0, 1) := by decide +kernel
theorem dX11_same_74 : decode cX11_same 74 = .ok (.bipush (-17), 2) := by decide +kernel
theorem dX11_same_76 : decode cX11_same 76 = .ok (.invokevirtual 120, 3) := by decide +kernel
theorem dX11_same_79 : decode cX11_same 79 = .ok (.ireturn, 1) := by decide +kernel
theorem dX11_same_80 : decode cX11_same 80 = .ok (.aload_n 0, 1) := by decide +kernel
theorem dX11_same_81 : decode cX11_same 81 = .ok (.invokevirtual 396, 3) := by decide +kernel
theorem dX11_same_84 : decode cX11_same 84 = .ok (.istore 4, 2) := by decide +kernel
theorem dX11_same_86 : decode cX11_same 86 = .ok (.iload 4, 2) := by decide +kernel
theorem dX11_same_88 : decode cX11_same 88 = .ok (.ifCond .ge 10, 3) := by decide +kernel
theorem dX11_same_91 : decode cX11_same 91 = .ok (.aload_n 0, 1) := by decide +kernel
theorem dX11_same_92 : decode cX11_same 92 = .ok (.iload 4, 2) := by decide +kernel
theorem dX11_same_94 : decode cX11_same 94 = .ok (.invokevirtual 120, 3) := by decide +kernel
theorem dX11_same_97 : decode cX11_same 97 = .ok (.ireturn, 1) := by decide +kernel
theorem dX11_same_98 : decode cX11_same 98 = .ok (.aload_n 0, 1) := by decide +kernel
theorem dX11_same_99 : decode cX11_same 99 = .ok (.iload 4, 2) := by decide +kernel
theorem dX11_same_101 : decode cX11_same 101 = .ok (.putfield 399, 3) := by decide +kernel
theorem dX11_same_104 : decode cX11_same 104 = .ok (.iload 4, 2) := by decide +kernel
theorem dX11_same_106 : decode cX11_same 106 = .ok (.ifCond .eq 9, 3) := by decide +kernel
theorem dX11_same_109 : decode cX11_same 109 = .ok (.aload_n 0, 1) := by decide +kernel
theorem dX11_same_110 : decode cX11_same 110 = .ok (.iconst 0, 1) := by decide +kernel
theorem dX11_same_111 : decode cX11_same 111 = .ok (.invokevirtual 131, 3) := by decide +kernel
theorem dX11_same_114 : decode cX11_same 114 = .ok (.ireturn, 1) := by decide +kernel
theorem dX11_same_115 : decode cX11_same 115 = .ok (.aload_n 0, 1) := by decide +kernel
theorem dX11_same_116 : decode cX11_same 116 = .ok (.getfield 78, 3) := by decide +kernel
theorem dX11_same_119 : decode cX11_same 119 = .ok (.aload_n 0, 1) := by decide +kernel
theorem dX11_same_120 : decode cX11_same 120 = .ok (.getfield 11, 3) := by decide +kernel
theorem dX11_same_123 : decode cX11_same 123 = .ok (.iload_n 1, 1) := by decide +kernel
theorem dX11_same_124 : decode cX11_same 124 = .ok (.aaload, 1) := by decide +kernel
theorem dX11_same_125 : decode cX11_same 125 = .ok (.invokevirtual 358, 3) := by decide +kernel
theorem dX11_same_128 : decode cX11_same 128 = .ok (.aload_n 0, 1) := by decide +kernel
theorem dX11_same_129 : decode cX11_same 129 = .ok (.getfield 78, 3) := by decide +kernel
theorem dX11_same_132 : decode cX11_same 132 = .ok (.aload_n 0, 1) := by decide +kernel
theorem dX11_same_133 : decode cX11_same 133 = .ok (.getfield 11, 3) := by decide +kernel
theorem dX11_same_136 : decode cX11_same 136 = .ok (.iload_n 2, 1) := by decide +kernel
theorem dX11_same_137 : decode cX11_same 137 = .ok (.aaload, 1) := by decide +kernel
theorem dX11_same_138 : decode cX11_same 138 = .ok (.invokevirtual 402, 3) := by decide +kernel
theorem dX11_same_141 : decode cX11_same 141 = .ok (.aload_n 0, 1) := by decide +kernel
theorem dX11_same_142 : decode cX11_same 142 = .ok (.getfield 78, 3) := by decide +kernel
theorem dX11_same_145 : decode cX11_same 145 = .ok (.iload_n 3, 1) := by decide +kernel
theorem dX11_same_146 : decode cX11_same 146 = .ok (.invokevirtual 361, 3) := by decide +kernel
theorem dX11_same_149 : decode cX11_same 149 = .ok (.pop, 1) := by decide +kernel
theorem dX11_same_150 : decode cX11_same 150 = .ok (.aload_n 0, 1) := by decide +kernel
theorem dX11_same_151 : decode cX11_same 151 = .ok (.aload_n 0, 1) := by decide +kernel
theorem dX11_same_152 : decode cX11_same 152 = .ok (.getfield 78, 3) := by decide +kernel
theorem dX11_same_155 : decode cX11_same 155 = .ok (.invokevirtual 405, 3) := by decide +kernel
theorem dX11_same_158 : decode cX11_same 158 = .ok (.ifCond .eq 7, 3) := by decide +kernel
theorem dX11_same_161 : decode cX11_same 161 = .ok (.iconst 1, 1) := by decide +kernel
theorem dX11_same_162 : decode cX11_same 162 = .ok (.goto 4, 3) := by decide +kernel
theorem dX11_same_165 : decode cX11_same 165 = .ok (.iconst (-1), 1) := by decide +kernel
theorem dX11_same_166 : decode cX11_same 166 = .ok (.invokevirtual 131, 3) := by decide +kernel
theorem dX11_same_169 : decode cX11_same 169 = .ok (.ireturn, 1) := by decide +kernel
theorem dX11_parted_0 : decode cX11_parted 0 = .ok (.aload_n 0, 1) := by decide +kernel
theorem dX11_parted_1 : decode cX11_parted 1 = .ok (.getfield 399, 3) := by decide +kernel
theorem dX11_parted_4 : decode cX11_parted 4 = .ok (.ireturn, 1) := by decide +kernel
theorem dX11_way_0 : decode cX11_way 0 = .ok (.aload_n 0, 1) := by decide +kernel
theorem dX11_way_1 : decode cX11_way 1 = .ok (.getfield 78, 3) := by decide +kernel
theorem dX11_way_4 : decode cX11_way 4 = .ok (.getfield 408, 3) := by decide +kernel
theorem dX11_way_7 : decode cX11_way 7 = .ok (.iload_n 1, 1) := by decide +kernel
theorem dX11_way_8 : decode cX11_way 8 = .ok (.invokevirtual 298, 3) := by decide +kernel
theorem dX11_way_11 : decode cX11_way 11 = .ok (.ifCond .eq 18, 3) := by decide +kernel
theorem dX11_way_14 : decode cX11_way 14 = .ok (.aload_n 0, 1) := by decide +kernel
theorem dX11_way_15 : decode cX11_way 15 = .ok (.getfield 78, 3) := by decide +kernel
theorem dX11_way_18 : decode cX11_way 18 = .ok (.getfield 408, 3) := by decide +kernel
theorem dX11_way_21 : decode cX11_way 21 = .ok (.getfield 301, 3) := by decide +kernel
theorem dX11_way_24 : decode cX11_way 24 = .ok (.iload_n 1, 1) := by decide +kernel
theorem dX11_way_25 : decode cX11_way 25 = .ok (.iaload, 1) := by decide +kernel
theorem dX11_way_26 : decode cX11_way 26 = .ok (.goto 4, 3) := by decide +kernel
theorem dX11_way_29 : decode cX11_way 29 = .ok (.iconst (-1), 1) := by decide +kernel
theorem dX11_way_30 : decode cX11_way 30 = .ok (.ireturn, 1) := by decide +kernel
theorem dX11_goWays_0 : decode cX11_goWays 0 = .ok (.iconst 0, 1) := by decide +kernel
theorem dX11_goWays_1 : decode cX11_goWays 1 = .ok (.istore_n 1, 1) := by decide +kernel
theorem dX11_goWays_2 : decode cX11_goWays 2 = .ok (.iload_n 1, 1) := by decide +kernel
theorem dX11_goWays_3 : decode cX11_goWays 3 = .ok (.aload_n 0, 1) := by decide +kernel
theorem dX11_goWays_4 : decode cX11_goWays 4 = .ok (.getfield 78, 3) := by decide +kernel
theorem dX11_goWays_7 : decode cX11_goWays 7 = .ok (.getfield 408, 3) := by decide +kernel
theorem dX11_goWays_10 : decode cX11_goWays 10 = .ok (.getfield 292, 3) := by decide +kernel
theorem dX11_goWays_13 : decode cX11_goWays 13 = .ok (.if_icmp .ge 48, 3) := by decide +kernel
theorem dX11_goWays_16 : decode cX11_goWays 16 = .ok (.aload_n 0, 1) := by decide +kernel
theorem dX11_goWays_17 : decode cX11_goWays 17 = .ok (.getfield 36, 3) := by decide +kernel
theorem dX11_goWays_20 : decode cX11_goWays 20 = .ok (.aload_n 0, 1) := by decide +kernel
theorem dX11_goWays_21 : decode cX11_goWays 21 = .ok (.getfield 44, 3) := by decide +kernel
theorem dX11_goWays_24 : decode cX11_goWays 24 = .ok (.invokevirtual 411, 3) := by decide +kernel
theorem dX11_goWays_27 : decode cX11_goWays 27 = .ok (.aload_n 0, 1) := by decide +kernel
theorem dX11_goWays_28 : decode cX11_goWays 28 = .ok (.getfield 44, 3) := by decide +kernel
theorem dX11_goWays_31 : decode cX11_goWays 31 = .ok (.aload_n 0, 1) := by decide +kernel
theorem dX11_goWays_32 : decode cX11_goWays 32 = .ok (.getfield 36, 3) := by decide +kernel
theorem dX11_goWays_35 : decode cX11_goWays 35 = .ok (.aload_n 0, 1) := by decide +kernel
theorem dX11_goWays_36 : decode cX11_goWays 36 = .ok (.getfield 78, 3) := by decide +kernel
theorem dX11_goWays_39 : decode cX11_goWays 39 = .ok (.getfield 408, 3) := by decide +kernel
theorem dX11_goWays_42 : decode cX11_goWays 42 = .ok (.getfield 301, 3) := by decide +kernel
theorem dX11_goWays_45 : decode cX11_goWays 45 = .ok (.iload_n 1, 1) := by decide +kernel
theorem dX11_goWays_46 : decode cX11_goWays 46 = .ok (.iaload, 1) := by decide +kernel
theorem dX11_goWays_47 : decode cX11_goWays 47 = .ok (.invokestatic 414, 3) := by decide +kernel
theorem dX11_goWays_50 : decode cX11_goWays 50 = .ok (.ifCond .ne 5, 3) := by decide +kernel
theorem dX11_goWays_53 : decode cX11_goWays 53 = .ok (.iconst 0, 1) := by decide +kernel
theorem dX11_goWays_54 : decode cX11_goWays 54 = .ok (.ireturn, 1) := by decide +kernel
theorem dX11_goWays_55 : decode cX11_goWays 55 = .ok (.iinc 1 1, 3) := by decide +kernel
theorem dX11_goWays_58 : decode cX11_goWays 58 = .ok (.goto (-56), 3) := by decide +kernel
theorem dX11_goWays_61 : decode cX11_goWays 61 = .ok (.iconst 1, 1) := by decide +kernel
theorem dX11_goWays_62 : decode cX11_goWays 62 = .ok (.ireturn, 1) := by decide +kernel
theorem dX11_check_0 : decode cX11_check 0 = .ok (.aload_n 0, 1) := by decide +kernel
theorem dX11_check_1 : decode cX11_check 1 = .ok (.iload_n 1, 1) := by decide +kernel
theorem dX11_check_2 : decode cX11_check 2 = .ok (.invokevirtual 134, 3) := by decide +kernel
theorem dX11_check_5 : decode cX11_check 5 = .ok (.ifCond .ne 10, 3) := by decide +kernel
theorem dX11_check_8 : decode cX11_check 8 = .ok (.aload_n 0, 1) := by decide +kernel
theorem dX11_check_9 : decode cX11_check 9 = .ok (.bipush (-2), 2) := by decide +kernel
theorem dX11_check_11 : decode cX11_check 11 = .ok (.invokevirtual 120, 3) := by decide +kernel
theorem dX11_check_14 : decode cX11_check 14 = .ok (.ireturn, 1) := by decide +kernel
theorem dX11_check_15 : decode cX11_check 15 = .ok (.aload_n 0, 1) := by decide +kernel
theorem dX11_check_16 : decode cX11_check 16 = .ok (.invokevirtual 116, 3) := by decide +kernel
theorem dX11_check_19 : decode cX11_check 19 = .ok (.ifCond .eq 10, 3) := by decide +kernel
theorem dX11_check_22 : decode cX11_check 22 = .ok (.aload_n 0, 1) := by decide +kernel
theorem dX11_check_23 : decode cX11_check 23 = .ok (.bipush (-3), 2) := by decide +kernel
theorem dX11_check_25 : decode cX11_check 25 = .ok (.invokevirtual 120, 3) := by decide +kernel
theorem dX11_check_28 : decode cX11_check 28 = .ok (.ireturn, 1) := by decide +kernel
theorem dX11_check_29 : decode cX11_check 29 = .ok (.aload_n 0, 1) := by decide +kernel
theorem dX11_check_30 : decode cX11_check 30 = .ok (.iload_n 1, 1) := by decide +kernel
theorem dX11_check_31 : decode cX11_check 31 = .ok (.aload_n 0, 1) := by decide +kernel
theorem dX11_check_32 : decode cX11_check 32 = .ok (.getfield 36, 3) := by decide +kernel
theorem dX11_check_35 : decode cX11_check 35 = .ok (.invokevirtual 184, 3) := by decide +kernel
theorem dX11_check_38 : decode cX11_check 38 = .ok (.ifCond .ne 10, 3) := by decide +kernel
theorem dX11_check_41 : decode cX11_check 41 = .ok (.aload_n 0, 1) := by decide +kernel
theorem dX11_check_42 : decode cX11_check 42 = .ok (.bipush (-13), 2) := by decide +kernel
theorem dX11_check_44 : decode cX11_check 44 = .ok (.invokevirtual 120, 3) := by decide +kernel
theorem dX11_check_47 : decode cX11_check 47 = .ok (.ireturn, 1) := by decide +kernel
theorem dX11_check_48 : decode cX11_check 48 = .ok (.aload_n 0, 1) := by decide +kernel
theorem dX11_check_49 : decode cX11_check 49 = .ok (.getfield 44, 3) := by decide +kernel
theorem dX11_check_52 : decode cX11_check 52 = .ok (.aload_n 0, 1) := by decide +kernel
theorem dX11_check_53 : decode cX11_check 53 = .ok (.getfield 11, 3) := by decide +kernel
theorem dX11_check_56 : decode cX11_check 56 = .ok (.iload_n 1, 1) := by decide +kernel
theorem dX11_check_57 : decode cX11_check 57 = .ok (.aaload, 1) := by decide +kernel
theorem dX11_check_58 : decode cX11_check 58 = .ok (.invokevirtual 113, 3) := by decide +kernel
theorem dX11_check_61 : decode cX11_check 61 = .ok (.aload_n 0, 1) := by decide +kernel
theorem dX11_check_62 : decode cX11_check 62 = .ok (.invokevirtual 418, 3) := by decide +kernel
theorem dX11_check_65 : decode cX11_check 65 = .ok (.ifCond .eq 18, 3) := by decide +kernel
theorem dX11_check_68 : decode cX11_check 68 = .ok (.aload_n 0, 1) := by decide +kernel
theorem dX11_check_69 : decode cX11_check 69 = .ok (.aload_n 0, 1) := by decide +kernel
theorem dX11_check_70 : decode cX11_check 70 = .ok (.aload_n 0, 1) := by decide +kernel
theorem dX11_check_71 : decode cX11_check 71 = .ok (.getfield 44, 3) := by decide +kernel
theorem dX11_check_74 : decode cX11_check 74 = .ok (.invokevirtual 127, 3) := by decide +kernel
theorem dX11_check_77 : decode cX11_check 77 = .ok (.invokevirtual 131, 3) := by decide +kernel
theorem dX11_check_80 : decode cX11_check 80 = .ok (.goto 9, 3) := by decide +kernel
theorem dX11_check_83 : decode cX11_check 83 = .ok (.aload_n 0, 1) := by decide +kernel
theorem dX11_check_84 : decode cX11_check 84 = .ok (.bipush (-15), 2) := by decide +kernel
theorem dX11_check_86 : decode cX11_check 86 = .ok (.invokevirtual 120, 3) := by decide +kernel
theorem dX11_check_89 : decode cX11_check 89 = .ok (.ireturn, 1) := by decide +kernel
theorem dX11_book_0 : decode cX11_book 0 = .ok (.aload_n 0, 1) := by decide +kernel
theorem dX11_book_1 : decode cX11_book 1 = .ok (.iload_n 1, 1) := by decide +kernel
theorem dX11_book_2 : decode cX11_book 2 = .ok (.invokevirtual 134, 3) := by decide +kernel
theorem dX11_book_5 : decode cX11_book 5 = .ok (.ifCond .eq 9, 3) := by decide +kernel
theorem dX11_book_8 : decode cX11_book 8 = .ok (.lload_n 2, 1) := by decide +kernel
theorem dX11_book_9 : decode cX11_book 9 = .ok (.lconst 0, 1) := by decide +kernel
theorem dX11_book_10 : decode cX11_book 10 = .ok (.lcmp, 1) := by decide +kernel
theorem dX11_book_11 : decode cX11_book 11 = .ok (.ifCond .ne 10, 3) := by decide +kernel
theorem dX11_book_14 : decode cX11_book 14 = .ok (.aload_n 0, 1) := by decide +kernel
theorem dX11_book_15 : decode cX11_book 15 = .ok (.bipush (-2), 2) := by decide +kernel
theorem dX11_book_17 : decode cX11_book 17 = .ok (.invokevirtual 120, 3) := by decide +kernel
theorem dX11_book_20 : decode cX11_book 20 = .ok (.ireturn, 1) := by decide +kernel
theorem dX11_book_21 : decode cX11_book 21 = .ok (.aload_n 0, 1) := by decide +kernel
theorem dX11_book_22 : decode cX11_book 22 = .ok (.getfield 85, 3) := by decide +kernel
theorem dX11_book_25 : decode cX11_book 25 = .ok (.getfield 421, 3) := by decide +kernel
theorem dX11_book_28 : decode cX11_book 28 = .ok (.sipush 200, 3) := by decide +kernel
theorem dX11_book_31 : decode cX11_book 31 = .ok (.if_icmp .lt 10, 3) := by decide +kernel
theorem dX11_book_34 : decode cX11_book 34 = .ok (.aload_n 0, 1) := by decide +kernel
theorem dX11_book_35 : decode cX11_book 35 = .ok (.bipush (-3), 2) := by decide +kernel
theorem dX11_book_37 : decode cX11_book 37 = .ok (.invokevirtual 120, 3) := by decide +kernel
theorem dX11_book_40 : decode cX11_book 40 = .ok (.ireturn, 1) := by decide +kernel
theorem dX11_book_41 : decode cX11_book 41 = .ok (.aload_n 0, 1) := by decide +kernel
theorem dX11_book_42 : decode cX11_book 42 = .ok (.iload_n 1, 1) := by decide +kernel
theorem dX11_book_43 : decode cX11_book 43 = .ok (.bipush 10, 2) := by decide +kernel
theorem dX11_book_45 : decode cX11_book 45 = .ok (.invokevirtual 257, 3) := by decide +kernel
theorem dX11_book_48 : decode cX11_book 48 = .ok (.istore 4, 2) := by decide +kernel
theorem dX11_book_50 : decode cX11_book 50 = .ok (.iload 4, 2) := by decide +kernel
theorem dX11_book_52 : decode cX11_book 52 = .ok (.ifCond .eq 10, 3) := by decide +kernel
theorem dX11_book_55 : decode cX11_book 55 = .ok (.aload_n 0, 1) := by decide +kernel
theorem dX11_book_56 : decode cX11_book 56 = .ok (.iload 4, 2) := by decide +kernel
theorem dX11_book_58 : decode cX11_book 58 = .ok (.invokevirtual 120, 3) := by decide +kernel
theorem dX11_book_61 : decode cX11_book 61 = .ok (.ireturn, 1) := by decide +kernel
theorem dX11_book_62 : decode cX11_book 62 = .ok (.aload_n 0, 1) := by decide +kernel
theorem dX11_book_63 : decode cX11_book 63 = .ok (.getfield 85, 3) := by decide +kernel
theorem dX11_book_66 : decode cX11_book 66 = .ok (.lload_n 2, 1) := by decide +kernel
theorem dX11_book_67 : decode cX11_book 67 = .ok (.invokevirtual 422, 3) := by decide +kernel
theorem dX11_book_70 : decode cX11_book 70 = .ok (.ifCond .eq 10, 3) := by decide +kernel
theorem dX11_book_73 : decode cX11_book 73 = .ok (.aload_n 0, 1) := by decide +kernel
theorem dX11_book_74 : decode cX11_book 74 = .ok (.bipush (-15), 2) := by decide +kernel
theorem dX11_book_76 : decode cX11_book 76 = .ok (.invokevirtual 120, 3) := by decide +kernel
theorem dX11_book_79 : decode cX11_book 79 = .ok (.ireturn, 1) := by decide +kernel
theorem dX11_book_80 : decode cX11_book 80 = .ok (.aload_n 0, 1) := by decide +kernel
theorem dX11_book_81 : decode cX11_book 81 = .ok (.getfield 51, 3) := by decide +kernel
theorem dX11_book_84 : decode cX11_book 84 = .ok (.aload_n 0, 1) := by decide +kernel
theorem dX11_book_85 : decode cX11_book 85 = .ok (.getfield 36, 3) := by decide +kernel
theorem dX11_book_88 : decode cX11_book 88 = .ok (.aload_n 0, 1) := by decide +kernel
theorem dX11_book_89 : decode cX11_book 89 = .ok (.getfield 62, 3) := by decide +kernel
theorem dX11_book_92 : decode cX11_book 92 = .ok (.invokevirtual 267, 3) := by decide +kernel
theorem dX11_book_95 : decode cX11_book 95 = .ok (.aload_n 0, 1) := by decide +kernel
theorem dX11_book_96 : decode cX11_book 96 = .ok (.getfield 85, 3) := by decide +kernel
theorem dX11_book_99 : decode cX11_book 99 = .ok (.lload_n 2, 1) := by decide +kernel
theorem dX11_book_100 : decode cX11_book 100 = .ok (.aload_n 0, 1) := by decide +kernel
theorem dX11_book_101 : decode cX11_book 101 = .ok (.getfield 62, 3) := by decide +kernel
theorem dX11_book_104 : decode cX11_book 104 = .ok (.invokevirtual 425, 3) := by decide +kernel
theorem dX11_book_107 : decode cX11_book 107 = .ok (.aload_n 0, 1) := by decide +kernel
theorem dX11_book_108 : decode cX11_book 108 = .ok (.aload_n 0, 1) := by decide +kernel
theorem dX11_book_109 : decode cX11_book 109 = .ok (.getfield 85, 3) := by decide +kernel
theorem dX11_book_112 : decode cX11_book 112 = .ok (.getfield 421, 3) := by decide +kernel
theorem dX11_book_115 : decode cX11_book 115 = .ok (.invokevirtual 131, 3) := by decide +kernel
theorem dX11_book_118 : decode cX11_book 118 = .ok (.ireturn, 1) := by decide +kernel
theorem dX11_name_0 : decode cX11_name 0 = .ok (.aload_n 0, 1) := by decide +kernel
theorem dX11_name_1 : decode cX11_name 1 = .ok (.iload_n 1, 1) := by decide +kernel
theorem dX11_name_2 : decode cX11_name 2 = .ok (.invokevirtual 134, 3) := by decide +kernel
theorem dX11_name_5 : decode cX11_name 5 = .ok (.ifCond .eq 13, 3) := by decide +kernel
theorem dX11_name_8 : decode cX11_name 8 = .ok (.aload_n 0, 1) := by decide +kernel
theorem dX11_name_9 : decode cX11_name 9 = .ok (.iload_n 1, 1) := by decide +kernel
theorem dX11_name_10 : decode cX11_name 10 = .ok (.bipush 10, 2) := by decide +kernel
theorem dX11_name_12 : decode cX11_name 12 = .ok (.invokevirtual 257, 3) := by decide +kernel
theorem dX11_name_15 : decode cX11_name 15 = .ok (.goto 5, 3) := by decide +kernel
theorem dX11_name_18 : decode cX11_name 18 = .ok (.bipush (-2), 2) := by decide +kernel
theorem dX11_name_20 : decode cX11_name 20 = .ok (.istore_n 2, 1) := by decide +kernel
theorem dX11_name_21 : decode cX11_name 21 = .ok (.iload_n 2, 1) := by decide +kernel
theorem dX11_name_22 : decode cX11_name 22 = .ok (.ifCond .eq 10, 3) := by decide +kernel
theorem dX11_name_25 : decode cX11_name 25 = .ok (.aload_n 0, 1) := by decide +kernel
theorem dX11_name_26 : decode cX11_name 26 = .ok (.iload_n 2, 1) := by decide +kernel
theorem dX11_name_27 : decode cX11_name 27 = .ok (.invokevirtual 120, 3) := by decide +kernel
theorem dX11_name_30 : decode cX11_name 30 = .ok (.i2l, 1) := by decide +kernel
theorem dX11_name_31 : decode cX11_name 31 = .ok (.lreturn, 1) := by decide +kernel
theorem dX11_name_32 : decode cX11_name 32 = .ok (.aload_n 0, 1) := by decide +kernel
theorem dX11_name_33 : decode cX11_name 33 = .ok (.getfield 51, 3) := by decide +kernel
theorem dX11_name_36 : decode cX11_name 36 = .ok (.aload_n 0, 1) := by decide +kernel
theorem dX11_name_37 : decode cX11_name 37 = .ok (.getfield 36, 3) := by decide +kernel
theorem dX11_name_40 : decode cX11_name 40 = .ok (.aload_n 0, 1) := by decide +kernel
theorem dX11_name_41 : decode cX11_name 41 = .ok (.getfield 62, 3) := by decide +kernel
theorem dX11_name_44 : decode cX11_name 44 = .ok (.invokevirtual 267, 3) := by decide +kernel
theorem dX11_name_47 : decode cX11_name 47 = .ok (.aload_n 0, 1) := by decide +kernel
theorem dX11_name_48 : decode cX11_name 48 = .ok (.iconst 0, 1) := by decide +kernel
theorem dX11_name_49 : decode cX11_name 49 = .ok (.putfield 110, 3) := by decide +kernel
theorem dX11_name_52 : decode cX11_name 52 = .ok (.aload_n 0, 1) := by decide +kernel
theorem dX11_name_53 : decode cX11_name 53 = .ok (.getfield 85, 3) := by decide +kernel
theorem dX11_name_56 : decode cX11_name 56 = .ok (.aload_n 0, 1) := by decide +kernel
theorem dX11_name_57 : decode cX11_name 57 = .ok (.getfield 62, 3) := by decide +kernel
theorem dX11_name_60 : decode cX11_name 60 = .ok (.invokevirtual 428, 3) := by decide +kernel
theorem dX11_name_63 : decode cX11_name 63 = .ok (.lreturn, 1) := by decide +kernel
theorem dX11_count_0 : decode cX11_count 0 = .ok (.iload_n 1, 1) := by decide +kernel
theorem dX11_count_1 : decode cX11_count 1 = .ok (.tableswitch 69 0 4 #[35, 40, 45, 53, 61], 35) := by decide +kernel
theorem dX11_count_36 : decode cX11_count 36 = .ok (.aload_n 0, 1) := by decide +kernel
theorem dX11_count_37 : decode cX11_count 37 = .ok (.getfield 97, 3) := by decide +kernel
theorem dX11_count_40 : decode cX11_count 40 = .ok (.ireturn, 1) := by decide +kernel
theorem dX11_count_41 : decode cX11_count 41 = .ok (.aload_n 0, 1) := by decide +kernel
theorem dX11_count_42 : decode cX11_count 42 = .ok (.getfield 100, 3) := by decide +kernel
theorem dX11_count_45 : decode cX11_count 45 = .ok (.ireturn, 1) := by decide +kernel
theorem dX11_count_46 : decode cX11_count 46 = .ok (.aload_n 0, 1) := by decide +kernel
theorem dX11_count_47 : decode cX11_count 47 = .ok (.getfield 85, 3) := by decide +kernel
theorem dX11_count_50 : decode cX11_count 50 = .ok (.getfield 421, 3) := by decide +kernel
theorem dX11_count_53 : decode cX11_count 53 = .ok (.ireturn, 1) := by decide +kernel
theorem dX11_count_54 : decode cX11_count 54 = .ok (.aload_n 0, 1) := by decide +kernel
theorem dX11_count_55 : decode cX11_count 55 = .ok (.getfield 26, 3) := by decide +kernel
theorem dX11_count_58 : decode cX11_count 58 = .ok (.getfield 292, 3) := by decide +kernel
theorem dX11_count_61 : decode cX11_count 61 = .ok (.ireturn, 1) := by decide +kernel
theorem dX11_count_62 : decode cX11_count 62 = .ok (.aload_n 0, 1) := by decide +kernel
theorem dX11_count_63 : decode cX11_count 63 = .ok (.getfield 51, 3) := by decide +kernel
theorem dX11_count_66 : decode cX11_count 66 = .ok (.getfield 432, 3) := by decide +kernel
theorem dX11_count_69 : decode cX11_count 69 = .ok (.ireturn, 1) := by decide +kernel
theorem dX11_count_70 : decode cX11_count 70 = .ok (.bipush (-2), 2) := by decide +kernel
theorem dX11_count_72 : decode cX11_count 72 = .ok (.ireturn, 1) := by decide +kernel
theorem dX11_findings_0 : decode cX11_findings 0 = .ok (.iload_n 1, 1) := by decide +kernel
theorem dX11_findings_1 : decode cX11_findings 1 = .ok (.iconst 1, 1) := by decide +kernel
theorem dX11_findings_2 : decode cX11_findings 2 = .ok (.if_icmp .lt 18, 3) := by decide +kernel
theorem dX11_findings_5 : decode cX11_findings 5 = .ok (.iload_n 1, 1) := by decide +kernel
theorem dX11_findings_6 : decode cX11_findings 6 = .ok (.bipush 9, 2) := by decide +kernel
theorem dX11_findings_8 : decode cX11_findings 8 = .ok (.if_icmp .gt 12, 3) := by decide +kernel
theorem dX11_findings_11 : decode cX11_findings 11 = .ok (.aload_n 0, 1) := by decide +kernel
theorem dX11_findings_12 : decode cX11_findings 12 = .ok (.getfield 89, 3) := by decide +kernel
theorem dX11_findings_15 : decode cX11_findings 15 = .ok (.iload_n 1, 1) := by decide +kernel
theorem dX11_findings_16 : decode cX11_findings 16 = .ok (.iaload, 1) := by decide +kernel
theorem dX11_findings_17 : decode cX11_findings 17 = .ok (.goto 5, 3) := by decide +kernel
theorem dX11_findings_20 : decode cX11_findings 20 = .ok (.bipush (-2), 2) := by decide +kernel
theorem dX11_findings_22 : decode cX11_findings 22 = .ok (.ireturn, 1) := by decide +kernel
theorem dX11_status_0 : decode cX11_status 0 = .ok (.aload_n 0, 1) := by decide +kernel
theorem dX11_status_1 : decode cX11_status 1 = .ok (.getfield 110, 3) := by decide +kernel
theorem dX11_status_4 : decode cX11_status 4 = .ok (.ireturn, 1) := by decide +kernel
theorem dX11_digest_0 : decode cX11_digest 0 = .ok (.ldc2_w 435, 3) := by decide +kernel
theorem dX11_digest_3 : decode cX11_digest 3 = .ok (.lstore_n 1, 1) := by decide +kernel
theorem dX11_digest_4 : decode cX11_digest 4 = .ok (.iconst 0, 1) := by decide +kernel
theorem dX11_digest_5 : decode cX11_digest 5 = .ok (.istore_n 3, 1) := by decide +kernel
theorem dX11_digest_6 : decode cX11_digest 6 = .ok (.iload_n 3, 1) := by decide +kernel
theorem dX11_digest_7 : decode cX11_digest 7 = .ok (.aload_n 0, 1) := by decide +kernel
theorem dX11_digest_8 : decode cX11_digest 8 = .ok (.getfield 97, 3) := by decide +kernel
theorem dX11_digest_11 : decode cX11_digest 11 = .ok (.if_icmp .ge 20, 3) := by decide +kernel
theorem dX11_digest_14 : decode cX11_digest 14 = .ok (.aload_n 0, 1) := by decide +kernel
theorem dX11_digest_15 : decode cX11_digest 15 = .ok (.getfield 11, 3) := by decide +kernel
theorem dX11_digest_18 : decode cX11_digest 18 = .ok (.iload_n 3, 1) := by decide +kernel
theorem dX11_digest_19 : decode cX11_digest 19 = .ok (.aaload, 1) := by decide +kernel
theorem dX11_digest_20 : decode cX11_digest 20 = .ok (.lload_n 1, 1) := by decide +kernel
theorem dX11_digest_21 : decode cX11_digest 21 = .ok (.invokevirtual 437, 3) := by decide +kernel
theorem dX11_digest_24 : decode cX11_digest 24 = .ok (.lstore_n 1, 1) := by decide +kernel
theorem dX11_digest_25 : decode cX11_digest 25 = .ok (.iinc 3 1, 3) := by decide +kernel
theorem dX11_digest_28 : decode cX11_digest 28 = .ok (.goto (-22), 3) := by decide +kernel
theorem dX11_digest_31 : decode cX11_digest 31 = .ok (.aload_n 0, 1) := by decide +kernel
theorem dX11_digest_32 : decode cX11_digest 32 = .ok (.iconst 0, 1) := by decide +kernel
theorem dX11_digest_33 : decode cX11_digest 33 = .ok (.putfield 110, 3) := by decide +kernel
theorem dX11_digest_36 : decode cX11_digest 36 = .ok (.lload_n 1, 1) := by decide +kernel
theorem dX11_digest_37 : decode cX11_digest 37 = .ok (.lreturn, 1) := by decide +kernel
theorem dX11_corner_0 : decode cX11_corner 0 = .ok (.iload_n 0, 1) := by decide +kernel
theorem dX11_corner_1 : decode cX11_corner 1 = .ok (.bipush (-4), 2) := by decide +kernel
theorem dX11_corner_3 : decode cX11_corner 3 = .ok (.iand, 1) := by decide +kernel
theorem dX11_corner_4 : decode cX11_corner 4 = .ok (.iload_n 0, 1) := by decide +kernel
theorem dX11_corner_5 : decode cX11_corner 5 = .ok (.iload_n 1, 1) := by decide +kernel
theorem dX11_corner_6 : decode cX11_corner 6 = .ok (.iadd, 1) := by decide +kernel
theorem dX11_corner_7 : decode cX11_corner 7 = .ok (.iconst 3, 1) := by decide +kernel
theorem dX11_corner_8 : decode cX11_corner 8 = .ok (.iand, 1) := by decide +kernel
theorem dX11_corner_9 : decode cX11_corner 9 = .ok (.ior, 1) := by decide +kernel
theorem dX11_corner_10 : decode cX11_corner 10 = .ok (.ireturn, 1) := by decide +kernel
