theorem dX0_init_0 : decode cX0_init 0 = .ok (.aload_n 0, 1) := by decide +kernel
theorem dX0_init_1 : decode cX0_init 1 = .ok (.invokespecial 3, 3) := by decide +kernel
theorem dX0_init_4 : decode cX0_init 4 = .ok (.aload_n 0, 1) := by decide +kernel
theorem dX0_init_5 : decode cX0_init 5 = .ok (.bipush 20, 2) := by decide +kernel
theorem dX0_init_7 : decode cX0_init 7 = .ok (.newarray .int, 2) := by decide +kernel
theorem dX0_init_9 : decode cX0_init 9 = .ok (.putfield 9, 3) := by decide +kernel
theorem dX0_init_12 : decode cX0_init 12 = .ok (.aload_n 0, 1) := by decide +kernel
theorem dX0_init_13 : decode cX0_init 13 = .ok (.bipush 20, 2) := by decide +kernel
theorem dX0_init_15 : decode cX0_init 15 = .ok (.newarray .int, 2) := by decide +kernel
theorem dX0_init_17 : decode cX0_init 17 = .ok (.putfield 15, 3) := by decide +kernel
theorem dX0_init_20 : decode cX0_init 20 = .ok (.return_, 1) := by decide +kernel
theorem dX0_open_0 : decode cX0_open 0 = .ok (.iconst 0, 1) := by decide +kernel
theorem dX0_open_1 : decode cX0_open 1 = .ok (.istore_n 3, 1) := by decide +kernel
theorem dX0_open_2 : decode cX0_open 2 = .ok (.iload_n 3, 1) := by decide +kernel
theorem dX0_open_3 : decode cX0_open 3 = .ok (.bipush 20, 2) := by decide +kernel
theorem dX0_open_5 : decode cX0_open 5 = .ok (.if_icmp .ge 24, 3) := by decide +kernel
theorem dX0_open_8 : decode cX0_open 8 = .ok (.aload_n 0, 1) := by decide +kernel
theorem dX0_open_9 : decode cX0_open 9 = .ok (.getfield 9, 3) := by decide +kernel
theorem dX0_open_12 : decode cX0_open 12 = .ok (.iload_n 3, 1) := by decide +kernel
theorem dX0_open_13 : decode cX0_open 13 = .ok (.iload_n 1, 1) := by decide +kernel
theorem dX0_open_14 : decode cX0_open 14 = .ok (.ineg, 1) := by decide +kernel
theorem dX0_open_15 : decode cX0_open 15 = .ok (.iastore, 1) := by decide +kernel
theorem dX0_open_16 : decode cX0_open 16 = .ok (.aload_n 0, 1) := by decide +kernel
theorem dX0_open_17 : decode cX0_open 17 = .ok (.getfield 15, 3) := by decide +kernel
theorem dX0_open_20 : decode cX0_open 20 = .ok (.iload_n 3, 1) := by decide +kernel
theorem dX0_open_21 : decode cX0_open 21 = .ok (.iload_n 1, 1) := by decide +kernel
theorem dX0_open_22 : decode cX0_open 22 = .ok (.iastore, 1) := by decide +kernel
theorem dX0_open_23 : decode cX0_open 23 = .ok (.iinc 3 1, 3) := by decide +kernel
theorem dX0_open_26 : decode cX0_open 26 = .ok (.goto (-24), 3) := by decide +kernel
theorem dX0_open_29 : decode cX0_open 29 = .ok (.aload_n 0, 1) := by decide +kernel
theorem dX0_open_30 : decode cX0_open 30 = .ok (.iload_n 2, 1) := by decide +kernel
theorem dX0_open_31 : decode cX0_open 31 = .ok (.ineg, 1) := by decide +kernel
theorem dX0_open_32 : decode cX0_open 32 = .ok (.putfield 18, 3) := by decide +kernel
theorem dX0_open_35 : decode cX0_open 35 = .ok (.aload_n 0, 1) := by decide +kernel
theorem dX0_open_36 : decode cX0_open 36 = .ok (.iload_n 2, 1) := by decide +kernel
theorem dX0_open_37 : decode cX0_open 37 = .ok (.putfield 22, 3) := by decide +kernel
theorem dX0_open_40 : decode cX0_open 40 = .ok (.return_, 1) := by decide +kernel
theorem dX0_copyFrom_0 : decode cX0_copyFrom 0 = .ok (.aload_n 1, 1) := by decide +kernel
theorem dX0_copyFrom_1 : decode cX0_copyFrom 1 = .ok (.getfield 9, 3) := by decide +kernel
theorem dX0_copyFrom_4 : decode cX0_copyFrom 4 = .ok (.iconst 0, 1) := by decide +kernel
theorem dX0_copyFrom_5 : decode cX0_copyFrom 5 = .ok (.aload_n 0, 1) := by decide +kernel
theorem dX0_copyFrom_6 : decode cX0_copyFrom 6 = .ok (.getfield 9, 3) := by decide +kernel
theorem dX0_copyFrom_9 : decode cX0_copyFrom 9 = .ok (.iconst 0, 1) := by decide +kernel
theorem dX0_copyFrom_10 : decode cX0_copyFrom 10 = .ok (.bipush 20, 2) := by decide +kernel
theorem dX0_copyFrom_12 : decode cX0_copyFrom 12 = .ok (.invokestatic 25, 3) := by decide +kernel
theorem dX0_copyFrom_15 : decode cX0_copyFrom 15 = .ok (.aload_n 1, 1) := by decide +kernel
theorem dX0_copyFrom_16 : decode cX0_copyFrom 16 = .ok (.getfield 15, 3) := by decide +kernel
theorem dX0_copyFrom_19 : decode cX0_copyFrom 19 = .ok (.iconst 0, 1) := by decide +kernel
theorem dX0_copyFrom_20 : decode cX0_copyFrom 20 = .ok (.aload_n 0, 1) := by decide +kernel
theorem dX0_copyFrom_21 : decode cX0_copyFrom 21 = .ok (.getfield 15, 3) := by decide +kernel
theorem dX0_copyFrom_24 : decode cX0_copyFrom 24 = .ok (.iconst 0, 1) := by decide +kernel
theorem dX0_copyFrom_25 : decode cX0_copyFrom 25 = .ok (.bipush 20, 2) := by decide +kernel
theorem dX0_copyFrom_27 : decode cX0_copyFrom 27 = .ok (.invokestatic 25, 3) := by decide +kernel
theorem dX0_copyFrom_30 : decode cX0_copyFrom 30 = .ok (.aload_n 0, 1) := by decide +kernel
theorem dX0_copyFrom_31 : decode cX0_copyFrom 31 = .ok (.aload_n 1, 1) := by decide +kernel
theorem dX0_copyFrom_32 : decode cX0_copyFrom 32 = .ok (.getfield 18, 3) := by decide +kernel
theorem dX0_copyFrom_35 : decode cX0_copyFrom 35 = .ok (.putfield 18, 3) := by decide +kernel
theorem dX0_copyFrom_38 : decode cX0_copyFrom 38 = .ok (.aload_n 0, 1) := by decide +kernel
theorem dX0_copyFrom_39 : decode cX0_copyFrom 39 = .ok (.aload_n 1, 1) := by decide +kernel
theorem dX0_copyFrom_40 : decode cX0_copyFrom 40 = .ok (.getfield 22, 3) := by decide +kernel
theorem dX0_copyFrom_43 : decode cX0_copyFrom 43 = .ok (.putfield 22, 3) := by decide +kernel
theorem dX0_copyFrom_46 : decode cX0_copyFrom 46 = .ok (.return_, 1) := by decide +kernel
theorem dX0_cut_0 : decode cX0_cut 0 = .ok (.aload_n 0, 1) := by decide +kernel
theorem dX0_cut_1 : decode cX0_cut 1 = .ok (.getfield 9, 3) := by decide +kernel
theorem dX0_cut_4 : decode cX0_cut 4 = .ok (.iload_n 1, 1) := by decide +kernel
theorem dX0_cut_5 : decode cX0_cut 5 = .ok (.aload_n 0, 1) := by decide +kernel
theorem dX0_cut_6 : decode cX0_cut 6 = .ok (.getfield 9, 3) := by decide +kernel
theorem dX0_cut_9 : decode cX0_cut 9 = .ok (.iload_n 1, 1) := by decide +kernel
theorem dX0_cut_10 : decode cX0_cut 10 = .ok (.iaload, 1) := by decide +kernel
theorem dX0_cut_11 : decode cX0_cut 11 = .ok (.iload_n 2, 1) := by decide +kernel
theorem dX0_cut_12 : decode cX0_cut 12 = .ok (.invokestatic 31, 3) := by decide +kernel
theorem dX0_cut_15 : decode cX0_cut 15 = .ok (.iastore, 1) := by decide +kernel
theorem dX0_cut_16 : decode cX0_cut 16 = .ok (.aload_n 0, 1) := by decide +kernel
theorem dX0_cut_17 : decode cX0_cut 17 = .ok (.getfield 15, 3) := by decide +kernel
theorem dX0_cut_20 : decode cX0_cut 20 = .ok (.iload_n 1, 1) := by decide +kernel
theorem dX0_cut_21 : decode cX0_cut 21 = .ok (.aload_n 0, 1) := by decide +kernel
theorem dX0_cut_22 : decode cX0_cut 22 = .ok (.getfield 15, 3) := by decide +kernel
theorem dX0_cut_25 : decode cX0_cut 25 = .ok (.iload_n 1, 1) := by decide +kernel
theorem dX0_cut_26 : decode cX0_cut 26 = .ok (.iaload, 1) := by decide +kernel
theorem dX0_cut_27 : decode cX0_cut 27 = .ok (.iload_n 3, 1) := by decide +kernel
theorem dX0_cut_28 : decode cX0_cut 28 = .ok (.invokestatic 37, 3) := by decide +kernel
theorem dX0_cut_31 : decode cX0_cut 31 = .ok (.iastore, 1) := by decide +kernel
theorem dX0_cut_32 : decode cX0_cut 32 = .ok (.return_, 1) := by decide +kernel
theorem dX0_narrow_0 : decode cX0_narrow 0 = .ok (.iconst 0, 1) := by decide +kernel
theorem dX0_narrow_1 : decode cX0_narrow 1 = .ok (.istore_n 1, 1) := by decide +kernel
theorem dX0_narrow_2 : decode cX0_narrow 2 = .ok (.iload_n 1, 1) := by decide +kernel
theorem dX0_narrow_3 : decode cX0_narrow 3 = .ok (.bipush 20, 2) := by decide +kernel
theorem dX0_narrow_5 : decode cX0_narrow 5 = .ok (.if_icmp .ge 26, 3) := by decide +kernel
theorem dX0_narrow_8 : decode cX0_narrow 8 = .ok (.aload_n 0, 1) := by decide +kernel
theorem dX0_narrow_9 : decode cX0_narrow 9 = .ok (.getfield 9, 3) := by decide +kernel
theorem dX0_narrow_12 : decode cX0_narrow 12 = .ok (.iload_n 1, 1) := by decide +kernel
theorem dX0_narrow_13 : decode cX0_narrow 13 = .ok (.iaload, 1) := by decide +kernel
theorem dX0_narrow_14 : decode cX0_narrow 14 = .ok (.aload_n 0, 1) := by decide +kernel
theorem dX0_narrow_15 : decode cX0_narrow 15 = .ok (.getfield 15, 3) := by decide +kernel
theorem dX0_narrow_18 : decode cX0_narrow 18 = .ok (.iload_n 1, 1) := by decide +kernel
theorem dX0_narrow_19 : decode cX0_narrow 19 = .ok (.iaload, 1) := by decide +kernel
theorem dX0_narrow_20 : decode cX0_narrow 20 = .ok (.if_icmp .le 5, 3) := by decide +kernel
theorem dX0_narrow_23 : decode cX0_narrow 23 = .ok (.iconst 0, 1) := by decide +kernel
theorem dX0_narrow_24 : decode cX0_narrow 24 = .ok (.ireturn, 1) := by decide +kernel
theorem dX0_narrow_25 : decode cX0_narrow 25 = .ok (.iinc 1 1, 3) := by decide +kernel
theorem dX0_narrow_28 : decode cX0_narrow 28 = .ok (.goto (-26), 3) := by decide +kernel
theorem dX0_narrow_31 : decode cX0_narrow 31 = .ok (.aload_n 0, 1) := by decide +kernel
theorem dX0_narrow_32 : decode cX0_narrow 32 = .ok (.invokevirtual 40, 3) := by decide +kernel
theorem dX0_narrow_35 : decode cX0_narrow 35 = .ok (.aload_n 0, 1) := by decide +kernel
theorem dX0_narrow_36 : decode cX0_narrow 36 = .ok (.getfield 18, 3) := by decide +kernel
theorem dX0_narrow_39 : decode cX0_narrow 39 = .ok (.aload_n 0, 1) := by decide +kernel
theorem dX0_narrow_40 : decode cX0_narrow 40 = .ok (.getfield 22, 3) := by decide +kernel
theorem dX0_narrow_43 : decode cX0_narrow 43 = .ok (.if_icmp .le 5, 3) := by decide +kernel
theorem dX0_narrow_46 : decode cX0_narrow 46 = .ok (.iconst 0, 1) := by decide +kernel
theorem dX0_narrow_47 : decode cX0_narrow 47 = .ok (.ireturn, 1) := by decide +kernel
theorem dX0_narrow_48 : decode cX0_narrow 48 = .ok (.aload_n 0, 1) := by decide +kernel
theorem dX0_narrow_49 : decode cX0_narrow 49 = .ok (.invokevirtual 43, 3) := by decide +kernel
theorem dX0_narrow_52 : decode cX0_narrow 52 = .ok (.iconst 1, 1) := by decide +kernel
theorem dX0_narrow_53 : decode cX0_narrow 53 = .ok (.ireturn, 1) := by decide +kernel
theorem dX0_narrowGain_0 : decode cX0_narrowGain 0 = .ok (.iconst 0, 1) := by decide +kernel
theorem dX0_narrowGain_1 : decode cX0_narrowGain 1 = .ok (.istore_n 1, 1) := by decide +kernel
theorem dX0_narrowGain_2 : decode cX0_narrowGain 2 = .ok (.iload_n 1, 1) := by decide +kernel
theorem dX0_narrowGain_3 : decode cX0_narrowGain 3 = .ok (.bipush 20, 2) := by decide +kernel
theorem dX0_narrowGain_5 : decode cX0_narrowGain 5 = .ok (.if_icmp .ge 101, 3) := by decide +kernel
theorem dX0_narrowGain_8 : decode cX0_narrowGain 8 = .ok (.iload_n 1, 1) := by decide +kernel
theorem dX0_narrowGain_9 : decode cX0_narrowGain 9 = .ok (.iconst 1, 1) := by decide +kernel
theorem dX0_narrowGain_10 : decode cX0_narrowGain 10 = .ok (.iadd, 1) := by decide +kernel
theorem dX0_narrowGain_11 : decode cX0_narrowGain 11 = .ok (.istore_n 2, 1) := by decide +kernel
theorem dX0_narrowGain_12 : decode cX0_narrowGain 12 = .ok (.iload_n 2, 1) := by decide +kernel
theorem dX0_narrowGain_13 : decode cX0_narrowGain 13 = .ok (.bipush 20, 2) := by decide +kernel
theorem dX0_narrowGain_15 : decode cX0_narrowGain 15 = .ok (.if_icmp .ge 85, 3) := by decide +kernel
theorem dX0_narrowGain_18 : decode cX0_narrowGain 18 = .ok (.iload_n 2, 1) := by decide +kernel
theorem dX0_narrowGain_19 : decode cX0_narrowGain 19 = .ok (.iload_n 1, 1) := by decide +kernel
theorem dX0_narrowGain_20 : decode cX0_narrowGain 20 = .ok (.isub, 1) := by decide +kernel
theorem dX0_narrowGain_21 : decode cX0_narrowGain 21 = .ok (.istore_n 3, 1) := by decide +kernel
theorem dX0_narrowGain_22 : decode cX0_narrowGain 22 = .ok (.aload_n 0, 1) := by decide +kernel
theorem dX0_narrowGain_23 : decode cX0_narrowGain 23 = .ok (.getfield 9, 3) := by decide +kernel
theorem dX0_narrowGain_26 : decode cX0_narrowGain 26 = .ok (.iload_n 2, 1) := by decide +kernel
theorem dX0_narrowGain_27 : decode cX0_narrowGain 27 = .ok (.iaload, 1) := by decide +kernel
theorem dX0_narrowGain_28 : decode cX0_narrowGain 28 = .ok (.aload_n 0, 1) := by decide +kernel
theorem dX0_narrowGain_29 : decode cX0_narrowGain 29 = .ok (.getfield 15, 3) := by decide +kernel
theorem dX0_narrowGain_32 : decode cX0_narrowGain 32 = .ok (.iload_n 1, 1) := by decide +kernel
theorem dX0_narrowGain_33 : decode cX0_narrowGain 33 = .ok (.iaload, 1) := by decide +kernel
theorem dX0_narrowGain_34 : decode cX0_narrowGain 34 = .ok (.isub, 1) := by decide +kernel
theorem dX0_narrowGain_35 : decode cX0_narrowGain 35 = .ok (.istore 4, 2) := by decide +kernel
theorem dX0_narrowGain_37 : decode cX0_narrowGain 37 = .ok (.aload_n 0, 1) := by decide +kernel
theorem dX0_narrowGain_38 : decode cX0_narrowGain 38 = .ok (.getfield 15, 3) := by decide +kernel
theorem dX0_narrowGain_41 : decode cX0_narrowGain 41 = .ok (.iload_n 2, 1) := by decide +kernel
theorem dX0_narrowGain_42 : decode cX0_narrowGain 42 = .ok (.iaload, 1) := by decide +kernel
theorem dX0_narrowGain_43 : decode cX0_narrowGain 43 = .ok (.aload_n 0, 1) := by decide +kernel
theorem dX0_narrowGain_44 : decode cX0_narrowGain 44 = .ok (.getfield 9, 3) := by decide +kernel
theorem dX0_narrowGain_47 : decode cX0_narrowGain 47 = .ok (.iload_n 1, 1) := by decide +kernel
theorem dX0_narrowGain_48 : decode cX0_narrowGain 48 = .ok (.iaload, 1) := by decide +kernel
theorem dX0_narrowGain_49 : decode cX0_narrowGain 49 = .ok (.isub, 1) := by decide +kernel
theorem dX0_narrowGain_50 : decode cX0_narrowGain 50 = .ok (.istore 5, 2) := by decide +kernel
theorem dX0_narrowGain_52 : decode cX0_narrowGain 52 = .ok (.iload 4, 2) := by decide +kernel
theorem dX0_narrowGain_54 : decode cX0_narrowGain 54 = .ok (.aload_n 0, 1) := by decide +kernel
theorem dX0_narrowGain_55 : decode cX0_narrowGain 55 = .ok (.getfield 18, 3) := by decide +kernel
theorem dX0_narrowGain_58 : decode cX0_narrowGain 58 = .ok (.iload_n 3, 1) := by decide +kernel
theorem dX0_narrowGain_59 : decode cX0_narrowGain 59 = .ok (.imul, 1) := by decide +kernel
theorem dX0_narrowGain_60 : decode cX0_narrowGain 60 = .ok (.if_icmp .le 13, 3) := by decide +kernel
theorem dX0_narrowGain_63 : decode cX0_narrowGain 63 = .ok (.aload_n 0, 1) := by decide +kernel
theorem dX0_narrowGain_64 : decode cX0_narrowGain 64 = .ok (.iload 4, 2) := by decide +kernel
theorem dX0_narrowGain_66 : decode cX0_narrowGain 66 = .ok (.iload_n 3, 1) := by decide +kernel
theorem dX0_narrowGain_67 : decode cX0_narrowGain 67 = .ok (.invokestatic 46, 3) := by decide +kernel
theorem dX0_narrowGain_70 : decode cX0_narrowGain 70 = .ok (.putfield 18, 3) := by decide +kernel
theorem dX0_narrowGain_73 : decode cX0_narrowGain 73 = .ok (.iload 5, 2) := by decide +kernel
theorem dX0_narrowGain_75 : decode cX0_narrowGain 75 = .ok (.aload_n 0, 1) := by decide +kernel
theorem dX0_narrowGain_76 : decode cX0_narrowGain 76 = .ok (.getfield 22, 3) := by decide +kernel
theorem dX0_narrowGain_79 : decode cX0_narrowGain 79 = .ok (.iload_n 3, 1) := by decide +kernel
theorem dX0_narrowGain_80 : decode cX0_narrowGain 80 = .ok (.imul, 1) := by decide +kernel
theorem dX0_narrowGain_81 : decode cX0_narrowGain 81 = .ok (.if_icmp .ge 13, 3) := by decide +kernel
theorem dX0_narrowGain_84 : decode cX0_narrowGain 84 = .ok (.aload_n 0, 1) := by decide +kernel
theorem dX0_narrowGain_85 : decode cX0_narrowGain 85 = .ok (.iload 5, 2) := by decide +kernel
theorem dX0_narrowGain_87 : decode cX0_narrowGain 87 = .ok (.iload_n 3, 1) := by decide +kernel
theorem dX0_narrowGain_88 : decode cX0_narrowGain 88 = .ok (.invokestatic 49, 3) := by decide +kernel
theorem dX0_narrowGain_91 : decode cX0_narrowGain 91 = .ok (.putfield 22, 3) := by decide +kernel
theorem dX0_narrowGain_94 : decode cX0_narrowGain 94 = .ok (.iinc 2 1, 3) := by decide +kernel
theorem dX0_narrowGain_97 : decode cX0_narrowGain 97 = .ok (.goto (-85), 3) := by decide +kernel
theorem dX0_narrowGain_100 : decode cX0_narrowGain 100 = .ok (.iinc 1 1, 3) := by decide +kernel
theorem dX0_narrowGain_103 : decode cX0_narrowGain 103 = .ok (.goto (-101), 3) := by decide +kernel
theorem dX0_narrowGain_106 : decode cX0_narrowGain 106 = .ok (.return_, 1) := by decide +kernel
theorem dX0_narrowDays_0 : decode cX0_narrowDays 0 = .ok (.iconst 1, 1) := by decide +kernel
theorem dX0_narrowDays_1 : decode cX0_narrowDays 1 = .ok (.istore_n 1, 1) := by decide +kernel
theorem dX0_narrowDays_2 : decode cX0_narrowDays 2 = .ok (.iload_n 1, 1) := by decide +kernel
theorem dX0_narrowDays_3 : decode cX0_narrowDays 3 = .ok (.bipush 20, 2) := by decide +kernel
theorem dX0_narrowDays_5 : decode cX0_narrowDays 5 = .ok (.if_icmp .ge 40, 3) := by decide +kernel
theorem dX0_narrowDays_8 : decode cX0_narrowDays 8 = .ok (.aload_n 0, 1) := by decide +kernel
theorem dX0_narrowDays_9 : decode cX0_narrowDays 9 = .ok (.iload_n 1, 1) := by decide +kernel
theorem dX0_narrowDays_10 : decode cX0_narrowDays 10 = .ok (.aload_n 0, 1) := by decide +kernel
theorem dX0_narrowDays_11 : decode cX0_narrowDays 11 = .ok (.getfield 9, 3) := by decide +kernel
theorem dX0_narrowDays_14 : decode cX0_narrowDays 14 = .ok (.iload_n 1, 1) := by decide +kernel
theorem dX0_narrowDays_15 : decode cX0_narrowDays 15 = .ok (.iconst 1, 1) := by decide +kernel
theorem dX0_narrowDays_16 : decode cX0_narrowDays 16 = .ok (.isub, 1) := by decide +kernel
theorem dX0_narrowDays_17 : decode cX0_narrowDays 17 = .ok (.iaload, 1) := by decide +kernel
theorem dX0_narrowDays_18 : decode cX0_narrowDays 18 = .ok (.aload_n 0, 1) := by decide +kernel
theorem dX0_narrowDays_19 : decode cX0_narrowDays 19 = .ok (.getfield 18, 3) := by decide +kernel
theorem dX0_narrowDays_22 : decode cX0_narrowDays 22 = .ok (.iadd, 1) := by decide +kernel
theorem dX0_narrowDays_23 : decode cX0_narrowDays 23 = .ok (.aload_n 0, 1) := by decide +kernel
theorem dX0_narrowDays_24 : decode cX0_narrowDays 24 = .ok (.getfield 15, 3) := by decide +kernel
theorem dX0_narrowDays_27 : decode cX0_narrowDays 27 = .ok (.iload_n 1, 1) := by decide +kernel
theorem dX0_narrowDays_28 : decode cX0_narrowDays 28 = .ok (.iconst 1, 1) := by decide +kernel
theorem dX0_narrowDays_29 : decode cX0_narrowDays 29 = .ok (.isub, 1) := by decide +kernel
theorem dX0_narrowDays_30 : decode cX0_narrowDays 30 = .ok (.iaload, 1) := by decide +kernel
theorem dX0_narrowDays_31 : decode cX0_narrowDays 31 = .ok (.aload_n 0, 1) := by decide +kernel
theorem dX0_narrowDays_32 : decode cX0_narrowDays 32 = .ok (.getfield 22, 3) := by decide +kernel
theorem dX0_narrowDays_35 : decode cX0_narrowDays 35 = .ok (.iadd, 1) := by decide +kernel
theorem dX0_narrowDays_36 : decode cX0_narrowDays 36 = .ok (.invokevirtual 52, 3) := by decide +kernel
theorem dX0_narrowDays_39 : decode cX0_narrowDays 39 = .ok (.iinc 1 1, 3) := by decide +kernel
theorem dX0_narrowDays_42 : decode cX0_narrowDays 42 = .ok (.goto (-40), 3) := by decide +kernel
theorem dX0_narrowDays_45 : decode cX0_narrowDays 45 = .ok (.bipush 18, 2) := by decide +kernel
theorem dX0_narrowDays_47 : decode cX0_narrowDays 47 = .ok (.istore_n 1, 1) := by decide +kernel
theorem dX0_narrowDays_48 : decode cX0_narrowDays 48 = .ok (.iload_n 1, 1) := by decide +kernel
theorem dX0_narrowDays_49 : decode cX0_narrowDays 49 = .ok (.ifCond .lt 40, 3) := by decide +kernel
theorem dX0_narrowDays_52 : decode cX0_narrowDays 52 = .ok (.aload_n 0, 1) := by decide +kernel
theorem dX0_narrowDays_53 : decode cX0_narrowDays 53 = .ok (.iload_n 1, 1) := by decide +kernel
theorem dX0_narrowDays_54 : decode cX0_narrowDays 54 = .ok (.aload_n 0, 1) := by decide +kernel
theorem dX0_narrowDays_55 : decode cX0_narrowDays 55 = .ok (.getfield 9, 3) := by decide +kernel
theorem dX0_narrowDays_58 : decode cX0_narrowDays 58 = .ok (.iload_n 1, 1) := by decide +kernel
theorem dX0_narrowDays_59 : decode cX0_narrowDays 59 = .ok (.iconst 1, 1) := by decide +kernel
theorem dX0_narrowDays_60 : decode cX0_narrowDays 60 = .ok (.iadd, 1) := by decide +kernel
theorem dX0_narrowDays_61 : decode cX0_narrowDays 61 = .ok (.iaload, 1) := by decide +kernel
theorem dX0_narrowDays_62 : decode cX0_narrowDays 62 = .ok (.aload_n 0, 1) := by decide +kernel
theorem dX0_narrowDays_63 : decode cX0_narrowDays 63 = .ok (.getfield 22, 3) := by decide +kernel
theorem dX0_narrowDays_66 : decode cX0_narrowDays 66 = .ok (.isub, 1) := by decide +kernel
theorem dX0_narrowDays_67 : decode cX0_narrowDays 67 = .ok (.aload_n 0, 1) := by decide +kernel
theorem dX0_narrowDays_68 : decode cX0_narrowDays 68 = .ok (.getfield 15, 3) := by decide +kernel
theorem dX0_narrowDays_71 : decode cX0_narrowDays 71 = .ok (.iload_n 1, 1) := by decide +kernel
theorem dX0_narrowDays_72 : decode cX0_narrowDays 72 = .ok (.iconst 1, 1) := by decide +kernel
theorem dX0_narrowDays_73 : decode cX0_narrowDays 73 = .ok (.iadd, 1) := by decide +kernel
theorem dX0_narrowDays_74 : decode cX0_narrowDays 74 = .ok (.iaload, 1) := by decide +kernel
theorem dX0_narrowDays_75 : decode cX0_narrowDays 75 = .ok (.aload_n 0, 1) := by decide +kernel
theorem dX0_narrowDays_76 : decode cX0_narrowDays 76 = .ok (.getfield 18, 3) := by decide +kernel
theorem dX0_narrowDays_79 : decode cX0_narrowDays 79 = .ok (.isub, 1) := by decide +kernel
theorem dX0_narrowDays_80 : decode cX0_narrowDays 80 = .ok (.invokevirtual 52, 3) := by decide +kernel
theorem dX0_narrowDays_83 : decode cX0_narrowDays 83 = .ok (.iinc 1 (-1), 3) := by decide +kernel
theorem dX0_narrowDays_86 : decode cX0_narrowDays 86 = .ok (.goto (-38), 3) := by decide +kernel
theorem dX0_narrowDays_89 : decode cX0_narrowDays 89 = .ok (.return_, 1) := by decide +kernel
theorem dX1_init_0 : decode cX1_init 0 = .ok (.aload_n 0, 1) := by decide +kernel
theorem dX1_init_1 : decode cX1_init 1 = .ok (.invokespecial 3, 3) := by decide +kernel
theorem dX1_init_4 : decode cX1_init 4 = .ok (.aload_n 0, 1) := by decide +kernel
theorem dX1_init_5 : decode cX1_init 5 = .ok (.bipush 12, 2) := by decide +kernel
theorem dX1_init_7 : decode cX1_init 7 = .ok (.newarray .int, 2) := by decide +kernel
theorem dX1_init_9 : decode cX1_init 9 = .ok (.putfield 9, 3) := by decide +kernel
theorem dX1_init_12 : decode cX1_init 12 = .ok (.aload_n 0, 1) := by decide +kernel
theorem dX1_init_13 : decode cX1_init 13 = .ok (.bipush 12, 2) := by decide +kernel
theorem dX1_init_15 : decode cX1_init 15 = .ok (.newarray .int, 2) := by decide +kernel
theorem dX1_init_17 : decode cX1_init 17 = .ok (.putfield 15, 3) := by decide +kernel
theorem dX1_init_20 : decode cX1_init 20 = .ok (.aload_n 0, 1) := by decide +kernel
theorem dX1_init_21 : decode cX1_init 21 = .ok (.bipush 12, 2) := by decide +kernel
theorem dX1_init_23 : decode cX1_init 23 = .ok (.newarray .boolean, 2) := by decide +kernel
theorem dX1_init_25 : decode cX1_init 25 = .ok (.putfield 18, 3) := by decide +kernel
theorem dX1_init_28 : decode cX1_init 28 = .ok (.aload_n 0, 1) := by decide +kernel
theorem dX1_init_29 : decode cX1_init 29 = .ok (.bipush 12, 2) := by decide +kernel
theorem dX1_init_31 : decode cX1_init 31 = .ok (.newarray .int, 2) := by decide +kernel
theorem dX1_init_33 : decode cX1_init 33 = .ok (.putfield 22, 3) := by decide +kernel
theorem dX1_init_36 : decode cX1_init 36 = .ok (.aload_n 0, 1) := by decide +kernel
theorem dX1_init_37 : decode cX1_init 37 = .ok (.bipush 12, 2) := by decide +kernel
theorem dX1_init_39 : decode cX1_init 39 = .ok (.newarray .int, 2) := by decide +kernel
theorem dX1_init_41 : decode cX1_init 41 = .ok (.putfield 25, 3) := by decide +kernel
theorem dX1_init_44 : decode cX1_init 44 = .ok (.aload_n 0, 1) := by decide +kernel
theorem dX1_init_45 : decode cX1_init 45 = .ok (.iconst 3, 1) := by decide +kernel
theorem dX1_init_46 : decode cX1_init 46 = .ok (.newarray .int, 2) := by decide +kernel
theorem dX1_init_48 : decode cX1_init 48 = .ok (.putfield 28, 3) := by decide +kernel
theorem dX1_init_51 : decode cX1_init 51 = .ok (.aload_n 0, 1) := by decide +kernel
theorem dX1_init_52 : decode cX1_init 52 = .ok (.iconst 3, 1) := by decide +kernel
theorem dX1_init_53 : decode cX1_init 53 = .ok (.newarray .int, 2) := by decide +kernel
theorem dX1_init_55 : decode cX1_init 55 = .ok (.putfield 31, 3) := by decide +kernel
theorem dX1_init_58 : decode cX1_init 58 = .ok (.aload_n 0, 1) := by decide +kernel
theorem dX1_init_59 : decode cX1_init 59 = .ok (.iconst 3, 1) := by decide +kernel
theorem dX1_init_60 : decode cX1_init 60 = .ok (.newarray .int, 2) := by decide +kernel
theorem dX1_init_62 : decode cX1_init 62 = .ok (.putfield 34, 3) := by decide +kernel
theorem dX1_init_65 : decode cX1_init 65 = .ok (.iconst 0, 1) := by decide +kernel
theorem dX1_init_66 : decode cX1_init 66 = .ok (.istore_n 1, 1) := by decide +kernel
theorem dX1_init_67 : decode cX1_init 67 = .ok (.iload_n 1, 1) := by decide +kernel
theorem dX1_init_68 : decode cX1_init 68 = .ok (.iconst 3, 1) := by decide +kernel
theorem dX1_init_69 : decode cX1_init 69 = .ok (.if_icmp .ge 16, 3) := by decide +kernel
theorem dX1_init_72 : decode cX1_init 72 = .ok (.aload_n 0, 1) := by decide +kernel
theorem dX1_init_73 : decode cX1_init 73 = .ok (.getfield 31, 3) := by decide +kernel
theorem dX1_init_76 : decode cX1_init 76 = .ok (.iload_n 1, 1) := by decide +kernel
theorem dX1_init_77 : decode cX1_init 77 = .ok (.iconst 1, 1) := by decide +kernel
theorem dX1_init_78 : decode cX1_init 78 = .ok (.iastore, 1) := by decide +kernel
theorem dX1_init_79 : decode cX1_init 79 = .ok (.iinc 1 1, 3) := by decide +kernel
theorem dX1_init_82 : decode cX1_init 82 = .ok (.goto (-15), 3) := by decide +kernel
theorem dX1_init_85 : decode cX1_init 85 = .ok (.return_, 1) := by decide +kernel
theorem dX1_note_0 : decode cX1_note 0 = .ok (.aload_n 0, 1) := by decide +kernel
theorem dX1_note_1 : decode cX1_note 1 = .ok (.getfield 37, 3) := by decide +kernel
theorem dX1_note_4 : decode cX1_note 4 = .ok (.bipush 12, 2) := by decide +kernel
theorem dX1_note_6 : decode cX1_note 6 = .ok (.if_icmp .lt 6, 3) := by decide +kernel
theorem dX1_note_9 : decode cX1_note 9 = .ok (.bipush (-4), 2) := by decide +kernel
theorem dX1_note_11 : decode cX1_note 11 = .ok (.ireturn, 1) := by decide +kernel
theorem dX1_note_12 : decode cX1_note 12 = .ok (.aload_n 0, 1) := by decide +kernel
theorem dX1_note_13 : decode cX1_note 13 = .ok (.getfield 9, 3) := by decide +kernel
theorem dX1_note_16 : decode cX1_note 16 = .ok (.aload_n 0, 1) := by decide +kernel
theorem dX1_note_17 : decode cX1_note 17 = .ok (.getfield 37, 3) := by decide +kernel
theorem dX1_note_20 : decode cX1_note 20 = .ok (.iload_n 1, 1) := by decide +kernel
theorem dX1_note_21 : decode cX1_note 21 = .ok (.iastore, 1) := by decide +kernel
theorem dX1_note_22 : decode cX1_note 22 = .ok (.aload_n 0, 1) := by decide +kernel
theorem dX1_note_23 : decode cX1_note 23 = .ok (.getfield 15, 3) := by decide +kernel
theorem dX1_note_26 : decode cX1_note 26 = .ok (.aload_n 0, 1) := by decide +kernel
theorem dX1_note_27 : decode cX1_note 27 = .ok (.getfield 37, 3) := by decide +kernel
theorem dX1_note_30 : decode cX1_note 30 = .ok (.iload_n 2, 1) := by decide +kernel
theorem dX1_note_31 : decode cX1_note 31 = .ok (.iastore, 1) := by decide +kernel
theorem dX1_note_32 : decode cX1_note 32 = .ok (.aload_n 0, 1) := by decide +kernel
theorem dX1_note_33 : decode cX1_note 33 = .ok (.getfield 18, 3) := by decide +kernel
theorem dX1_note_36 : decode cX1_note 36 = .ok (.aload_n 0, 1) := by decide +kernel
theorem dX1_note_37 : decode cX1_note 37 = .ok (.getfield 37, 3) := by decide +kernel
theorem dX1_note_40 : decode cX1_note 40 = .ok (.iload_n 3, 1) := by decide +kernel
theorem dX1_note_41 : decode cX1_note 41 = .ok (.bastore, 1) := by decide +kernel
theorem dX1_note_42 : decode cX1_note 42 = .ok (.aload_n 0, 1) := by decide +kernel
theorem dX1_note_43 : decode cX1_note 43 = .ok (.getfield 22, 3) := by decide +kernel
theorem dX1_note_46 : decode cX1_note 46 = .ok (.aload_n 0, 1) := by decide +kernel
theorem dX1_note_47 : decode cX1_note 47 = .ok (.getfield 37, 3) := by decide +kernel
theorem dX1_note_50 : decode cX1_note 50 = .ok (.iload 4, 2) := by decide +kernel
theorem dX1_note_52 : decode cX1_note 52 = .ok (.iastore, 1) := by decide +kernel
theorem dX1_note_53 : decode cX1_note 53 = .ok (.aload_n 0, 1) := by decide +kernel
theorem dX1_note_54 : decode cX1_note 54 = .ok (.getfield 25, 3) := by decide +kernel
theorem dX1_note_57 : decode cX1_note 57 = .ok (.aload_n 0, 1) := by decide +kernel
theorem dX1_note_58 : decode cX1_note 58 = .ok (.getfield 37, 3) := by decide +kernel
theorem dX1_note_61 : decode cX1_note 61 = .ok (.iload 5, 2) := by decide +kernel
theorem dX1_note_63 : decode cX1_note 63 = .ok (.iastore, 1) := by decide +kernel
theorem dX1_note_64 : decode cX1_note 64 = .ok (.aload_n 0, 1) := by decide +kernel
theorem dX1_note_65 : decode cX1_note 65 = .ok (.dup, 1) := by decide +kernel
theorem dX1_note_66 : decode cX1_note 66 = .ok (.getfield 37, 3) := by decide +kernel
theorem dX1_note_69 : decode cX1_note 69 = .ok (.iconst 1, 1) := by decide +kernel
theorem dX1_note_70 : decode cX1_note 70 = .ok (.iadd, 1) := by decide +kernel
theorem dX1_note_71 : decode cX1_note 71 = .ok (.putfield 37, 3) := by decide +kernel
theorem dX1_note_74 : decode cX1_note 74 = .ok (.aload_n 0, 1) := by decide +kernel
theorem dX1_note_75 : decode cX1_note 75 = .ok (.getfield 37, 3) := by decide +kernel
theorem dX1_note_78 : decode cX1_note 78 = .ok (.ireturn, 1) := by decide +kernel
theorem dX2_init_0 : decode cX2_init 0 = .ok (.aload_n 0, 1) := by decide +kernel
theorem dX2_init_1 : decode cX2_init 1 = .ok (.invokespecial 1, 3) := by decide +kernel
theorem dX2_init_4 : decode cX2_init 4 = .ok (.aload_n 0, 1) := by decide +kernel
theorem dX2_init_5 : decode cX2_init 5 = .ok (.new 7, 3) := by decide +kernel
theorem dX2_init_8 : decode cX2_init 8 = .ok (.dup, 1) := by decide +kernel
theorem dX2_init_9 : decode cX2_init 9 = .ok (.invokespecial 9, 3) := by decide +kernel
theorem dX2_init_12 : decode cX2_init 12 = .ok (.putfield 10, 3) := by decide +kernel
theorem dX2_init_15 : decode cX2_init 15 = .ok (.aload_n 0, 1) := by decide +kernel
theorem dX2_init_16 : decode cX2_init 16 = .ok (.new 7, 3) := by decide +kernel
theorem dX2_init_19 : decode cX2_init 19 = .ok (.dup, 1) := by decide +kernel
theorem dX2_init_20 : decode cX2_init 20 = .ok (.invokespecial 9, 3) := by decide +kernel
theorem dX2_init_23 : decode cX2_init 23 = .ok (.putfield 16, 3) := by decide +kernel
theorem dX2_init_26 : decode cX2_init 26 = .ok (.aload_n 0, 1) := by decide +kernel
theorem dX2_init_27 : decode cX2_init 27 = .ok (.new 7, 3) := by decide +kernel
theorem dX2_init_30 : decode cX2_init 30 = .ok (.dup, 1) := by decide +kernel
theorem dX2_init_31 : decode cX2_init 31 = .ok (.invokespecial 9, 3) := by decide +kernel
theorem dX2_init_34 : decode cX2_init 34 = .ok (.putfield 19, 3) := by decide +kernel
theorem dX2_init_37 : decode cX2_init 37 = .ok (.aload_n 0, 1) := by decide +kernel
theorem dX2_init_38 : decode cX2_init 38 = .ok (.iconst 2, 1) := by decide +kernel
theorem dX2_init_39 : decode cX2_init 39 = .ok (.newarray .int, 2) := by decide +kernel
theorem dX2_init_41 : decode cX2_init 41 = .ok (.putfield 22, 3) := by decide +kernel
theorem dX2_init_44 : decode cX2_init 44 = .ok (.aload_n 0, 1) := by decide +kernel
theorem dX2_init_45 : decode cX2_init 45 = .ok (.iconst 2, 1) := by decide +kernel
theorem dX2_init_46 : decode cX2_init 46 = .ok (.newarray .int, 2) := by decide +kernel
theorem dX2_init_48 : decode cX2_init 48 = .ok (.putfield 26, 3) := by decide +kernel
theorem dX2_init_51 : decode cX2_init 51 = .ok (.aload_n 0, 1) := by decide +kernel
theorem dX2_init_52 : decode cX2_init 52 = .ok (.bipush 20, 2) := by decide +kernel
theorem dX2_init_54 : decode cX2_init 54 = .ok (.newarray .int, 2) := by decide +kernel
theorem dX2_init_56 : decode cX2_init 56 = .ok (.putfield 29, 3) := by decide +kernel
theorem dX2_init_59 : decode cX2_init 59 = .ok (.aload_n 0, 1) := by decide +kernel
theorem dX2_init_60 : decode cX2_init 60 = .ok (.bipush 20, 2) := by decide +kernel
theorem dX2_init_62 : decode cX2_init 62 = .ok (.newarray .int, 2) := by decide +kernel
theorem dX2_init_64 : decode cX2_init 64 = .ok (.putfield 32, 3) := by decide +kernel
theorem dX2_init_67 : decode cX2_init 67 = .ok (.aload_n 0, 1) := by decide +kernel
theorem dX2_init_68 : decode cX2_init 68 = .ok (.iconst 4, 1) := by decide +kernel
theorem dX2_init_69 : decode cX2_init 69 = .ok (.anewarray 35, 3) := by decide +kernel
theorem dX2_init_72 : decode cX2_init 72 = .ok (.putfield 37, 3) := by decide +kernel
theorem dX2_init_75 : decode cX2_init 75 = .ok (.aload_n 0, 1) := by decide +kernel
theorem dX2_init_76 : decode cX2_init 76 = .ok (.iconst 4, 1) := by decide +kernel
theorem dX2_init_77 : decode cX2_init 77 = .ok (.newarray .int, 2) := by decide +kernel
theorem dX2_init_79 : decode cX2_init 79 = .ok (.putfield 41, 3) := by decide +kernel
theorem dX2_init_82 : decode cX2_init 82 = .ok (.aload_n 0, 1) := by decide +kernel
theorem dX2_init_83 : decode cX2_init 83 = .ok (.iconst 4, 1) := by decide +kernel
theorem dX2_init_84 : decode cX2_init 84 = .ok (.newarray .int, 2) := by decide +kernel
theorem dX2_init_86 : decode cX2_init 86 = .ok (.putfield 44, 3) := by decide +kernel
theorem dX2_init_89 : decode cX2_init 89 = .ok (.aload_n 0, 1) := by decide +kernel
theorem dX2_init_90 : decode cX2_init 90 = .ok (.iconst 3, 1) := by decide +kernel
theorem dX2_init_91 : decode cX2_init 91 = .ok (.newarray .int, 2) := by decide +kernel
theorem dX2_init_93 : decode cX2_init 93 = .ok (.putfield 47, 3) := by decide +kernel
theorem dX2_init_96 : decode cX2_init 96 = .ok (.aload_n 0, 1) := by decide +kernel
theorem dX2_init_97 : decode cX2_init 97 = .ok (.iconst 3, 1) := by decide +kernel
theorem dX2_init_98 : decode cX2_init 98 = .ok (.newarray .int, 2) := by decide +kernel
theorem dX2_init_100 : decode cX2_init 100 = .ok (.putfield 50, 3) := by decide +kernel
theorem dX2_init_103 : decode cX2_init 103 = .ok (.aload_n 0, 1) := by decide +kernel
theorem dX2_init_104 : decode cX2_init 104 = .ok (.iconst 2, 1) := by decide +kernel
theorem dX2_init_105 : decode cX2_init 105 = .ok (.putfield 53, 3) := by decide +kernel
theorem dX2_init_108 : decode cX2_init 108 = .ok (.aload_n 0, 1) := by decide +kernel
theorem dX2_init_109 : decode cX2_init 109 = .ok (.getfield 10, 3) := by decide +kernel
theorem dX2_init_112 : decode cX2_init 112 = .ok (.sipush 600, 3) := by decide +kernel
theorem dX2_init_115 : decode cX2_init 115 = .ok (.bipush 20, 2) := by decide +kernel
theorem dX2_init_117 : decode cX2_init 117 = .ok (.invokevirtual 57, 3) := by decide +kernel
theorem dX2_init_120 : decode cX2_init 120 = .ok (.iconst 0, 1) := by decide +kernel
theorem dX2_init_121 : decode cX2_init 121 = .ok (.istore_n 1, 1) := by decide +kernel
theorem dX2_init_122 : decode cX2_init 122 = .ok (.iload_n 1, 1) := by decide +kernel
theorem dX2_init_123 : decode cX2_init 123 = .ok (.bipush 20, 2) := by decide +kernel
theorem dX2_init_125 : decode cX2_init 125 = .ok (.if_icmp .ge 16, 3) := by decide +kernel
theorem dX2_init_128 : decode cX2_init 128 = .ok (.aload_n 0, 1) := by decide +kernel
theorem dX2_init_129 : decode cX2_init 129 = .ok (.getfield 32, 3) := by decide +kernel
theorem dX2_init_132 : decode cX2_init 132 = .ok (.iload_n 1, 1) := by decide +kernel
theorem dX2_init_133 : decode cX2_init 133 = .ok (.iconst 5, 1) := by decide +kernel
theorem dX2_init_134 : decode cX2_init 134 = .ok (.iastore, 1) := by decide +kernel
theorem dX2_init_135 : decode cX2_init 135 = .ok (.iinc 1 1, 3) := by decide +kernel
theorem dX2_init_138 : decode cX2_init 138 = .ok (.goto (-16), 3) := by decide +kernel
theorem dX2_init_141 : decode cX2_init 141 = .ok (.iconst 0, 1) := by decide +kernel
theorem dX2_init_142 : decode cX2_init 142 = .ok (.istore_n 1, 1) := by decide +kernel
theorem dX2_init_143 : decode cX2_init 143 = .ok (.iload_n 1, 1) := by decide +kernel
theorem dX2_init_144 : decode cX2_init 144 = .ok (.iconst 4, 1) := by decide +kernel
theorem dX2_init_145 : decode cX2_init 145 = .ok (.if_icmp .ge 22, 3) := by decide +kernel
theorem dX2_init_148 : decode cX2_init 148 = .ok (.aload_n 0, 1) := by decide +kernel
theorem dX2_init_149 : decode cX2_init 149 = .ok (.getfield 37, 3) := by decide +kernel
theorem dX2_init_152 : decode cX2_init 152 = .ok (.iload_n 1, 1) := by decide +kernel
theorem dX2_init_153 : decode cX2_init 153 = .ok (.new 35, 3) := by decide +kernel
theorem dX2_init_156 : decode cX2_init 156 = .ok (.dup, 1) := by decide +kernel
theorem dX2_init_157 : decode cX2_init 157 = .ok (.invokespecial 61, 3) := by decide +kernel
theorem dX2_init_160 : decode cX2_init 160 = .ok (.aastore, 1) := by decide +kernel
theorem dX2_init_161 : decode cX2_init 161 = .ok (.iinc 1 1, 3) := by decide +kernel
theorem dX2_init_164 : decode cX2_init 164 = .ok (.goto (-21), 3) := by decide +kernel
theorem dX2_init_167 : decode cX2_init 167 = .ok (.iconst 0, 1) := by decide +kernel
theorem dX2_init_168 : decode cX2_init 168 = .ok (.istore_n 1, 1) := by decide +kernel
theorem dX2_init_169 : decode cX2_init 169 = .ok (.iload_n 1, 1) := by decide +kernel
theorem dX2_init_170 : decode cX2_init 170 = .ok (.iconst 4, 1) := by decide +kernel
theorem dX2_init_171 : decode cX2_init 171 = .ok (.if_icmp .ge 25, 3) := by decide +kernel
theorem dX2_init_174 : decode cX2_init 174 = .ok (.aload_n 0, 1) := by decide +kernel
theorem dX2_init_175 : decode cX2_init 175 = .ok (.getfield 41, 3) := by decide +kernel
theorem dX2_init_178 : decode cX2_init 178 = .ok (.iload_n 1, 1) := by decide +kernel
theorem dX2_init_179 : decode cX2_init 179 = .ok (.ldc 62, 2) := by decide +kernel
theorem dX2_init_181 : decode cX2_init 181 = .ok (.iastore, 1) := by decide +kernel
theorem dX2_init_182 : decode cX2_init 182 = .ok (.aload_n 0, 1) := by decide +kernel
theorem dX2_init_183 : decode cX2_init 183 = .ok (.getfield 44, 3) := by decide +kernel
theorem dX2_init_186 : decode cX2_init 186 = .ok (.iload_n 1, 1) := by decide +kernel
theorem dX2_init_187 : decode cX2_init 187 = .ok (.ldc 63, 2) := by decide +kernel
theorem dX2_init_189 : decode cX2_init 189 = .ok (.iastore, 1) := by decide +kernel
theorem dX2_init_190 : decode cX2_init 190 = .ok (.iinc 1 1, 3) := by decide +kernel
theorem dX2_init_193 : decode cX2_init 193 = .ok (.goto (-24), 3) := by decide +kernel
theorem dX2_init_196 : decode cX2_init 196 = .ok (.return_, 1) := by decide +kernel
theorem dX2_star_0 : decode cX2_star 0 = .ok (.iload_n 1, 1) := by decide +kernel
theorem dX2_star_1 : decode cX2_star 1 = .ok (.invokestatic 64, 3) := by decide +kernel
theorem dX2_star_4 : decode cX2_star 4 = .ok (.ifCond .eq 5, 3) := by decide +kernel
theorem dX2_star_7 : decode cX2_star 7 = .ok (.iconst (-1), 1) := by decide +kernel
theorem dX2_star_8 : decode cX2_star 8 = .ok (.ireturn, 1) := by decide +kernel
theorem dX2_star_9 : decode cX2_star 9 = .ok (.iload_n 2, 1) := by decide +kernel
theorem dX2_star_10 : decode cX2_star 10 = .ok (.sipush 600, 3) := by decide +kernel
theorem dX2_star_13 : decode cX2_star 13 = .ok (.invokestatic 68, 3) := by decide +kernel
theorem dX2_star_16 : decode cX2_star 16 = .ok (.ifCond .eq 6, 3) := by decide +kernel
theorem dX2_star_19 : decode cX2_star 19 = .ok (.bipush (-2), 2) := by decide +kernel
theorem dX2_star_21 : decode cX2_star 21 = .ok (.ireturn, 1) := by decide +kernel
theorem dX2_star_22 : decode cX2_star 22 = .ok (.aload_n 0, 1) := by decide +kernel
theorem dX2_star_23 : decode cX2_star 23 = .ok (.getfield 72, 3) := by decide +kernel
theorem dX2_star_26 : decode cX2_star 26 = .ok (.bipush 20, 2) := by decide +kernel
theorem dX2_star_28 : decode cX2_star 28 = .ok (.if_icmp .lt 6, 3) := by decide +kernel
theorem dX2_star_31 : decode cX2_star 31 = .ok (.bipush (-4), 2) := by decide +kernel
theorem dX2_star_33 : decode cX2_star 33 = .ok (.ireturn, 1) := by decide +kernel
theorem dX2_star_34 : decode cX2_star 34 = .ok (.aload_n 0, 1) := by decide +kernel
theorem dX2_star_35 : decode cX2_star 35 = .ok (.getfield 16, 3) := by decide +kernel
theorem dX2_star_38 : decode cX2_star 38 = .ok (.aload_n 0, 1) := by decide +kernel
theorem dX2_star_39 : decode cX2_star 39 = .ok (.getfield 10, 3) := by decide +kernel
theorem dX2_star_42 : decode cX2_star 42 = .ok (.invokevirtual 75, 3) := by decide +kernel
theorem dX2_star_45 : decode cX2_star 45 = .ok (.aload_n 0, 1) := by decide +kernel
theorem dX2_star_46 : decode cX2_star 46 = .ok (.getfield 16, 3) := by decide +kernel
theorem dX2_star_49 : decode cX2_star 49 = .ok (.iload_n 1, 1) := by decide +kernel
theorem dX2_star_50 : decode cX2_star 50 = .ok (.iload_n 2, 1) := by decide +kernel
theorem dX2_star_51 : decode cX2_star 51 = .ok (.aload_n 0, 1) := by decide +kernel
theorem dX2_star_52 : decode cX2_star 52 = .ok (.getfield 53, 3) := by decide +kernel
theorem dX2_star_55 : decode cX2_star 55 = .ok (.isub, 1) := by decide +kernel
theorem dX2_star_56 : decode cX2_star 56 = .ok (.iload_n 2, 1) := by decide +kernel
theorem dX2_star_57 : decode cX2_star 57 = .ok (.aload_n 0, 1) := by decide +kernel
theorem dX2_star_58 : decode cX2_star 58 = .ok (.getfield 53, 3) := by decide +kernel
theorem dX2_star_61 : decode cX2_star 61 = .ok (.iadd, 1) := by decide +kernel
theorem dX2_star_62 : decode cX2_star 62 = .ok (.invokevirtual 79, 3) := by decide +kernel
theorem dX2_star_65 : decode cX2_star 65 = .ok (.aload_n 0, 1) := by decide +kernel
theorem dX2_star_66 : decode cX2_star 66 = .ok (.getfield 16, 3) := by decide +kernel
theorem dX2_star_69 : decode cX2_star 69 = .ok (.invokevirtual 83, 3) := by decide +kernel
theorem dX2_star_72 : decode cX2_star 72 = .ok (.ifCond .ne 6, 3) := by decide +kernel
theorem dX2_star_75 : decode cX2_star 75 = .ok (.bipush (-5), 2) := by decide +kernel
theorem dX2_star_77 : decode cX2_star 77 = .ok (.ireturn, 1) := by decide +kernel
theorem dX2_star_78 : decode cX2_star 78 = .ok (.aload_n 0, 1) := by decide +kernel
theorem dX2_star_79 : decode cX2_star 79 = .ok (.getfield 10, 3) := by decide +kernel
theorem dX2_star_82 : decode cX2_star 82 = .ok (.aload_n 0, 1) := by decide +kernel
theorem dX2_star_83 : decode cX2_star 83 = .ok (.getfield 16, 3) := by decide +kernel
theorem dX2_star_86 : decode cX2_star 86 = .ok (.invokevirtual 75, 3) := by decide +kernel
theorem dX2_star_89 : decode cX2_star 89 = .ok (.aload_n 0, 1) := by decide +kernel
theorem dX2_star_90 : decode cX2_star 90 = .ok (.dup, 1) := by decide +kernel
theorem dX2_star_91 : decode cX2_star 91 = .ok (.getfield 72, 3) := by decide +kernel
theorem dX2_star_94 : decode cX2_star 94 = .ok (.iconst 1, 1) := by decide +kernel
theorem dX2_star_95 : decode cX2_star 95 = .ok (.iadd, 1) := by decide +kernel
theorem dX2_star_96 : decode cX2_star 96 = .ok (.putfield 72, 3) := by decide +kernel
theorem dX2_star_99 : decode cX2_star 99 = .ok (.aload_n 0, 1) := by decide +kernel
theorem dX2_star_100 : decode cX2_star 100 = .ok (.getfield 72, 3) := by decide +kernel
theorem dX2_star_103 : decode cX2_star 103 = .ok (.ireturn, 1) := by decide +kernel
theorem dX2_care_0 : decode cX2_care 0 = .ok (.iload_n 1, 1) := by decide +kernel
theorem dX2_care_1 : decode cX2_care 1 = .ok (.iconst 0, 1) := by decide +kernel
theorem dX2_care_2 : decode cX2_care 2 = .ok (.bipush 9, 2) := by decide +kernel
theorem dX2_care_4 : decode cX2_care 4 = .ok (.invokestatic 87, 3) := by decide +kernel
theorem dX2_care_7 : decode cX2_care 7 = .ok (.ifCond .eq 6, 3) := by decide +kernel
theorem dX2_care_10 : decode cX2_care 10 = .ok (.bipush (-2), 2) := by decide +kernel
theorem dX2_care_12 : decode cX2_care 12 = .ok (.ireturn, 1) := by decide +kernel
theorem dX2_care_13 : decode cX2_care 13 = .ok (.aload_n 0, 1) := by decide +kernel
theorem dX2_care_14 : decode cX2_care 14 = .ok (.getfield 53, 3) := by decide +kernel
theorem dX2_care_17 : decode cX2_care 17 = .ok (.istore_n 2, 1) := by decide +kernel
theorem dX2_care_18 : decode cX2_care 18 = .ok (.aload_n 0, 1) := by decide +kernel
theorem dX2_care_19 : decode cX2_care 19 = .ok (.iload_n 1, 1) := by decide +kernel
theorem dX2_care_20 : decode cX2_care 20 = .ok (.putfield 53, 3) := by decide +kernel
theorem dX2_care_23 : decode cX2_care 23 = .ok (.iload_n 2, 1) := by decide +kernel
theorem dX2_care_24 : decode cX2_care 24 = .ok (.ireturn, 1) := by decide +kernel
theorem dX2_off_0 : decode cX2_off 0 = .ok (.iload_n 1, 1) := by decide +kernel
theorem dX2_off_1 : decode cX2_off 1 = .ok (.invokestatic 64, 3) := by decide +kernel
theorem dX2_off_4 : decode cX2_off 4 = .ok (.ifCond .eq 6, 3) := by decide +kernel
theorem dX2_off_7 : decode cX2_off 7 = .ok (.ldc 91, 2) := by decide +kernel
theorem dX2_off_9 : decode cX2_off 9 = .ok (.ireturn, 1) := by decide +kernel
theorem dX2_off_10 : decode cX2_off 10 = .ok (.iload_n 2, 1) := by decide +kernel
theorem dX2_off_11 : decode cX2_off 11 = .ok (.invokestatic 92, 3) := by decide +kernel
theorem dX2_off_14 : decode cX2_off 14 = .ok (.ifCond .eq 6, 3) := by decide +kernel
theorem dX2_off_17 : decode cX2_off 17 = .ok (.ldc 95, 2) := by decide +kernel
theorem dX2_off_19 : decode cX2_off 19 = .ok (.ireturn, 1) := by decide +kernel
theorem dX2_off_20 : decode cX2_off 20 = .ok (.iload_n 2, 1) := by decide +kernel
theorem dX2_off_21 : decode cX2_off 21 = .ok (.ifCond .ne 15, 3) := by decide +kernel
theorem dX2_off_24 : decode cX2_off 24 = .ok (.aload_n 0, 1) := by decide +kernel
theorem dX2_off_25 : decode cX2_off 25 = .ok (.getfield 10, 3) := by decide +kernel
theorem dX2_off_28 : decode cX2_off 28 = .ok (.getfield 96, 3) := by decide +kernel
theorem dX2_off_31 : decode cX2_off 31 = .ok (.iload_n 1, 1) := by decide +kernel
theorem dX2_off_32 : decode cX2_off 32 = .ok (.iaload, 1) := by decide +kernel
theorem dX2_off_33 : decode cX2_off 33 = .ok (.goto 12, 3) := by decide +kernel
theorem dX2_off_36 : decode cX2_off 36 = .ok (.aload_n 0, 1) := by decide +kernel
theorem dX2_off_37 : decode cX2_off 37 = .ok (.getfield 10, 3) := by decide +kernel
theorem dX2_off_40 : decode cX2_off 40 = .ok (.getfield 99, 3) := by decide +kernel
theorem dX2_off_43 : decode cX2_off 43 = .ok (.iload_n 1, 1) := by decide +kernel
theorem dX2_off_44 : decode cX2_off 44 = .ok (.iaload, 1) := by decide +kernel
theorem dX2_off_45 : decode cX2_off 45 = .ok (.ireturn, 1) := by decide +kernel
theorem dX2_rate_0 : decode cX2_rate 0 = .ok (.iload_n 1, 1) := by decide +kernel
theorem dX2_rate_1 : decode cX2_rate 1 = .ok (.invokestatic 92, 3) := by decide +kernel
theorem dX2_rate_4 : decode cX2_rate 4 = .ok (.ifCond .eq 6, 3) := by decide +kernel
theorem dX2_rate_7 : decode cX2_rate 7 = .ok (.ldc 95, 2) := by decide +kernel
theorem dX2_rate_9 : decode cX2_rate 9 = .ok (.ireturn, 1) := by decide +kernel
theorem dX2_rate_10 : decode cX2_rate 10 = .ok (.iload_n 1, 1) := by decide +kernel
theorem dX2_rate_11 : decode cX2_rate 11 = .ok (.ifCond .ne 13, 3) := by decide +kernel
theorem dX2_rate_14 : decode cX2_rate 14 = .ok (.aload_n 0, 1) := by decide +kernel
theorem dX2_rate_15 : decode cX2_rate 15 = .ok (.getfield 10, 3) := by decide +kernel
theorem dX2_rate_18 : decode cX2_rate 18 = .ok (.getfield 102, 3) := by decide +kernel
theorem dX2_rate_21 : decode cX2_rate 21 = .ok (.goto 10, 3) := by decide +kernel
theorem dX2_rate_24 : decode cX2_rate 24 = .ok (.aload_n 0, 1) := by decide +kernel
theorem dX2_rate_25 : decode cX2_rate 25 = .ok (.getfield 10, 3) := by decide +kernel
theorem dX2_rate_28 : decode cX2_rate 28 = .ok (.getfield 105, 3) := by decide +kernel
theorem dX2_rate_31 : decode cX2_rate 31 = .ok (.ireturn, 1) := by decide +kernel
theorem dX2_slow_0 : decode cX2_slow 0 = .ok (.iload_n 1, 1) := by decide +kernel
theorem dX2_slow_1 : decode cX2_slow 1 = .ok (.iconst 0, 1) := by decide +kernel
theorem dX2_slow_2 : decode cX2_slow 2 = .ok (.iconst 1, 1) := by decide +kernel
theorem dX2_slow_3 : decode cX2_slow 3 = .ok (.invokestatic 87, 3) := by decide +kernel
theorem dX2_slow_6 : decode cX2_slow 6 = .ok (.ifCond .ne 23, 3) := by decide +kernel
theorem dX2_slow_9 : decode cX2_slow 9 = .ok (.iload_n 2, 1) := by decide +kernel
theorem dX2_slow_10 : decode cX2_slow 10 = .ok (.iconst 0, 1) := by decide +kernel
theorem dX2_slow_11 : decode cX2_slow 11 = .ok (.bipush 50, 2) := by decide +kernel
theorem dX2_slow_13 : decode cX2_slow 13 = .ok (.invokestatic 87, 3) := by decide +kernel
theorem dX2_slow_16 : decode cX2_slow 16 = .ok (.ifCond .ne 13, 3) := by decide +kernel
theorem dX2_slow_19 : decode cX2_slow 19 = .ok (.iload_n 3, 1) := by decide +kernel
theorem dX2_slow_20 : decode cX2_slow 20 = .ok (.iload_n 2, 1) := by decide +kernel
theorem dX2_slow_21 : decode cX2_slow 21 = .ok (.bipush 50, 2) := by decide +kernel
theorem dX2_slow_23 : decode cX2_slow 23 = .ok (.invokestatic 87, 3) := by decide +kernel
theorem dX2_slow_26 : decode cX2_slow 26 = .ok (.ifCond .eq 6, 3) := by decide +kernel
theorem dX2_slow_29 : decode cX2_slow 29 = .ok (.bipush (-2), 2) := by decide +kernel
theorem dX2_slow_31 : decode cX2_slow 31 = .ok (.ireturn, 1) := by decide +kernel
theorem dX2_slow_32 : decode cX2_slow 32 = .ok (.bipush 100, 2) := by decide +kernel
theorem dX2_slow_34 : decode cX2_slow 34 = .ok (.aload_n 0, 1) := by decide +kernel
theorem dX2_slow_35 : decode cX2_slow 35 = .ok (.getfield 22, 3) := by decide +kernel
theorem dX2_slow_38 : decode cX2_slow 38 = .ok (.iload_n 1, 1) := by decide +kernel
theorem dX2_slow_39 : decode cX2_slow 39 = .ok (.iaload, 1) := by decide +kernel
theorem dX2_slow_40 : decode cX2_slow 40 = .ok (.imul, 1) := by decide +kernel
theorem dX2_slow_41 : decode cX2_slow 41 = .ok (.aload_n 0, 1) := by decide +kernel
theorem dX2_slow_42 : decode cX2_slow 42 = .ok (.getfield 26, 3) := by decide +kernel
theorem dX2_slow_45 : decode cX2_slow 45 = .ok (.iload_n 1, 1) := by decide +kernel
theorem dX2_slow_46 : decode cX2_slow 46 = .ok (.iaload, 1) := by decide +kernel
theorem dX2_slow_47 : decode cX2_slow 47 = .ok (.iadd, 1) := by decide +kernel
theorem dX2_slow_48 : decode cX2_slow 48 = .ok (.istore 4, 2) := by decide +kernel
theorem dX2_slow_50 : decode cX2_slow 50 = .ok (.aload_n 0, 1) := by decide +kernel
theorem dX2_slow_51 : decode cX2_slow 51 = .ok (.getfield 22, 3) := by decide +kernel
theorem dX2_slow_54 : decode cX2_slow 54 = .ok (.iload_n 1, 1) := by decide +kernel
theorem dX2_slow_55 : decode cX2_slow 55 = .ok (.iload_n 2, 1) := by decide +kernel
theorem dX2_slow_56 : decode cX2_slow 56 = .ok (.iastore, 1) := by decide +kernel
theorem dX2_slow_57 : decode cX2_slow 57 = .ok (.aload_n 0, 1) := by decide +kernel
theorem dX2_slow_58 : decode cX2_slow 58 = .ok (.getfield 26, 3) := by decide +kernel
theorem dX2_slow_61 : decode cX2_slow 61 = .ok (.iload_n 1, 1) := by decide +kernel
theorem dX2_slow_62 : decode cX2_slow 62 = .ok (.iload_n 3, 1) := by decide +kernel
theorem dX2_slow_63 : decode cX2_slow 63 = .ok (.iastore, 1) := by decide +kernel
theorem dX2_slow_64 : decode cX2_slow 64 = .ok (.iload 4, 2) := by decide +kernel
theorem dX2_slow_66 : decode cX2_slow 66 = .ok (.ireturn, 1) := by decide +kernel
theorem dX2_slip_0 : decode cX2_slip 0 = .ok (.iload_n 1, 1) := by decide +kernel
theorem dX2_slip_1 : decode cX2_slip 1 = .ok (.invokestatic 64, 3) := by decide +kernel
theorem dX2_slip_4 : decode cX2_slip 4 = .ok (.ifCond .eq 6, 3) := by decide +kernel
theorem dX2_slip_7 : decode cX2_slip 7 = .ok (.ldc 91, 2) := by decide +kernel
theorem dX2_slip_9 : decode cX2_slip 9 = .ok (.ireturn, 1) := by decide +kernel
theorem dX2_slip_10 : decode cX2_slip 10 = .ok (.iload_n 2, 1) := by decide +kernel
theorem dX2_slip_11 : decode cX2_slip 11 = .ok (.bipush 60, 2) := by decide +kernel
theorem dX2_slip_13 : decode cX2_slip 13 = .ok (.invokestatic 68, 3) := by decide +kernel
theorem dX2_slip_16 : decode cX2_slip 16 = .ok (.ifCond .eq 6, 3) := by decide +kernel
theorem dX2_slip_19 : decode cX2_slip 19 = .ok (.ldc 95, 2) := by decide +kernel
theorem dX2_slip_21 : decode cX2_slip 21 = .ok (.ireturn, 1) := by decide +kernel
theorem dX2_slip_22 : decode cX2_slip 22 = .ok (.aload_n 0, 1) := by decide +kernel
theorem dX2_slip_23 : decode cX2_slip 23 = .ok (.getfield 29, 3) := by decide +kernel
theorem dX2_slip_26 : decode cX2_slip 26 = .ok (.iload_n 1, 1) := by decide +kernel
theorem dX2_slip_27 : decode cX2_slip 27 = .ok (.iaload, 1) := by decide +kernel
theorem dX2_slip_28 : decode cX2_slip 28 = .ok (.istore_n 3, 1) := by decide +kernel
theorem dX2_slip_29 : decode cX2_slip 29 = .ok (.aload_n 0, 1) := by decide +kernel
theorem dX2_slip_30 : decode cX2_slip 30 = .ok (.getfield 29, 3) := by decide +kernel
theorem dX2_slip_33 : decode cX2_slip 33 = .ok (.iload_n 1, 1) := by decide +kernel
theorem dX2_slip_34 : decode cX2_slip 34 = .ok (.iload_n 2, 1) := by decide +kernel
theorem dX2_slip_35 : decode cX2_slip 35 = .ok (.iastore, 1) := by decide +kernel
theorem dX2_slip_36 : decode cX2_slip 36 = .ok (.iload_n 3, 1) := by decide +kernel
theorem dX2_slip_37 : decode cX2_slip 37 = .ok (.ireturn, 1) := by decide +kernel
theorem dX2_back_0 : decode cX2_back 0 = .ok (.iload_n 1, 1) := by decide +kernel
theorem dX2_back_1 : decode cX2_back 1 = .ok (.invokestatic 64, 3) := by decide +kernel
theorem dX2_back_4 : decode cX2_back 4 = .ok (.ifCond .eq 5, 3) := by decide +kernel
theorem dX2_back_7 : decode cX2_back 7 = .ok (.iconst (-1), 1) := by decide +kernel
theorem dX2_back_8 : decode cX2_back 8 = .ok (.ireturn, 1) := by decide +kernel
theorem dX2_back_9 : decode cX2_back 9 = .ok (.aload_n 0, 1) := by decide +kernel
theorem dX2_back_10 : decode cX2_back 10 = .ok (.getfield 108, 3) := by decide +kernel
theorem dX2_back_13 : decode cX2_back 13 = .ok (.iload_n 1, 1) := by decide +kernel
theorem dX2_back_14 : decode cX2_back 14 = .ok (.invokestatic 111, 3) := by decide +kernel
theorem dX2_back_17 : decode cX2_back 17 = .ok (.istore_n 3, 1) := by decide +kernel
theorem dX2_back_18 : decode cX2_back 18 = .ok (.aload_n 0, 1) := by decide +kernel
theorem dX2_back_19 : decode cX2_back 19 = .ok (.aload_n 0, 1) := by decide +kernel
theorem dX2_back_20 : decode cX2_back 20 = .ok (.getfield 108, 3) := by decide +kernel
theorem dX2_back_23 : decode cX2_back 23 = .ok (.iload_n 1, 1) := by decide +kernel
theorem dX2_back_24 : decode cX2_back 24 = .ok (.iload_n 2, 1) := by decide +kernel
theorem dX2_back_25 : decode cX2_back 25 = .ok (.invokestatic 115, 3) := by decide +kernel
theorem dX2_back_28 : decode cX2_back 28 = .ok (.putfield 108, 3) := by decide +kernel
theorem dX2_back_31 : decode cX2_back 31 = .ok (.iload_n 3, 1) := by decide +kernel
theorem dX2_back_32 : decode cX2_back 32 = .ok (.ireturn, 1) := by decide +kernel
theorem dX2_late_0 : decode cX2_late 0 = .ok (.iload_n 1, 1) := by decide +kernel
theorem dX2_late_1 : decode cX2_late 1 = .ok (.invokestatic 64, 3) := by decide +kernel
theorem dX2_late_4 : decode cX2_late 4 = .ok (.ifCond .eq 6, 3) := by decide +kernel
theorem dX2_late_7 : decode cX2_late 7 = .ok (.ldc 91, 2) := by decide +kernel
theorem dX2_late_9 : decode cX2_late 9 = .ok (.ireturn, 1) := by decide +kernel
theorem dX2_late_10 : decode cX2_late 10 = .ok (.iload_n 2, 1) := by decide +kernel
theorem dX2_late_11 : decode cX2_late 11 = .ok (.invokestatic 92, 3) := by decide +kernel
theorem dX2_late_14 : decode cX2_late 14 = .ok (.ifCond .eq 6, 3) := by decide +kernel
theorem dX2_late_17 : decode cX2_late 17 = .ok (.ldc 95, 2) := by decide +kernel
theorem dX2_late_19 : decode cX2_late 19 = .ok (.ireturn, 1) := by decide +kernel
theorem dX2_late_20 : decode cX2_late 20 = .ok (.iload_n 2, 1) := by decide +kernel
theorem dX2_late_21 : decode cX2_late 21 = .ok (.ifCond .ne 11, 3) := by decide +kernel
theorem dX2_late_24 : decode cX2_late 24 = .ok (.aload_n 0, 1) := by decide +kernel
theorem dX2_late_25 : decode cX2_late 25 = .ok (.iload_n 1, 1) := by decide +kernel
theorem dX2_late_26 : decode cX2_late 26 = .ok (.invokevirtual 119, 3) := by decide +kernel
theorem dX2_late_29 : decode cX2_late 29 = .ok (.goto 8, 3) := by decide +kernel
theorem dX2_late_32 : decode cX2_late 32 = .ok (.aload_n 0, 1) := by decide +kernel
theorem dX2_late_33 : decode cX2_late 33 = .ok (.iload_n 1, 1) := by decide +kernel
theorem dX2_late_34 : decode cX2_late 34 = .ok (.invokevirtual 123, 3) := by decide +kernel
theorem dX2_late_37 : decode cX2_late 37 = .ok (.ireturn, 1) := by decide +kernel
theorem dX2_ship_0 : decode cX2_ship 0 = .ok (.aload_n 0, 1) := by decide +kernel
theorem dX2_ship_1 : decode cX2_ship 1 = .ok (.getfield 126, 3) := by decide +kernel
theorem dX2_ship_4 : decode cX2_ship 4 = .ok (.iconst 4, 1) := by decide +kernel
theorem dX2_ship_5 : decode cX2_ship 5 = .ok (.if_icmp .lt 6, 3) := by decide +kernel
theorem dX2_ship_8 : decode cX2_ship 8 = .ok (.bipush (-4), 2) := by decide +kernel
theorem dX2_ship_10 : decode cX2_ship 10 = .ok (.ireturn, 1) := by decide +kernel
theorem dX2_ship_11 : decode cX2_ship 11 = .ok (.aload_n 0, 1) := by decide +kernel
theorem dX2_ship_12 : decode cX2_ship 12 = .ok (.dup, 1) := by decide +kernel
theorem dX2_ship_13 : decode cX2_ship 13 = .ok (.getfield 126, 3) := by decide +kernel
theorem dX2_ship_16 : decode cX2_ship 16 = .ok (.iconst 1, 1) := by decide +kernel
theorem dX2_ship_17 : decode cX2_ship 17 = .ok (.iadd, 1) := by decide +kernel
theorem dX2_ship_18 : decode cX2_ship 18 = .ok (.putfield 126, 3) := by decide +kernel
theorem dX2_ship_21 : decode cX2_ship 21 = .ok (.aload_n 0, 1) := by decide +kernel
theorem dX2_ship_22 : decode cX2_ship 22 = .ok (.getfield 126, 3) := by decide +kernel
theorem dX2_ship_25 : decode cX2_ship 25 = .ok (.iconst 1, 1) := by decide +kernel
theorem dX2_ship_26 : decode cX2_ship 26 = .ok (.isub, 1) := by decide +kernel
theorem dX2_ship_27 : decode cX2_ship 27 = .ok (.ireturn, 1) := by decide +kernel
theorem dX2_set_0 : decode cX2_set 0 = .ok (.aload_n 0, 1) := by decide +kernel
theorem dX2_set_1 : decode cX2_set 1 = .ok (.iload_n 1, 1) := by decide +kernel
theorem dX2_set_2 : decode cX2_set 2 = .ok (.iload_n 2, 1) := by decide +kernel
theorem dX2_set_3 : decode cX2_set 3 = .ok (.invokevirtual 129, 3) := by decide +kernel
theorem dX2_set_6 : decode cX2_set 6 = .ok (.ifCond .ne 10, 3) := by decide +kernel
theorem dX2_set_9 : decode cX2_set 9 = .ok (.iload_n 3, 1) := by decide +kernel
theorem dX2_set_10 : decode cX2_set 10 = .ok (.invokestatic 64, 3) := by decide +kernel
theorem dX2_set_13 : decode cX2_set 13 = .ok (.ifCond .eq 5, 3) := by decide +kernel
theorem dX2_set_16 : decode cX2_set 16 = .ok (.iconst (-1), 1) := by decide +kernel
theorem dX2_set_17 : decode cX2_set 17 = .ok (.ireturn, 1) := by decide +kernel
theorem dX2_set_18 : decode cX2_set 18 = .ok (.iload 4, 2) := by decide +kernel
theorem dX2_set_20 : decode cX2_set 20 = .ok (.iconst 0, 1) := by decide +kernel
theorem dX2_set_21 : decode cX2_set 21 = .ok (.iconst 2, 1) := by decide +kernel
theorem dX2_set_22 : decode cX2_set 22 = .ok (.invokestatic 87, 3) := by decide +kernel
theorem dX2_set_25 : decode cX2_set 25 = .ok (.ifCond .ne 35, 3) := by decide +kernel
theorem dX2_set_28 : decode cX2_set 28 = .ok (.iload 5, 2) := by decide +kernel
theorem dX2_set_30 : decode cX2_set 30 = .ok (.iconst 0, 1) := by decide +kernel
theorem dX2_set_31 : decode cX2_set 31 = .ok (.iload 4, 2) := by decide +kernel
theorem dX2_set_33 : decode cX2_set 33 = .ok (.iconst 2, 1) := by decide +kernel
theorem dX2_set_34 : decode cX2_set 34 = .ok (.if_icmp .ne 8, 3) := by decide +kernel
theorem dX2_set_37 : decode cX2_set 37 = .ok (.bipush 30, 2) := by decide +kernel
theorem dX2_set_39 : decode cX2_set 39 = .ok (.goto 4, 3) := by decide +kernel
theorem dX2_set_42 : decode cX2_set 42 = .ok (.iconst 0, 1) := by decide +kernel
theorem dX2_set_43 : decode cX2_set 43 = .ok (.invokestatic 87, 3) := by decide +kernel
theorem dX2_set_46 : decode cX2_set 46 = .ok (.ifCond .ne 14, 3) := by decide +kernel
theorem dX2_set_49 : decode cX2_set 49 = .ok (.iload 6, 2) := by decide +kernel
theorem dX2_set_51 : decode cX2_set 51 = .ok (.sipush 9999, 3) := by decide +kernel
theorem dX2_set_54 : decode cX2_set 54 = .ok (.invokestatic 68, 3) := by decide +kernel
theorem dX2_set_57 : decode cX2_set 57 = .ok (.ifCond .eq 6, 3) := by decide +kernel
theorem dX2_set_60 : decode cX2_set 60 = .ok (.bipush (-2), 2) := by decide +kernel
theorem dX2_set_62 : decode cX2_set 62 = .ok (.ireturn, 1) := by decide +kernel
theorem dX2_set_63 : decode cX2_set 63 = .ok (.aload_n 0, 1) := by decide +kernel
theorem dX2_set_64 : decode cX2_set 64 = .ok (.getfield 37, 3) := by decide +kernel
theorem dX2_set_67 : decode cX2_set 67 = .ok (.iload_n 1, 1) := by decide +kernel
theorem dX2_set_68 : decode cX2_set 68 = .ok (.aaload, 1) := by decide +kernel
theorem dX2_set_69 : decode cX2_set 69 = .ok (.iload_n 2, 1) := by decide +kernel
theorem dX2_set_70 : decode cX2_set 70 = .ok (.iload_n 3, 1) := by decide +kernel
theorem dX2_set_71 : decode cX2_set 71 = .ok (.iconst 1, 1) := by decide +kernel
theorem dX2_set_72 : decode cX2_set 72 = .ok (.iload 6, 2) := by decide +kernel
theorem dX2_set_74 : decode cX2_set 74 = .ok (.iload 4, 2) := by decide +kernel
theorem dX2_set_76 : decode cX2_set 76 = .ok (.iload 5, 2) := by decide +kernel
theorem dX2_set_78 : decode cX2_set 78 = .ok (.invokestatic 132, 3) := by decide +kernel
theorem dX2_set_81 : decode cX2_set 81 = .ok (.isub, 1) := by decide +kernel
theorem dX2_set_82 : decode cX2_set 82 = .ok (.iload 6, 2) := by decide +kernel
theorem dX2_set_84 : decode cX2_set 84 = .ok (.iload 4, 2) := by decide +kernel
theorem dX2_set_86 : decode cX2_set 86 = .ok (.iload 5, 2) := by decide +kernel
theorem dX2_set_88 : decode cX2_set 88 = .ok (.invokestatic 135, 3) := by decide +kernel
theorem dX2_set_91 : decode cX2_set 91 = .ok (.isub, 1) := by decide +kernel
theorem dX2_set_92 : decode cX2_set 92 = .ok (.invokevirtual 138, 3) := by decide +kernel
theorem dX2_set_95 : decode cX2_set 95 = .ok (.ireturn, 1) := by decide +kernel
theorem dX2_meet_0 : decode cX2_meet 0 = .ok (.aload_n 0, 1) := by decide +kernel
theorem dX2_meet_1 : decode cX2_meet 1 = .ok (.iload_n 1, 1) := by decide +kernel
theorem dX2_meet_2 : decode cX2_meet 2 = .ok (.iload_n 2, 1) := by decide +kernel
theorem dX2_meet_3 : decode cX2_meet 3 = .ok (.invokevirtual 129, 3) := by decide +kernel
theorem dX2_meet_6 : decode cX2_meet 6 = .ok (.ifCond .ne 10, 3) := by decide +kernel
theorem dX2_meet_9 : decode cX2_meet 9 = .ok (.iload_n 3, 1) := by decide +kernel
theorem dX2_meet_10 : decode cX2_meet 10 = .ok (.invokestatic 64, 3) := by decide +kernel
theorem dX2_meet_13 : decode cX2_meet 13 = .ok (.ifCond .eq 5, 3) := by decide +kernel
theorem dX2_meet_16 : decode cX2_meet 16 = .ok (.iconst (-1), 1) := by decide +kernel
theorem dX2_meet_17 : decode cX2_meet 17 = .ok (.ireturn, 1) := by decide +kernel
theorem dX2_meet_18 : decode cX2_meet 18 = .ok (.iload 4, 2) := by decide +kernel
theorem dX2_meet_20 : decode cX2_meet 20 = .ok (.ldc 63, 2) := by decide +kernel
theorem dX2_meet_22 : decode cX2_meet 22 = .ok (.invokestatic 68, 3) := by decide +kernel
theorem dX2_meet_25 : decode cX2_meet 25 = .ok (.ifCond .ne 14, 3) := by decide +kernel
theorem dX2_meet_28 : decode cX2_meet 28 = .ok (.iload 5, 2) := by decide +kernel
theorem dX2_meet_30 : decode cX2_meet 30 = .ok (.sipush 9999, 3) := by decide +kernel
theorem dX2_meet_33 : decode cX2_meet 33 = .ok (.invokestatic 68, 3) := by decide +kernel
theorem dX2_meet_36 : decode cX2_meet 36 = .ok (.ifCond .eq 6, 3) := by decide +kernel
theorem dX2_meet_39 : decode cX2_meet 39 = .ok (.bipush (-2), 2) := by decide +kernel
theorem dX2_meet_41 : decode cX2_meet 41 = .ok (.ireturn, 1) := by decide +kernel
theorem dX2_meet_42 : decode cX2_meet 42 = .ok (.iload 4, 2) := by decide +kernel
theorem dX2_meet_44 : decode cX2_meet 44 = .ok (.iconst 4, 1) := by decide +kernel
theorem dX2_meet_45 : decode cX2_meet 45 = .ok (.iload 5, 2) := by decide +kernel
theorem dX2_meet_47 : decode cX2_meet 47 = .ok (.imul, 1) := by decide +kernel
theorem dX2_meet_48 : decode cX2_meet 48 = .ok (.isub, 1) := by decide +kernel
theorem dX2_meet_49 : decode cX2_meet 49 = .ok (.istore 6, 2) := by decide +kernel
theorem dX2_meet_51 : decode cX2_meet 51 = .ok (.aload_n 0, 1) := by decide +kernel
theorem dX2_meet_52 : decode cX2_meet 52 = .ok (.getfield 37, 3) := by decide +kernel
theorem dX2_meet_55 : decode cX2_meet 55 = .ok (.iload_n 1, 1) := by decide +kernel
theorem dX2_meet_56 : decode cX2_meet 56 = .ok (.aaload, 1) := by decide +kernel
theorem dX2_meet_57 : decode cX2_meet 57 = .ok (.iload_n 2, 1) := by decide +kernel
theorem dX2_meet_58 : decode cX2_meet 58 = .ok (.iload_n 3, 1) := by decide +kernel
theorem dX2_meet_59 : decode cX2_meet 59 = .ok (.iconst 0, 1) := by decide +kernel
theorem dX2_meet_60 : decode cX2_meet 60 = .ok (.iload 6, 2) := by decide +kernel
theorem dX2_meet_62 : decode cX2_meet 62 = .ok (.iconst 4, 1) := by decide +kernel
theorem dX2_meet_63 : decode cX2_meet 63 = .ok (.isub, 1) := by decide +kernel
theorem dX2_meet_64 : decode cX2_meet 64 = .ok (.iload 6, 2) := by decide +kernel
theorem dX2_meet_66 : decode cX2_meet 66 = .ok (.iconst 4, 1) := by decide +kernel
theorem dX2_meet_67 : decode cX2_meet 67 = .ok (.iadd, 1) := by decide +kernel
theorem dX2_meet_68 : decode cX2_meet 68 = .ok (.invokevirtual 138, 3) := by decide +kernel
theorem dX2_meet_71 : decode cX2_meet 71 = .ok (.ireturn, 1) := by decide +kernel
theorem dX2_strike_0 : decode cX2_strike 0 = .ok (.aload_n 0, 1) := by decide +kernel
theorem dX2_strike_1 : decode cX2_strike 1 = .ok (.iload_n 1, 1) := by decide +kernel
theorem dX2_strike_2 : decode cX2_strike 2 = .ok (.invokevirtual 142, 3) := by decide +kernel
theorem dX2_strike_5 : decode cX2_strike 5 = .ok (.ifCond .eq 5, 3) := by decide +kernel
theorem dX2_strike_8 : decode cX2_strike 8 = .ok (.iconst (-1), 1) := by decide +kernel
theorem dX2_strike_9 : decode cX2_strike 9 = .ok (.ireturn, 1) := by decide +kernel
theorem dX2_strike_10 : decode cX2_strike 10 = .ok (.aload_n 0, 1) := by decide +kernel
theorem dX2_strike_11 : decode cX2_strike 11 = .ok (.getfield 37, 3) := by decide +kernel
theorem dX2_strike_14 : decode cX2_strike 14 = .ok (.iload_n 1, 1) := by decide +kernel
theorem dX2_strike_15 : decode cX2_strike 15 = .ok (.aaload, 1) := by decide +kernel
theorem dX2_strike_16 : decode cX2_strike 16 = .ok (.astore_n 2, 1) := by decide +kernel
theorem dX2_strike_17 : decode cX2_strike 17 = .ok (.aload_n 2, 1) := by decide +kernel
theorem dX2_strike_18 : decode cX2_strike 18 = .ok (.getfield 145, 3) := by decide +kernel
theorem dX2_strike_21 : decode cX2_strike 21 = .ok (.ifCond .gt 6, 3) := by decide +kernel
theorem dX2_strike_24 : decode cX2_strike 24 = .ok (.bipush (-5), 2) := by decide +kernel
theorem dX2_strike_26 : decode cX2_strike 26 = .ok (.ireturn, 1) := by decide +kernel
theorem dX2_strike_27 : decode cX2_strike 27 = .ok (.aload_n 2, 1) := by decide +kernel
theorem dX2_strike_28 : decode cX2_strike 28 = .ok (.dup, 1) := by decide +kernel
theorem dX2_strike_29 : decode cX2_strike 29 = .ok (.getfield 145, 3) := by decide +kernel
theorem dX2_strike_32 : decode cX2_strike 32 = .ok (.iconst 1, 1) := by decide +kernel
theorem dX2_strike_33 : decode cX2_strike 33 = .ok (.isub, 1) := by decide +kernel
theorem dX2_strike_34 : decode cX2_strike 34 = .ok (.putfield 145, 3) := by decide +kernel
theorem dX2_strike_37 : decode cX2_strike 37 = .ok (.aload_n 2, 1) := by decide +kernel
theorem dX2_strike_38 : decode cX2_strike 38 = .ok (.getfield 145, 3) := by decide +kernel
theorem dX2_strike_41 : decode cX2_strike 41 = .ok (.ireturn, 1) := by decide +kernel
theorem dX2_saw_0 : decode cX2_saw 0 = .ok (.aload_n 0, 1) := by decide +kernel
theorem dX2_saw_1 : decode cX2_saw 1 = .ok (.iload_n 1, 1) := by decide +kernel
theorem dX2_saw_2 : decode cX2_saw 2 = .ok (.invokevirtual 142, 3) := by decide +kernel
theorem dX2_saw_5 : decode cX2_saw 5 = .ok (.ifCond .ne 10, 3) := by decide +kernel
theorem dX2_saw_8 : decode cX2_saw 8 = .ok (.iload_n 2, 1) := by decide +kernel
theorem dX2_saw_9 : decode cX2_saw 9 = .ok (.invokestatic 64, 3) := by decide +kernel
theorem dX2_saw_12 : decode cX2_saw 12 = .ok (.ifCond .eq 5, 3) := by decide +kernel
theorem dX2_saw_15 : decode cX2_saw 15 = .ok (.iconst (-1), 1) := by decide +kernel
theorem dX2_saw_16 : decode cX2_saw 16 = .ok (.ireturn, 1) := by decide +kernel
theorem dX2_saw_17 : decode cX2_saw 17 = .ok (.aload_n 0, 1) := by decide +kernel
theorem dX2_saw_18 : decode cX2_saw 18 = .ok (.getfield 37, 3) := by decide +kernel
theorem dX2_saw_21 : decode cX2_saw 21 = .ok (.iload_n 1, 1) := by decide +kernel
theorem dX2_saw_22 : decode cX2_saw 22 = .ok (.aaload, 1) := by decide +kernel
theorem dX2_saw_23 : decode cX2_saw 23 = .ok (.astore 4, 2) := by decide +kernel
theorem dX2_saw_25 : decode cX2_saw 25 = .ok (.aload 4, 2) := by decide +kernel
theorem dX2_saw_27 : decode cX2_saw 27 = .ok (.getfield 148, 3) := by decide +kernel
theorem dX2_saw_30 : decode cX2_saw 30 = .ok (.iload_n 2, 1) := by decide +kernel
theorem dX2_saw_31 : decode cX2_saw 31 = .ok (.invokestatic 111, 3) := by decide +kernel
theorem dX2_saw_34 : decode cX2_saw 34 = .ok (.istore 5, 2) := by decide +kernel
theorem dX2_saw_36 : decode cX2_saw 36 = .ok (.aload 4, 2) := by decide +kernel
theorem dX2_saw_38 : decode cX2_saw 38 = .ok (.aload 4, 2) := by decide +kernel
theorem dX2_saw_40 : decode cX2_saw 40 = .ok (.getfield 148, 3) := by decide +kernel
theorem dX2_saw_43 : decode cX2_saw 43 = .ok (.iload_n 2, 1) := by decide +kernel
theorem dX2_saw_44 : decode cX2_saw 44 = .ok (.iload_n 3, 1) := by decide +kernel
theorem dX2_saw_45 : decode cX2_saw 45 = .ok (.invokestatic 115, 3) := by decide +kernel
theorem dX2_saw_48 : decode cX2_saw 48 = .ok (.putfield 148, 3) := by decide +kernel
theorem dX2_saw_51 : decode cX2_saw 51 = .ok (.iload 5, 2) := by decide +kernel
theorem dX2_saw_53 : decode cX2_saw 53 = .ok (.ireturn, 1) := by decide +kernel
theorem dX2_clock_0 : decode cX2_clock 0 = .ok (.aload_n 0, 1) := by decide +kernel
theorem dX2_clock_1 : decode cX2_clock 1 = .ok (.iload_n 1, 1) := by decide +kernel
theorem dX2_clock_2 : decode cX2_clock 2 = .ok (.iload_n 2, 1) := by decide +kernel
theorem dX2_clock_3 : decode cX2_clock 3 = .ok (.invokevirtual 129, 3) := by decide +kernel
theorem dX2_clock_6 : decode cX2_clock 6 = .ok (.ifCond .eq 5, 3) := by decide +kernel
theorem dX2_clock_9 : decode cX2_clock 9 = .ok (.iconst (-1), 1) := by decide +kernel
theorem dX2_clock_10 : decode cX2_clock 10 = .ok (.ireturn, 1) := by decide +kernel
theorem dX2_clock_11 : decode cX2_clock 11 = .ok (.iload_n 3, 1) := by decide +kernel
theorem dX2_clock_12 : decode cX2_clock 12 = .ok (.iconst 0, 1) := by decide +kernel
theorem dX2_clock_13 : decode cX2_clock 13 = .ok (.iconst 1, 1) := by decide +kernel
theorem dX2_clock_14 : decode cX2_clock 14 = .ok (.invokestatic 87, 3) := by decide +kernel
theorem dX2_clock_17 : decode cX2_clock 17 = .ok (.ifCond .ne 31, 3) := by decide +kernel
theorem dX2_clock_20 : decode cX2_clock 20 = .ok (.iload_n 3, 1) := by decide +kernel
theorem dX2_clock_21 : decode cX2_clock 21 = .ok (.ifCond .ne 16, 3) := by decide +kernel
theorem dX2_clock_24 : decode cX2_clock 24 = .ok (.iload 4, 2) := by decide +kernel
theorem dX2_clock_26 : decode cX2_clock 26 = .ok (.iconst 0, 1) := by decide +kernel
theorem dX2_clock_27 : decode cX2_clock 27 = .ok (.iconst 5, 1) := by decide +kernel
theorem dX2_clock_28 : decode cX2_clock 28 = .ok (.invokestatic 87, 3) := by decide +kernel
theorem dX2_clock_31 : decode cX2_clock 31 = .ok (.ifCond .eq 20, 3) := by decide +kernel
theorem dX2_clock_34 : decode cX2_clock 34 = .ok (.goto 14, 3) := by decide +kernel
theorem dX2_clock_37 : decode cX2_clock 37 = .ok (.iload 4, 2) := by decide +kernel
theorem dX2_clock_39 : decode cX2_clock 39 = .ok (.iconst 1, 1) := by decide +kernel
theorem dX2_clock_40 : decode cX2_clock 40 = .ok (.bipush 9, 2) := by decide +kernel
theorem dX2_clock_42 : decode cX2_clock 42 = .ok (.invokestatic 87, 3) := by decide +kernel
theorem dX2_clock_45 : decode cX2_clock 45 = .ok (.ifCond .eq 6, 3) := by decide +kernel
theorem dX2_clock_48 : decode cX2_clock 48 = .ok (.bipush (-2), 2) := by decide +kernel
theorem dX2_clock_50 : decode cX2_clock 50 = .ok (.ireturn, 1) := by decide +kernel
theorem dX2_clock_51 : decode cX2_clock 51 = .ok (.iload_n 3, 1) := by decide +kernel
theorem dX2_clock_52 : decode cX2_clock 52 = .ok (.ifCond .ne 15, 3) := by decide +kernel
theorem dX2_clock_55 : decode cX2_clock 55 = .ok (.aload_n 0, 1) := by decide +kernel
theorem dX2_clock_56 : decode cX2_clock 56 = .ok (.getfield 37, 3) := by decide +kernel
theorem dX2_clock_59 : decode cX2_clock 59 = .ok (.iload_n 1, 1) := by decide +kernel
theorem dX2_clock_60 : decode cX2_clock 60 = .ok (.aaload, 1) := by decide +kernel
theorem dX2_clock_61 : decode cX2_clock 61 = .ok (.getfield 151, 3) := by decide +kernel
theorem dX2_clock_64 : decode cX2_clock 64 = .ok (.goto 12, 3) := by decide +kernel
theorem dX2_clock_67 : decode cX2_clock 67 = .ok (.aload_n 0, 1) := by decide +kernel
theorem dX2_clock_68 : decode cX2_clock 68 = .ok (.getfield 37, 3) := by decide +kernel
theorem dX2_clock_71 : decode cX2_clock 71 = .ok (.iload_n 1, 1) := by decide +kernel
theorem dX2_clock_72 : decode cX2_clock 72 = .ok (.aaload, 1) := by decide +kernel
theorem dX2_clock_73 : decode cX2_clock 73 = .ok (.getfield 154, 3) := by decide +kernel
theorem dX2_clock_76 : decode cX2_clock 76 = .ok (.astore 5, 2) := by decide +kernel
theorem dX2_clock_78 : decode cX2_clock 78 = .ok (.aload 5, 2) := by decide +kernel
theorem dX2_clock_80 : decode cX2_clock 80 = .ok (.iload_n 2, 1) := by decide +kernel
theorem dX2_clock_81 : decode cX2_clock 81 = .ok (.iaload, 1) := by decide +kernel
theorem dX2_clock_82 : decode cX2_clock 82 = .ok (.istore 6, 2) := by decide +kernel
theorem dX2_clock_84 : decode cX2_clock 84 = .ok (.aload 5, 2) := by decide +kernel
theorem dX2_clock_86 : decode cX2_clock 86 = .ok (.iload_n 2, 1) := by decide +kernel
theorem dX2_clock_87 : decode cX2_clock 87 = .ok (.iload 4, 2) := by decide +kernel
theorem dX2_clock_89 : decode cX2_clock 89 = .ok (.iastore, 1) := by decide +kernel
theorem dX2_clock_90 : decode cX2_clock 90 = .ok (.iload 6, 2) := by decide +kernel
theorem dX2_clock_92 : decode cX2_clock 92 = .ok (.ireturn, 1) := by decide +kernel
theorem dX2_warm_0 : decode cX2_warm 0 = .ok (.iload_n 1, 1) := by decide +kernel
theorem dX2_warm_1 : decode cX2_warm 1 = .ok (.invokestatic 64, 3) := by decide +kernel
theorem dX2_warm_4 : decode cX2_warm 4 = .ok (.ifCond .eq 5, 3) := by decide +kernel
theorem dX2_warm_7 : decode cX2_warm 7 = .ok (.iconst (-1), 1) := by decide +kernel
theorem dX2_warm_8 : decode cX2_warm 8 = .ok (.ireturn, 1) := by decide +kernel
theorem dX2_warm_9 : decode cX2_warm 9 = .ok (.iload_n 2, 1) := by decide +kernel
theorem dX2_warm_10 : decode cX2_warm 10 = .ok (.iconst 0, 1) := by decide +kernel
theorem dX2_warm_11 : decode cX2_warm 11 = .ok (.bipush 9, 2) := by decide +kernel
theorem dX2_warm_13 : decode cX2_warm 13 = .ok (.invokestatic 87, 3) := by decide +kernel
theorem dX2_warm_16 : decode cX2_warm 16 = .ok (.ifCond .eq 6, 3) := by decide +kernel
theorem dX2_warm_19 : decode cX2_warm 19 = .ok (.bipush (-2), 2) := by decide +kernel
theorem dX2_warm_21 : decode cX2_warm 21 = .ok (.ireturn, 1) := by decide +kernel
theorem dX2_warm_22 : decode cX2_warm 22 = .ok (.aload_n 0, 1) := by decide +kernel
theorem dX2_warm_23 : decode cX2_warm 23 = .ok (.getfield 32, 3) := by decide +kernel
theorem dX2_warm_26 : decode cX2_warm 26 = .ok (.iload_n 1, 1) := by decide +kernel
theorem dX2_warm_27 : decode cX2_warm 27 = .ok (.iaload, 1) := by decide +kernel
theorem dX2_warm_28 : decode cX2_warm 28 = .ok (.istore_n 3, 1) := by decide +kernel
theorem dX2_warm_29 : decode cX2_warm 29 = .ok (.aload_n 0, 1) := by decide +kernel
theorem dX2_warm_30 : decode cX2_warm 30 = .ok (.getfield 32, 3) := by decide +kernel
theorem dX2_warm_33 : decode cX2_warm 33 = .ok (.iload_n 1, 1) := by decide +kernel
theorem dX2_warm_34 : decode cX2_warm 34 = .ok (.iload_n 2, 1) := by decide +kernel
theorem dX2_warm_35 : decode cX2_warm 35 = .ok (.iastore, 1) := by decide +kernel
theorem dX2_warm_36 : decode cX2_warm 36 = .ok (.iload_n 3, 1) := by decide +kernel
theorem dX2_warm_37 : decode cX2_warm 37 = .ok (.ireturn, 1) := by decide +kernel
theorem dX2_jumped_0 : decode cX2_jumped 0 = .ok (.aload_n 0, 1) := by decide +kernel
theorem dX2_jumped_1 : decode cX2_jumped 1 = .ok (.iload_n 1, 1) := by decide +kernel
theorem dX2_jumped_2 : decode cX2_jumped 2 = .ok (.iload_n 2, 1) := by decide +kernel
theorem dX2_jumped_3 : decode cX2_jumped 3 = .ok (.invokevirtual 129, 3) := by decide +kernel
theorem dX2_jumped_6 : decode cX2_jumped 6 = .ok (.ifCond .eq 5, 3) := by decide +kernel
theorem dX2_jumped_9 : decode cX2_jumped 9 = .ok (.iconst (-1), 1) := by decide +kernel
theorem dX2_jumped_10 : decode cX2_jumped 10 = .ok (.ireturn, 1) := by decide +kernel
theorem dX2_jumped_11 : decode cX2_jumped 11 = .ok (.aload_n 0, 1) := by decide +kernel
theorem dX2_jumped_12 : decode cX2_jumped 12 = .ok (.aload_n 0, 1) := by decide +kernel
theorem dX2_jumped_13 : decode cX2_jumped 13 = .ok (.getfield 37, 3) := by decide +kernel
theorem dX2_jumped_16 : decode cX2_jumped 16 = .ok (.iload_n 1, 1) := by decide +kernel
theorem dX2_jumped_17 : decode cX2_jumped 17 = .ok (.aaload, 1) := by decide +kernel
theorem dX2_jumped_18 : decode cX2_jumped 18 = .ok (.iload_n 2, 1) := by decide +kernel
theorem dX2_jumped_19 : decode cX2_jumped 19 = .ok (.invokevirtual 157, 3) := by decide +kernel
theorem dX2_jumped_22 : decode cX2_jumped 22 = .ok (.ifCond .eq 7, 3) := by decide +kernel
theorem dX2_jumped_25 : decode cX2_jumped 25 = .ok (.iconst 0, 1) := by decide +kernel
theorem dX2_jumped_26 : decode cX2_jumped 26 = .ok (.goto 4, 3) := by decide +kernel
theorem dX2_jumped_29 : decode cX2_jumped 29 = .ok (.iconst 1, 1) := by decide +kernel
theorem dX2_jumped_30 : decode cX2_jumped 30 = .ok (.ireturn, 1) := by decide +kernel
theorem dX2_ahead_0 : decode cX2_ahead 0 = .ok (.aload_n 0, 1) := by decide +kernel
theorem dX2_ahead_1 : decode cX2_ahead 1 = .ok (.iload_n 1, 1) := by decide +kernel
theorem dX2_ahead_2 : decode cX2_ahead 2 = .ok (.iload_n 2, 1) := by decide +kernel
theorem dX2_ahead_3 : decode cX2_ahead 3 = .ok (.invokevirtual 129, 3) := by decide +kernel
theorem dX2_ahead_6 : decode cX2_ahead 6 = .ok (.ifCond .ne 10, 3) := by decide +kernel
theorem dX2_ahead_9 : decode cX2_ahead 9 = .ok (.iload_n 3, 1) := by decide +kernel
theorem dX2_ahead_10 : decode cX2_ahead 10 = .ok (.invokestatic 64, 3) := by decide +kernel
theorem dX2_ahead_13 : decode cX2_ahead 13 = .ok (.ifCond .eq 6, 3) := by decide +kernel
theorem dX2_ahead_16 : decode cX2_ahead 16 = .ok (.ldc 91, 2) := by decide +kernel
theorem dX2_ahead_18 : decode cX2_ahead 18 = .ok (.ireturn, 1) := by decide +kernel
theorem dX2_ahead_19 : decode cX2_ahead 19 = .ok (.iload 4, 2) := by decide +kernel
theorem dX2_ahead_21 : decode cX2_ahead 21 = .ok (.invokestatic 92, 3) := by decide +kernel
theorem dX2_ahead_24 : decode cX2_ahead 24 = .ok (.ifCond .eq 6, 3) := by decide +kernel
theorem dX2_ahead_27 : decode cX2_ahead 27 = .ok (.ldc 95, 2) := by decide +kernel
theorem dX2_ahead_29 : decode cX2_ahead 29 = .ok (.ireturn, 1) := by decide +kernel
theorem dX2_ahead_30 : decode cX2_ahead 30 = .ok (.aload_n 0, 1) := by decide +kernel
theorem dX2_ahead_31 : decode cX2_ahead 31 = .ok (.aload_n 0, 1) := by decide +kernel
theorem dX2_ahead_32 : decode cX2_ahead 32 = .ok (.getfield 37, 3) := by decide +kernel
theorem dX2_ahead_35 : decode cX2_ahead 35 = .ok (.iload_n 1, 1) := by decide +kernel
theorem dX2_ahead_36 : decode cX2_ahead 36 = .ok (.aaload, 1) := by decide +kernel
theorem dX2_ahead_37 : decode cX2_ahead 37 = .ok (.iload_n 2, 1) := by decide +kernel
theorem dX2_ahead_38 : decode cX2_ahead 38 = .ok (.invokevirtual 157, 3) := by decide +kernel
theorem dX2_ahead_41 : decode cX2_ahead 41 = .ok (.ifCond .ne 6, 3) := by decide +kernel
theorem dX2_ahead_44 : decode cX2_ahead 44 = .ok (.ldc 161, 2) := by decide +kernel
theorem dX2_ahead_46 : decode cX2_ahead 46 = .ok (.ireturn, 1) := by decide +kernel
theorem dX2_ahead_47 : decode cX2_ahead 47 = .ok (.iload 4, 2) := by decide +kernel
theorem dX2_ahead_49 : decode cX2_ahead 49 = .ok (.ifCond .ne 15, 3) := by decide +kernel
theorem dX2_ahead_52 : decode cX2_ahead 52 = .ok (.aload_n 0, 1) := by decide +kernel
theorem dX2_ahead_53 : decode cX2_ahead 53 = .ok (.getfield 19, 3) := by decide +kernel
theorem dX2_ahead_56 : decode cX2_ahead 56 = .ok (.getfield 96, 3) := by decide +kernel
theorem dX2_ahead_59 : decode cX2_ahead 59 = .ok (.iload_n 3, 1) := by decide +kernel
theorem dX2_ahead_60 : decode cX2_ahead 60 = .ok (.iaload, 1) := by decide +kernel
theorem dX2_ahead_61 : decode cX2_ahead 61 = .ok (.goto 12, 3) := by decide +kernel
theorem dX2_ahead_64 : decode cX2_ahead 64 = .ok (.aload_n 0, 1) := by decide +kernel
theorem dX2_ahead_65 : decode cX2_ahead 65 = .ok (.getfield 19, 3) := by decide +kernel
theorem dX2_ahead_68 : decode cX2_ahead 68 = .ok (.getfield 99, 3) := by decide +kernel
theorem dX2_ahead_71 : decode cX2_ahead 71 = .ok (.iload_n 3, 1) := by decide +kernel
theorem dX2_ahead_72 : decode cX2_ahead 72 = .ok (.iaload, 1) := by decide +kernel
theorem dX2_ahead_73 : decode cX2_ahead 73 = .ok (.ireturn, 1) := by decide +kernel
theorem dX2_gains_0 : decode cX2_gains 0 = .ok (.aload_n 0, 1) := by decide +kernel
theorem dX2_gains_1 : decode cX2_gains 1 = .ok (.iload_n 1, 1) := by decide +kernel
theorem dX2_gains_2 : decode cX2_gains 2 = .ok (.iload_n 2, 1) := by decide +kernel
theorem dX2_gains_3 : decode cX2_gains 3 = .ok (.invokevirtual 129, 3) := by decide +kernel
theorem dX2_gains_6 : decode cX2_gains 6 = .ok (.ifCond .eq 6, 3) := by decide +kernel
theorem dX2_gains_9 : decode cX2_gains 9 = .ok (.ldc 91, 2) := by decide +kernel
theorem dX2_gains_11 : decode cX2_gains 11 = .ok (.ireturn, 1) := by decide +kernel
theorem dX2_gains_12 : decode cX2_gains 12 = .ok (.iload_n 3, 1) := by decide +kernel
theorem dX2_gains_13 : decode cX2_gains 13 = .ok (.invokestatic 92, 3) := by decide +kernel
theorem dX2_gains_16 : decode cX2_gains 16 = .ok (.ifCond .eq 6, 3) := by decide +kernel
theorem dX2_gains_19 : decode cX2_gains 19 = .ok (.ldc 95, 2) := by decide +kernel
theorem dX2_gains_21 : decode cX2_gains 21 = .ok (.ireturn, 1) := by decide +kernel
theorem dX2_gains_22 : decode cX2_gains 22 = .ok (.aload_n 0, 1) := by decide +kernel
theorem dX2_gains_23 : decode cX2_gains 23 = .ok (.aload_n 0, 1) := by decide +kernel
theorem dX2_gains_24 : decode cX2_gains 24 = .ok (.getfield 37, 3) := by decide +kernel
theorem dX2_gains_27 : decode cX2_gains 27 = .ok (.iload_n 1, 1) := by decide +kernel
theorem dX2_gains_28 : decode cX2_gains 28 = .ok (.aaload, 1) := by decide +kernel
theorem dX2_gains_29 : decode cX2_gains 29 = .ok (.iload_n 2, 1) := by decide +kernel
theorem dX2_gains_30 : decode cX2_gains 30 = .ok (.invokevirtual 157, 3) := by decide +kernel
theorem dX2_gains_33 : decode cX2_gains 33 = .ok (.ifCond .ne 6, 3) := by decide +kernel
theorem dX2_gains_36 : decode cX2_gains 36 = .ok (.ldc 161, 2) := by decide +kernel
theorem dX2_gains_38 : decode cX2_gains 38 = .ok (.ireturn, 1) := by decide +kernel
theorem dX2_gains_39 : decode cX2_gains 39 = .ok (.iload_n 3, 1) := by decide +kernel
theorem dX2_gains_40 : decode cX2_gains 40 = .ok (.ifCond .ne 13, 3) := by decide +kernel
theorem dX2_gains_43 : decode cX2_gains 43 = .ok (.aload_n 0, 1) := by decide +kernel
theorem dX2_gains_44 : decode cX2_gains 44 = .ok (.getfield 19, 3) := by decide +kernel
theorem dX2_gains_47 : decode cX2_gains 47 = .ok (.getfield 102, 3) := by decide +kernel
theorem dX2_gains_50 : decode cX2_gains 50 = .ok (.goto 10, 3) := by decide +kernel
theorem dX2_gains_53 : decode cX2_gains 53 = .ok (.aload_n 0, 1) := by decide +kernel
theorem dX2_gains_54 : decode cX2_gains 54 = .ok (.getfield 19, 3) := by decide +kernel
theorem dX2_gains_57 : decode cX2_gains 57 = .ok (.getfield 105, 3) := by decide +kernel
theorem dX2_gains_60 : decode cX2_gains 60 = .ok (.ireturn, 1) := by decide +kernel
theorem dX2_place_0 : decode cX2_place 0 = .ok (.aload_n 0, 1) := by decide +kernel
theorem dX2_place_1 : decode cX2_place 1 = .ok (.iload_n 1, 1) := by decide +kernel
theorem dX2_place_2 : decode cX2_place 2 = .ok (.iload_n 2, 1) := by decide +kernel
theorem dX2_place_3 : decode cX2_place 3 = .ok (.invokevirtual 129, 3) := by decide +kernel
theorem dX2_place_6 : decode cX2_place 6 = .ok (.ifCond .ne 10, 3) := by decide +kernel
theorem dX2_place_9 : decode cX2_place 9 = .ok (.iload_n 3, 1) := by decide +kernel
theorem dX2_place_10 : decode cX2_place 10 = .ok (.invokestatic 64, 3) := by decide +kernel
theorem dX2_place_13 : decode cX2_place 13 = .ok (.ifCond .eq 6, 3) := by decide +kernel
theorem dX2_place_16 : decode cX2_place 16 = .ok (.ldc 91, 2) := by decide +kernel
theorem dX2_place_18 : decode cX2_place 18 = .ok (.ireturn, 1) := by decide +kernel
theorem dX2_place_19 : decode cX2_place 19 = .ok (.iload 5, 2) := by decide +kernel
theorem dX2_place_21 : decode cX2_place 21 = .ok (.invokestatic 92, 3) := by decide +kernel
theorem dX2_place_24 : decode cX2_place 24 = .ok (.ifCond .ne 13, 3) := by decide +kernel
theorem dX2_place_27 : decode cX2_place 27 = .ok (.iload 4, 2) := by decide +kernel
theorem dX2_place_29 : decode cX2_place 29 = .ok (.ldc 63, 2) := by decide +kernel
theorem dX2_place_31 : decode cX2_place 31 = .ok (.invokestatic 68, 3) := by decide +kernel
theorem dX2_place_34 : decode cX2_place 34 = .ok (.ifCond .eq 6, 3) := by decide +kernel
theorem dX2_place_37 : decode cX2_place 37 = .ok (.ldc 95, 2) := by decide +kernel
theorem dX2_place_39 : decode cX2_place 39 = .ok (.ireturn, 1) := by decide +kernel
theorem dX2_place_40 : decode cX2_place 40 = .ok (.aload_n 0, 1) := by decide +kernel
theorem dX2_place_41 : decode cX2_place 41 = .ok (.aload_n 0, 1) := by decide +kernel
theorem dX2_place_42 : decode cX2_place 42 = .ok (.getfield 37, 3) := by decide +kernel
theorem dX2_place_45 : decode cX2_place 45 = .ok (.iload_n 1, 1) := by decide +kernel
theorem dX2_place_46 : decode cX2_place 46 = .ok (.aaload, 1) := by decide +kernel
theorem dX2_place_47 : decode cX2_place 47 = .ok (.iload_n 2, 1) := by decide +kernel
theorem dX2_place_48 : decode cX2_place 48 = .ok (.invokevirtual 157, 3) := by decide +kernel
theorem dX2_place_51 : decode cX2_place 51 = .ok (.ifCond .ne 6, 3) := by decide +kernel
theorem dX2_place_54 : decode cX2_place 54 = .ok (.ldc 161, 2) := by decide +kernel
theorem dX2_place_56 : decode cX2_place 56 = .ok (.ireturn, 1) := by decide +kernel
theorem dX2_place_57 : decode cX2_place 57 = .ok (.iload 5, 2) := by decide +kernel
theorem dX2_place_59 : decode cX2_place 59 = .ok (.ifCond .ne 13, 3) := by decide +kernel
theorem dX2_place_62 : decode cX2_place 62 = .ok (.aload_n 0, 1) := by decide +kernel
theorem dX2_place_63 : decode cX2_place 63 = .ok (.iload 4, 2) := by decide +kernel
theorem dX2_place_65 : decode cX2_place 65 = .ok (.iload_n 3, 1) := by decide +kernel
theorem dX2_place_66 : decode cX2_place 66 = .ok (.invokevirtual 162, 3) := by decide +kernel
theorem dX2_place_69 : decode cX2_place 69 = .ok (.goto 10, 3) := by decide +kernel
theorem dX2_place_72 : decode cX2_place 72 = .ok (.aload_n 0, 1) := by decide +kernel
theorem dX2_place_73 : decode cX2_place 73 = .ok (.iload 4, 2) := by decide +kernel
theorem dX2_place_75 : decode cX2_place 75 = .ok (.iload_n 3, 1) := by decide +kernel
theorem dX2_place_76 : decode cX2_place 76 = .ok (.invokevirtual 165, 3) := by decide +kernel
theorem dX2_place_79 : decode cX2_place 79 = .ok (.ireturn, 1) := by decide +kernel
theorem dX2_reads_0 : decode cX2_reads 0 = .ok (.aload_n 0, 1) := by decide +kernel
theorem dX2_reads_1 : decode cX2_reads 1 = .ok (.iload_n 1, 1) := by decide +kernel
theorem dX2_reads_2 : decode cX2_reads 2 = .ok (.invokevirtual 142, 3) := by decide +kernel
theorem dX2_reads_5 : decode cX2_reads 5 = .ok (.ifCond .ne 10, 3) := by decide +kernel
theorem dX2_reads_8 : decode cX2_reads 8 = .ok (.iload_n 2, 1) := by decide +kernel
theorem dX2_reads_9 : decode cX2_reads 9 = .ok (.invokestatic 64, 3) := by decide +kernel
theorem dX2_reads_12 : decode cX2_reads 12 = .ok (.ifCond .eq 5, 3) := by decide +kernel
theorem dX2_reads_15 : decode cX2_reads 15 = .ok (.iconst (-1), 1) := by decide +kernel
theorem dX2_reads_16 : decode cX2_reads 16 = .ok (.ireturn, 1) := by decide +kernel
theorem dX2_reads_17 : decode cX2_reads 17 = .ok (.iload_n 3, 1) := by decide +kernel
theorem dX2_reads_18 : decode cX2_reads 18 = .ok (.ldc 63, 2) := by decide +kernel
theorem dX2_reads_20 : decode cX2_reads 20 = .ok (.invokestatic 68, 3) := by decide +kernel
theorem dX2_reads_23 : decode cX2_reads 23 = .ok (.ifCond .ne 23, 3) := by decide +kernel
theorem dX2_reads_26 : decode cX2_reads 26 = .ok (.iload 4, 2) := by decide +kernel
theorem dX2_reads_28 : decode cX2_reads 28 = .ok (.ldc 63, 2) := by decide +kernel
theorem dX2_reads_30 : decode cX2_reads 30 = .ok (.invokestatic 68, 3) := by decide +kernel
theorem dX2_reads_33 : decode cX2_reads 33 = .ok (.ifCond .ne 13, 3) := by decide +kernel
theorem dX2_reads_36 : decode cX2_reads 36 = .ok (.iload 5, 2) := by decide +kernel
theorem dX2_reads_38 : decode cX2_reads 38 = .ok (.ldc 63, 2) := by decide +kernel
theorem dX2_reads_40 : decode cX2_reads 40 = .ok (.invokestatic 68, 3) := by decide +kernel
theorem dX2_reads_43 : decode cX2_reads 43 = .ok (.ifCond .eq 6, 3) := by decide +kernel
theorem dX2_reads_46 : decode cX2_reads 46 = .ok (.bipush (-2), 2) := by decide +kernel
theorem dX2_reads_48 : decode cX2_reads 48 = .ok (.ireturn, 1) := by decide +kernel
theorem dX2_reads_49 : decode cX2_reads 49 = .ok (.aload_n 0, 1) := by decide +kernel
theorem dX2_reads_50 : decode cX2_reads 50 = .ok (.getfield 37, 3) := by decide +kernel
theorem dX2_reads_53 : decode cX2_reads 53 = .ok (.iload_n 1, 1) := by decide +kernel
theorem dX2_reads_54 : decode cX2_reads 54 = .ok (.aaload, 1) := by decide +kernel
theorem dX2_reads_55 : decode cX2_reads 55 = .ok (.astore 6, 2) := by decide +kernel
theorem dX2_reads_57 : decode cX2_reads 57 = .ok (.aload 6, 2) := by decide +kernel
theorem dX2_reads_59 : decode cX2_reads 59 = .ok (.iload_n 2, 1) := by decide +kernel
theorem dX2_reads_60 : decode cX2_reads 60 = .ok (.putfield 168, 3) := by decide +kernel
theorem dX2_reads_63 : decode cX2_reads 63 = .ok (.aload 6, 2) := by decide +kernel
theorem dX2_reads_65 : decode cX2_reads 65 = .ok (.getfield 171, 3) := by decide +kernel
theorem dX2_reads_68 : decode cX2_reads 68 = .ok (.iconst 0, 1) := by decide +kernel
theorem dX2_reads_69 : decode cX2_reads 69 = .ok (.iload_n 3, 1) := by decide +kernel
theorem dX2_reads_70 : decode cX2_reads 70 = .ok (.iastore, 1) := by decide +kernel
theorem dX2_reads_71 : decode cX2_reads 71 = .ok (.aload 6, 2) := by decide +kernel
theorem dX2_reads_73 : decode cX2_reads 73 = .ok (.getfield 171, 3) := by decide +kernel
theorem dX2_reads_76 : decode cX2_reads 76 = .ok (.iconst 1, 1) := by decide +kernel
theorem dX2_reads_77 : decode cX2_reads 77 = .ok (.iload 4, 2) := by decide +kernel
theorem dX2_reads_79 : decode cX2_reads 79 = .ok (.iastore, 1) := by decide +kernel
theorem dX2_reads_80 : decode cX2_reads 80 = .ok (.aload 6, 2) := by decide +kernel
theorem dX2_reads_82 : decode cX2_reads 82 = .ok (.getfield 171, 3) := by decide +kernel
theorem dX2_reads_85 : decode cX2_reads 85 = .ok (.iconst 2, 1) := by decide +kernel
theorem dX2_reads_86 : decode cX2_reads 86 = .ok (.iload 5, 2) := by decide +kernel
theorem dX2_reads_88 : decode cX2_reads 88 = .ok (.iastore, 1) := by decide +kernel
theorem dX2_reads_89 : decode cX2_reads 89 = .ok (.iconst 1, 1) := by decide +kernel
theorem dX2_reads_90 : decode cX2_reads 90 = .ok (.ireturn, 1) := by decide +kernel
theorem dX2_weight_0 : decode cX2_weight 0 = .ok (.aload_n 0, 1) := by decide +kernel
theorem dX2_weight_1 : decode cX2_weight 1 = .ok (.iload_n 1, 1) := by decide +kernel
theorem dX2_weight_2 : decode cX2_weight 2 = .ok (.invokevirtual 142, 3) := by decide +kernel
theorem dX2_weight_5 : decode cX2_weight 5 = .ok (.ifCond .eq 5, 3) := by decide +kernel
theorem dX2_weight_8 : decode cX2_weight 8 = .ok (.iconst (-1), 1) := by decide +kernel
theorem dX2_weight_9 : decode cX2_weight 9 = .ok (.ireturn, 1) := by decide +kernel
theorem dX2_weight_10 : decode cX2_weight 10 = .ok (.iload_n 2, 1) := by decide +kernel
theorem dX2_weight_11 : decode cX2_weight 11 = .ok (.iconst 0, 1) := by decide +kernel
theorem dX2_weight_12 : decode cX2_weight 12 = .ok (.bipush 7, 2) := by decide +kernel
theorem dX2_weight_14 : decode cX2_weight 14 = .ok (.invokestatic 87, 3) := by decide +kernel
theorem dX2_weight_17 : decode cX2_weight 17 = .ok (.ifCond .eq 6, 3) := by decide +kernel
theorem dX2_weight_20 : decode cX2_weight 20 = .ok (.bipush (-2), 2) := by decide +kernel
theorem dX2_weight_22 : decode cX2_weight 22 = .ok (.ireturn, 1) := by decide +kernel
theorem dX2_weight_23 : decode cX2_weight 23 = .ok (.aload_n 0, 1) := by decide +kernel
theorem dX2_weight_24 : decode cX2_weight 24 = .ok (.aload_n 0, 1) := by decide +kernel
theorem dX2_weight_25 : decode cX2_weight 25 = .ok (.getfield 37, 3) := by decide +kernel
theorem dX2_weight_28 : decode cX2_weight 28 = .ok (.iload_n 1, 1) := by decide +kernel
theorem dX2_weight_29 : decode cX2_weight 29 = .ok (.aaload, 1) := by decide +kernel
theorem dX2_weight_30 : decode cX2_weight 30 = .ok (.invokevirtual 174, 3) := by decide +kernel
theorem dX2_weight_33 : decode cX2_weight 33 = .ok (.aload_n 0, 1) := by decide +kernel
theorem dX2_weight_34 : decode cX2_weight 34 = .ok (.aload_n 0, 1) := by decide +kernel
theorem dX2_weight_35 : decode cX2_weight 35 = .ok (.getfield 37, 3) := by decide +kernel
theorem dX2_weight_38 : decode cX2_weight 38 = .ok (.iload_n 1, 1) := by decide +kernel
theorem dX2_weight_39 : decode cX2_weight 39 = .ok (.aaload, 1) := by decide +kernel
theorem dX2_weight_40 : decode cX2_weight 40 = .ok (.iload_n 2, 1) := by decide +kernel
theorem dX2_weight_41 : decode cX2_weight 41 = .ok (.invokevirtual 178, 3) := by decide +kernel
theorem dX2_weight_44 : decode cX2_weight 44 = .ok (.ireturn, 1) := by decide +kernel
theorem dX2_odds_0 : decode cX2_odds 0 = .ok (.aload_n 0, 1) := by decide +kernel
theorem dX2_odds_1 : decode cX2_odds 1 = .ok (.iload_n 1, 1) := by decide +kernel
theorem dX2_odds_2 : decode cX2_odds 2 = .ok (.invokevirtual 142, 3) := by decide +kernel
theorem dX2_odds_5 : decode cX2_odds 5 = .ok (.ifCond .eq 7, 3) := by decide +kernel
theorem dX2_odds_8 : decode cX2_odds 8 = .ok (.ldc2_w 182, 3) := by decide +kernel
theorem dX2_odds_11 : decode cX2_odds 11 = .ok (.lreturn, 1) := by decide +kernel
theorem dX2_odds_12 : decode cX2_odds 12 = .ok (.iload_n 2, 1) := by decide +kernel
theorem dX2_odds_13 : decode cX2_odds 13 = .ok (.iconst 0, 1) := by decide +kernel
theorem dX2_odds_14 : decode cX2_odds 14 = .ok (.bipush 7, 2) := by decide +kernel
theorem dX2_odds_16 : decode cX2_odds 16 = .ok (.invokestatic 87, 3) := by decide +kernel
theorem dX2_odds_19 : decode cX2_odds 19 = .ok (.ifCond .ne 12, 3) := by decide +kernel
theorem dX2_odds_22 : decode cX2_odds 22 = .ok (.iload_n 3, 1) := by decide +kernel
theorem dX2_odds_23 : decode cX2_odds 23 = .ok (.iconst 0, 1) := by decide +kernel
theorem dX2_odds_24 : decode cX2_odds 24 = .ok (.iconst 1, 1) := by decide +kernel
theorem dX2_odds_25 : decode cX2_odds 25 = .ok (.invokestatic 87, 3) := by decide +kernel
theorem dX2_odds_28 : decode cX2_odds 28 = .ok (.ifCond .eq 7, 3) := by decide +kernel
theorem dX2_odds_31 : decode cX2_odds 31 = .ok (.ldc2_w 184, 3) := by decide +kernel
theorem dX2_odds_34 : decode cX2_odds 34 = .ok (.lreturn, 1) := by decide +kernel
theorem dX2_odds_35 : decode cX2_odds 35 = .ok (.aload_n 0, 1) := by decide +kernel
theorem dX2_odds_36 : decode cX2_odds 36 = .ok (.aload_n 0, 1) := by decide +kernel
theorem dX2_odds_37 : decode cX2_odds 37 = .ok (.getfield 37, 3) := by decide +kernel
theorem dX2_odds_40 : decode cX2_odds 40 = .ok (.iload_n 1, 1) := by decide +kernel
theorem dX2_odds_41 : decode cX2_odds 41 = .ok (.aaload, 1) := by decide +kernel
theorem dX2_odds_42 : decode cX2_odds 42 = .ok (.invokevirtual 174, 3) := by decide +kernel
theorem dX2_odds_45 : decode cX2_odds 45 = .ok (.aload_n 0, 1) := by decide +kernel
theorem dX2_odds_46 : decode cX2_odds 46 = .ok (.aload_n 0, 1) := by decide +kernel
theorem dX2_odds_47 : decode cX2_odds 47 = .ok (.getfield 37, 3) := by decide +kernel
theorem dX2_odds_50 : decode cX2_odds 50 = .ok (.iload_n 1, 1) := by decide +kernel
theorem dX2_odds_51 : decode cX2_odds 51 = .ok (.aaload, 1) := by decide +kernel
theorem dX2_odds_52 : decode cX2_odds 52 = .ok (.iload_n 2, 1) := by decide +kernel
theorem dX2_odds_53 : decode cX2_odds 53 = .ok (.invokevirtual 178, 3) := by decide +kernel
theorem dX2_odds_56 : decode cX2_odds 56 = .ok (.istore 4, 2) := by decide +kernel
theorem dX2_odds_58 : decode cX2_odds 58 = .ok (.iconst 0, 1) := by decide +kernel
theorem dX2_odds_59 : decode cX2_odds 59 = .ok (.istore 5, 2) := by decide +kernel
theorem dX2_odds_61 : decode cX2_odds 61 = .ok (.iconst 0, 1) := by decide +kernel
theorem dX2_odds_62 : decode cX2_odds 62 = .ok (.istore 6, 2) := by decide +kernel
theorem dX2_odds_64 : decode cX2_odds 64 = .ok (.iload 6, 2) := by decide +kernel
theorem dX2_odds_66 : decode cX2_odds 66 = .ok (.bipush 8, 2) := by decide +kernel
theorem dX2_odds_68 : decode cX2_odds 68 = .ok (.if_icmp .ge 26, 3) := by decide +kernel
theorem dX2_odds_71 : decode cX2_odds 71 = .ok (.iload 5, 2) := by decide +kernel
theorem dX2_odds_73 : decode cX2_odds 73 = .ok (.aload_n 0, 1) := by decide +kernel
theorem dX2_odds_74 : decode cX2_odds 74 = .ok (.aload_n 0, 1) := by decide +kernel
theorem dX2_odds_75 : decode cX2_odds 75 = .ok (.getfield 37, 3) := by decide +kernel
theorem dX2_odds_78 : decode cX2_odds 78 = .ok (.iload_n 1, 1) := by decide +kernel
theorem dX2_odds_79 : decode cX2_odds 79 = .ok (.aaload, 1) := by decide +kernel
theorem dX2_odds_80 : decode cX2_odds 80 = .ok (.iload 6, 2) := by decide +kernel
theorem dX2_odds_82 : decode cX2_odds 82 = .ok (.invokevirtual 178, 3) := by decide +kernel
theorem dX2_odds_85 : decode cX2_odds 85 = .ok (.iadd, 1) := by decide +kernel
theorem dX2_odds_86 : decode cX2_odds 86 = .ok (.istore 5, 2) := by decide +kernel
theorem dX2_odds_88 : decode cX2_odds 88 = .ok (.iinc 6 1, 3) := by decide +kernel
theorem dX2_odds_91 : decode cX2_odds 91 = .ok (.goto (-27), 3) := by decide +kernel
theorem dX2_odds_94 : decode cX2_odds 94 = .ok (.iload 4, 2) := by decide +kernel
theorem dX2_odds_96 : decode cX2_odds 96 = .ok (.iload 5, 2) := by decide +kernel
theorem dX2_odds_98 : decode cX2_odds 98 = .ok (.invokestatic 186, 3) := by decide +kernel
theorem dX2_odds_101 : decode cX2_odds 101 = .ok (.istore 6, 2) := by decide +kernel
theorem dX2_odds_103 : decode cX2_odds 103 = .ok (.iload_n 3, 1) := by decide +kernel
theorem dX2_odds_104 : decode cX2_odds 104 = .ok (.ifCond .ne 12, 3) := by decide +kernel
theorem dX2_odds_107 : decode cX2_odds 107 = .ok (.iload 4, 2) := by decide +kernel
theorem dX2_odds_109 : decode cX2_odds 109 = .ok (.iload 6, 2) := by decide +kernel
theorem dX2_odds_111 : decode cX2_odds 111 = .ok (.idiv, 1) := by decide +kernel
theorem dX2_odds_112 : decode cX2_odds 112 = .ok (.i2l, 1) := by decide +kernel
theorem dX2_odds_113 : decode cX2_odds 113 = .ok (.goto 9, 3) := by decide +kernel
theorem dX2_odds_116 : decode cX2_odds 116 = .ok (.iload 5, 2) := by decide +kernel
theorem dX2_odds_118 : decode cX2_odds 118 = .ok (.iload 6, 2) := by decide +kernel
theorem dX2_odds_120 : decode cX2_odds 120 = .ok (.idiv, 1) := by decide +kernel
theorem dX2_odds_121 : decode cX2_odds 121 = .ok (.i2l, 1) := by decide +kernel
theorem dX2_odds_122 : decode cX2_odds 122 = .ok (.lreturn, 1) := by decide +kernel
theorem dX2_best_0 : decode cX2_best 0 = .ok (.aload_n 0, 1) := by decide +kernel
theorem dX2_best_1 : decode cX2_best 1 = .ok (.iload_n 1, 1) := by decide +kernel
theorem dX2_best_2 : decode cX2_best 2 = .ok (.invokevirtual 142, 3) := by decide +kernel
theorem dX2_best_5 : decode cX2_best 5 = .ok (.ifCond .eq 5, 3) := by decide +kernel
theorem dX2_best_8 : decode cX2_best 8 = .ok (.iconst (-1), 1) := by decide +kernel
theorem dX2_best_9 : decode cX2_best 9 = .ok (.ireturn, 1) := by decide +kernel
theorem dX2_best_10 : decode cX2_best 10 = .ok (.aload_n 0, 1) := by decide +kernel
theorem dX2_best_11 : decode cX2_best 11 = .ok (.aload_n 0, 1) := by decide +kernel
theorem dX2_best_12 : decode cX2_best 12 = .ok (.getfield 37, 3) := by decide +kernel
theorem dX2_best_15 : decode cX2_best 15 = .ok (.iload_n 1, 1) := by decide +kernel
theorem dX2_best_16 : decode cX2_best 16 = .ok (.aaload, 1) := by decide +kernel
theorem dX2_best_17 : decode cX2_best 17 = .ok (.invokevirtual 174, 3) := by decide +kernel
theorem dX2_best_20 : decode cX2_best 20 = .ok (.aload_n 0, 1) := by decide +kernel
theorem dX2_best_21 : decode cX2_best 21 = .ok (.aload_n 0, 1) := by decide +kernel
theorem dX2_best_22 : decode cX2_best 22 = .ok (.getfield 37, 3) := by decide +kernel
theorem dX2_best_25 : decode cX2_best 25 = .ok (.iload_n 1, 1) := by decide +kernel
theorem dX2_best_26 : decode cX2_best 26 = .ok (.aaload, 1) := by decide +kernel
theorem dX2_best_27 : decode cX2_best 27 = .ok (.invokevirtual 189, 3) := by decide +kernel
theorem dX2_best_30 : decode cX2_best 30 = .ok (.ireturn, 1) := by decide +kernel
theorem dX2_landfall_0 : decode cX2_landfall 0 = .ok (.aload_n 0, 1) := by decide +kernel
theorem dX2_landfall_1 : decode cX2_landfall 1 = .ok (.iload_n 1, 1) := by decide +kernel
theorem dX2_landfall_2 : decode cX2_landfall 2 = .ok (.invokevirtual 142, 3) := by decide +kernel
theorem dX2_landfall_5 : decode cX2_landfall 5 = .ok (.ifCond .eq 6, 3) := by decide +kernel
theorem dX2_landfall_8 : decode cX2_landfall 8 = .ok (.ldc 91, 2) := by decide +kernel
theorem dX2_landfall_10 : decode cX2_landfall 10 = .ok (.ireturn, 1) := by decide +kernel
theorem dX2_landfall_11 : decode cX2_landfall 11 = .ok (.iload_n 2, 1) := by decide +kernel
theorem dX2_landfall_12 : decode cX2_landfall 12 = .ok (.invokestatic 92, 3) := by decide +kernel
theorem dX2_landfall_15 : decode cX2_landfall 15 = .ok (.ifCond .eq 6, 3) := by decide +kernel
theorem dX2_landfall_18 : decode cX2_landfall 18 = .ok (.ldc 95, 2) := by decide +kernel
theorem dX2_landfall_20 : decode cX2_landfall 20 = .ok (.ireturn, 1) := by decide +kernel
theorem dX2_landfall_21 : decode cX2_landfall 21 = .ok (.aload_n 0, 1) := by decide +kernel
theorem dX2_landfall_22 : decode cX2_landfall 22 = .ok (.aload_n 0, 1) := by decide +kernel
theorem dX2_landfall_23 : decode cX2_landfall 23 = .ok (.getfield 37, 3) := by decide +kernel
theorem dX2_landfall_26 : decode cX2_landfall 26 = .ok (.iload_n 1, 1) := by decide +kernel
theorem dX2_landfall_27 : decode cX2_landfall 27 = .ok (.aaload, 1) := by decide +kernel
theorem dX2_landfall_28 : decode cX2_landfall 28 = .ok (.invokevirtual 174, 3) := by decide +kernel
theorem dX2_landfall_31 : decode cX2_landfall 31 = .ok (.aload_n 0, 1) := by decide +kernel
theorem dX2_landfall_32 : decode cX2_landfall 32 = .ok (.aload_n 0, 1) := by decide +kernel
theorem dX2_landfall_33 : decode cX2_landfall 33 = .ok (.getfield 37, 3) := by decide +kernel
theorem dX2_landfall_36 : decode cX2_landfall 36 = .ok (.iload_n 1, 1) := by decide +kernel
theorem dX2_landfall_37 : decode cX2_landfall 37 = .ok (.aaload, 1) := by decide +kernel
theorem dX2_landfall_38 : decode cX2_landfall 38 = .ok (.invokevirtual 189, 3) := by decide +kernel
theorem dX2_landfall_41 : decode cX2_landfall 41 = .ok (.istore_n 3, 1) := by decide +kernel
theorem dX2_landfall_42 : decode cX2_landfall 42 = .ok (.iload_n 3, 1) := by decide +kernel
theorem dX2_landfall_43 : decode cX2_landfall 43 = .ok (.ifCond .ne 6, 3) := by decide +kernel
theorem dX2_landfall_46 : decode cX2_landfall 46 = .ok (.ldc 161, 2) := by decide +kernel
theorem dX2_landfall_48 : decode cX2_landfall 48 = .ok (.ireturn, 1) := by decide +kernel
theorem dX2_landfall_49 : decode cX2_landfall 49 = .ok (.iload_n 2, 1) := by decide +kernel
theorem dX2_landfall_50 : decode cX2_landfall 50 = .ok (.ifCond .ne 11, 3) := by decide +kernel
theorem dX2_landfall_53 : decode cX2_landfall 53 = .ok (.aload_n 0, 1) := by decide +kernel
theorem dX2_landfall_54 : decode cX2_landfall 54 = .ok (.iload_n 3, 1) := by decide +kernel
theorem dX2_landfall_55 : decode cX2_landfall 55 = .ok (.invokevirtual 193, 3) := by decide +kernel
theorem dX2_landfall_58 : decode cX2_landfall 58 = .ok (.goto 8, 3) := by decide +kernel
theorem dX2_landfall_61 : decode cX2_landfall 61 = .ok (.aload_n 0, 1) := by decide +kernel
theorem dX2_landfall_62 : decode cX2_landfall 62 = .ok (.iload_n 3, 1) := by decide +kernel
theorem dX2_landfall_63 : decode cX2_landfall 63 = .ok (.invokevirtual 196, 3) := by decide +kernel
theorem dX2_landfall_66 : decode cX2_landfall 66 = .ok (.ireturn, 1) := by decide +kernel
theorem dX2_suspect_0 : decode cX2_suspect 0 = .ok (.iload_n 1, 1) := by decide +kernel
theorem dX2_suspect_1 : decode cX2_suspect 1 = .ok (.invokestatic 64, 3) := by decide +kernel
theorem dX2_suspect_4 : decode cX2_suspect 4 = .ok (.ifCond .eq 5, 3) := by decide +kernel
theorem dX2_suspect_7 : decode cX2_suspect 7 = .ok (.iconst (-1), 1) := by decide +kernel
theorem dX2_suspect_8 : decode cX2_suspect 8 = .ok (.ireturn, 1) := by decide +kernel
theorem dX2_suspect_9 : decode cX2_suspect 9 = .ok (.aload_n 0, 1) := by decide +kernel
theorem dX2_suspect_10 : decode cX2_suspect 10 = .ok (.iload_n 1, 1) := by decide +kernel
theorem dX2_suspect_11 : decode cX2_suspect 11 = .ok (.invokevirtual 199, 3) := by decide +kernel
theorem dX2_suspect_14 : decode cX2_suspect 14 = .ok (.ireturn, 1) := by decide +kernel
theorem dX2_worst_0 : decode cX2_worst 0 = .ok (.iload_n 1, 1) := by decide +kernel
theorem dX2_worst_1 : decode cX2_worst 1 = .ok (.iconst 0, 1) := by decide +kernel
theorem dX2_worst_2 : decode cX2_worst 2 = .ok (.iconst 1, 1) := by decide +kernel
theorem dX2_worst_3 : decode cX2_worst 3 = .ok (.invokestatic 87, 3) := by decide +kernel
theorem dX2_worst_6 : decode cX2_worst 6 = .ok (.ifCond .eq 6, 3) := by decide +kernel
theorem dX2_worst_9 : decode cX2_worst 9 = .ok (.bipush (-2), 2) := by decide +kernel
theorem dX2_worst_11 : decode cX2_worst 11 = .ok (.ireturn, 1) := by decide +kernel
theorem dX2_worst_12 : decode cX2_worst 12 = .ok (.iconst 0, 1) := by decide +kernel
theorem dX2_worst_13 : decode cX2_worst 13 = .ok (.istore_n 2, 1) := by decide +kernel
theorem dX2_worst_14 : decode cX2_worst 14 = .ok (.iconst 0, 1) := by decide +kernel
theorem dX2_worst_15 : decode cX2_worst 15 = .ok (.istore_n 3, 1) := by decide +kernel
theorem dX2_worst_16 : decode cX2_worst 16 = .ok (.iconst 0, 1) := by decide +kernel
theorem dX2_worst_17 : decode cX2_worst 17 = .ok (.istore 4, 2) := by decide +kernel
theorem dX2_worst_19 : decode cX2_worst 19 = .ok (.iload 4, 2) := by decide +kernel
theorem dX2_worst_21 : decode cX2_worst 21 = .ok (.bipush 20, 2) := by decide +kernel
theorem dX2_worst_23 : decode cX2_worst 23 = .ok (.if_icmp .ge 29, 3) := by decide +kernel
theorem dX2_worst_26 : decode cX2_worst 26 = .ok (.aload_n 0, 1) := by decide +kernel
theorem dX2_worst_27 : decode cX2_worst 27 = .ok (.iload 4, 2) := by decide +kernel
theorem dX2_worst_29 : decode cX2_worst 29 = .ok (.invokevirtual 199, 3) := by decide +kernel
theorem dX2_worst_32 : decode cX2_worst 32 = .ok (.istore 5, 2) := by decide +kernel
theorem dX2_worst_34 : decode cX2_worst 34 = .ok (.iload 5, 2) := by decide +kernel
theorem dX2_worst_36 : decode cX2_worst 36 = .ok (.iload_n 3, 1) := by decide +kernel
theorem dX2_worst_37 : decode cX2_worst 37 = .ok (.if_icmp .le 9, 3) := by decide +kernel
theorem dX2_worst_40 : decode cX2_worst 40 = .ok (.iload 5, 2) := by decide +kernel
theorem dX2_worst_42 : decode cX2_worst 42 = .ok (.istore_n 3, 1) := by decide +kernel
theorem dX2_worst_43 : decode cX2_worst 43 = .ok (.iload 4, 2) := by decide +kernel
theorem dX2_worst_45 : decode cX2_worst 45 = .ok (.istore_n 2, 1) := by decide +kernel
theorem dX2_worst_46 : decode cX2_worst 46 = .ok (.iinc 4 1, 3) := by decide +kernel
theorem dX2_worst_49 : decode cX2_worst 49 = .ok (.goto (-30), 3) := by decide +kernel
theorem dX2_worst_52 : decode cX2_worst 52 = .ok (.iload_n 1, 1) := by decide +kernel
theorem dX2_worst_53 : decode cX2_worst 53 = .ok (.ifCond .ne 7, 3) := by decide +kernel
theorem dX2_worst_56 : decode cX2_worst 56 = .ok (.iload_n 2, 1) := by decide +kernel
theorem dX2_worst_57 : decode cX2_worst 57 = .ok (.goto 4, 3) := by decide +kernel
theorem dX2_worst_60 : decode cX2_worst 60 = .ok (.iload_n 3, 1) := by decide +kernel
theorem dX2_worst_61 : decode cX2_worst 61 = .ok (.ireturn, 1) := by decide +kernel
theorem dX2_slipped_0 : decode cX2_slipped 0 = .ok (.iload_n 1, 1) := by decide +kernel
theorem dX2_slipped_1 : decode cX2_slipped 1 = .ok (.invokestatic 64, 3) := by decide +kernel
theorem dX2_slipped_4 : decode cX2_slipped 4 = .ok (.ifCond .eq 6, 3) := by decide +kernel
theorem dX2_slipped_7 : decode cX2_slipped 7 = .ok (.ldc 91, 2) := by decide +kernel
theorem dX2_slipped_9 : decode cX2_slipped 9 = .ok (.ireturn, 1) := by decide +kernel
theorem dX2_slipped_10 : decode cX2_slipped 10 = .ok (.iload_n 2, 1) := by decide +kernel
theorem dX2_slipped_11 : decode cX2_slipped 11 = .ok (.invokestatic 92, 3) := by decide +kernel
theorem dX2_slipped_14 : decode cX2_slipped 14 = .ok (.ifCond .eq 6, 3) := by decide +kernel
theorem dX2_slipped_17 : decode cX2_slipped 17 = .ok (.ldc 95, 2) := by decide +kernel
theorem dX2_slipped_19 : decode cX2_slipped 19 = .ok (.ireturn, 1) := by decide +kernel
theorem dX2_slipped_20 : decode cX2_slipped 20 = .ok (.iload_n 2, 1) := by decide +kernel
theorem dX2_slipped_21 : decode cX2_slipped 21 = .ok (.ifCond .ne 14, 3) := by decide +kernel
theorem dX2_slipped_24 : decode cX2_slipped 24 = .ok (.aload_n 0, 1) := by decide +kernel
theorem dX2_slipped_25 : decode cX2_slipped 25 = .ok (.iload_n 1, 1) := by decide +kernel
theorem dX2_slipped_26 : decode cX2_slipped 26 = .ok (.bipush (-60), 2) := by decide +kernel
theorem dX2_slipped_28 : decode cX2_slipped 28 = .ok (.iconst 1, 1) := by decide +kernel
theorem dX2_slipped_29 : decode cX2_slipped 29 = .ok (.invokevirtual 202, 3) := by decide +kernel
theorem dX2_slipped_32 : decode cX2_slipped 32 = .ok (.goto 11, 3) := by decide +kernel
theorem dX2_slipped_35 : decode cX2_slipped 35 = .ok (.aload_n 0, 1) := by decide +kernel
theorem dX2_slipped_36 : decode cX2_slipped 36 = .ok (.iload_n 1, 1) := by decide +kernel
theorem dX2_slipped_37 : decode cX2_slipped 37 = .ok (.bipush 60, 2) := by decide +kernel
theorem dX2_slipped_39 : decode cX2_slipped 39 = .ok (.iconst (-1), 1) := by decide +kernel
theorem dX2_slipped_40 : decode cX2_slipped 40 = .ok (.invokevirtual 202, 3) := by decide +kernel
theorem dX2_slipped_43 : decode cX2_slipped 43 = .ok (.istore_n 3, 1) := by decide +kernel
theorem dX2_slipped_44 : decode cX2_slipped 44 = .ok (.iload_n 3, 1) := by decide +kernel
theorem dX2_slipped_45 : decode cX2_slipped 45 = .ok (.bipush 60, 2) := by decide +kernel
theorem dX2_slipped_47 : decode cX2_slipped 47 = .ok (.invokestatic 68, 3) := by decide +kernel
theorem dX2_slipped_50 : decode cX2_slipped 50 = .ok (.ifCond .eq 8, 3) := by decide +kernel
theorem dX2_slipped_53 : decode cX2_slipped 53 = .ok (.ldc 206, 2) := by decide +kernel
theorem dX2_slipped_55 : decode cX2_slipped 55 = .ok (.goto 4, 3) := by decide +kernel
theorem dX2_slipped_58 : decode cX2_slipped 58 = .ok (.iload_n 3, 1) := by decide +kernel
theorem dX2_slipped_59 : decode cX2_slipped 59 = .ok (.ireturn, 1) := by decide +kernel
theorem dX2_ask_0 : decode cX2_ask 0 = .ok (.iload_n 1, 1) := by decide +kernel
theorem dX2_ask_1 : decode cX2_ask 1 = .ok (.invokestatic 64, 3) := by decide +kernel
theorem dX2_ask_4 : decode cX2_ask 4 = .ok (.ifCond .eq 5, 3) := by decide +kernel
theorem dX2_ask_7 : decode cX2_ask 7 = .ok (.iconst (-1), 1) := by decide +kernel
theorem dX2_ask_8 : decode cX2_ask 8 = .ok (.ireturn, 1) := by decide +kernel
theorem dX2_ask_9 : decode cX2_ask 9 = .ok (.bipush (-6), 2) := by decide +kernel
theorem dX2_ask_11 : decode cX2_ask 11 = .ok (.istore_n 2, 1) := by decide +kernel
theorem dX2_ask_12 : decode cX2_ask 12 = .ok (.iconst 0, 1) := by decide +kernel
theorem dX2_ask_13 : decode cX2_ask 13 = .ok (.istore_n 3, 1) := by decide +kernel
theorem dX2_ask_14 : decode cX2_ask 14 = .ok (.iconst 0, 1) := by decide +kernel
theorem dX2_ask_15 : decode cX2_ask 15 = .ok (.istore 4, 2) := by decide +kernel
theorem dX2_ask_17 : decode cX2_ask 17 = .ok (.iload 4, 2) := by decide +kernel
theorem dX2_ask_19 : decode cX2_ask 19 = .ok (.aload_n 0, 1) := by decide +kernel
theorem dX2_ask_20 : decode cX2_ask 20 = .ok (.getfield 126, 3) := by decide +kernel
theorem dX2_ask_23 : decode cX2_ask 23 = .ok (.if_icmp .ge 101, 3) := by decide +kernel
theorem dX2_ask_26 : decode cX2_ask 26 = .ok (.iconst 0, 1) := by decide +kernel
theorem dX2_ask_27 : decode cX2_ask 27 = .ok (.istore 5, 2) := by decide +kernel
theorem dX2_ask_29 : decode cX2_ask 29 = .ok (.iload 5, 2) := by decide +kernel
theorem dX2_ask_31 : decode cX2_ask 31 = .ok (.iconst 3, 1) := by decide +kernel
theorem dX2_ask_32 : decode cX2_ask 32 = .ok (.if_icmp .ge 86, 3) := by decide +kernel
theorem dX2_ask_35 : decode cX2_ask 35 = .ok (.aload_n 0, 1) := by decide +kernel
theorem dX2_ask_36 : decode cX2_ask 36 = .ok (.aload_n 0, 1) := by decide +kernel
theorem dX2_ask_37 : decode cX2_ask 37 = .ok (.getfield 37, 3) := by decide +kernel
theorem dX2_ask_40 : decode cX2_ask 40 = .ok (.iload 4, 2) := by decide +kernel
theorem dX2_ask_42 : decode cX2_ask 42 = .ok (.aaload, 1) := by decide +kernel
theorem dX2_ask_43 : decode cX2_ask 43 = .ok (.iload 5, 2) := by decide +kernel
theorem dX2_ask_45 : decode cX2_ask 45 = .ok (.invokevirtual 207, 3) := by decide +kernel
theorem dX2_ask_48 : decode cX2_ask 48 = .ok (.ifCond .eq 64, 3) := by decide +kernel
theorem dX2_ask_51 : decode cX2_ask 51 = .ok (.aload_n 0, 1) := by decide +kernel
theorem dX2_ask_52 : decode cX2_ask 52 = .ok (.aload_n 0, 1) := by decide +kernel
theorem dX2_ask_53 : decode cX2_ask 53 = .ok (.getfield 37, 3) := by decide +kernel
theorem dX2_ask_56 : decode cX2_ask 56 = .ok (.iload 4, 2) := by decide +kernel
theorem dX2_ask_58 : decode cX2_ask 58 = .ok (.aaload, 1) := by decide +kernel
theorem dX2_ask_59 : decode cX2_ask 59 = .ok (.iload 5, 2) := by decide +kernel
theorem dX2_ask_61 : decode cX2_ask 61 = .ok (.invokevirtual 157, 3) := by decide +kernel
theorem dX2_ask_64 : decode cX2_ask 64 = .ok (.ifCond .eq 48, 3) := by decide +kernel
theorem dX2_ask_67 : decode cX2_ask 67 = .ok (.aload_n 0, 1) := by decide +kernel
theorem dX2_ask_68 : decode cX2_ask 68 = .ok (.getfield 19, 3) := by decide +kernel
theorem dX2_ask_71 : decode cX2_ask 71 = .ok (.getfield 99, 3) := by decide +kernel
theorem dX2_ask_74 : decode cX2_ask 74 = .ok (.iload_n 1, 1) := by decide +kernel
theorem dX2_ask_75 : decode cX2_ask 75 = .ok (.iaload, 1) := by decide +kernel
theorem dX2_ask_76 : decode cX2_ask 76 = .ok (.aload_n 0, 1) := by decide +kernel
theorem dX2_ask_77 : decode cX2_ask 77 = .ok (.getfield 19, 3) := by decide +kernel
theorem dX2_ask_80 : decode cX2_ask 80 = .ok (.getfield 96, 3) := by decide +kernel
theorem dX2_ask_83 : decode cX2_ask 83 = .ok (.iload_n 1, 1) := by decide +kernel
theorem dX2_ask_84 : decode cX2_ask 84 = .ok (.iaload, 1) := by decide +kernel
theorem dX2_ask_85 : decode cX2_ask 85 = .ok (.isub, 1) := by decide +kernel
theorem dX2_ask_86 : decode cX2_ask 86 = .ok (.istore 6, 2) := by decide +kernel
theorem dX2_ask_88 : decode cX2_ask 88 = .ok (.iload_n 2, 1) := by decide +kernel
theorem dX2_ask_89 : decode cX2_ask 89 = .ok (.bipush (-6), 2) := by decide +kernel
theorem dX2_ask_91 : decode cX2_ask 91 = .ok (.if_icmp .eq 9, 3) := by decide +kernel
theorem dX2_ask_94 : decode cX2_ask 94 = .ok (.iload 6, 2) := by decide +kernel
theorem dX2_ask_96 : decode cX2_ask 96 = .ok (.iload_n 3, 1) := by decide +kernel
theorem dX2_ask_97 : decode cX2_ask 97 = .ok (.if_icmp .ge 15, 3) := by decide +kernel
theorem dX2_ask_100 : decode cX2_ask 100 = .ok (.bipush 10, 2) := by decide +kernel
theorem dX2_ask_102 : decode cX2_ask 102 = .ok (.iload 4, 2) := by decide +kernel
theorem dX2_ask_104 : decode cX2_ask 104 = .ok (.imul, 1) := by decide +kernel
theorem dX2_ask_105 : decode cX2_ask 105 = .ok (.iload 5, 2) := by decide +kernel
theorem dX2_ask_107 : decode cX2_ask 107 = .ok (.iadd, 1) := by decide +kernel
theorem dX2_ask_108 : decode cX2_ask 108 = .ok (.istore_n 2, 1) := by decide +kernel
theorem dX2_ask_109 : decode cX2_ask 109 = .ok (.iload 6, 2) := by decide +kernel
theorem dX2_ask_111 : decode cX2_ask 111 = .ok (.istore_n 3, 1) := by decide +kernel
theorem dX2_ask_112 : decode cX2_ask 112 = .ok (.iinc 5 1, 3) := by decide +kernel
theorem dX2_ask_115 : decode cX2_ask 115 = .ok (.goto (-86), 3) := by decide +kernel
theorem dX2_ask_118 : decode cX2_ask 118 = .ok (.iinc 4 1, 3) := by decide +kernel
theorem dX2_ask_121 : decode cX2_ask 121 = .ok (.goto (-104), 3) := by decide +kernel
theorem dX2_ask_124 : decode cX2_ask 124 = .ok (.iload_n 2, 1) := by decide +kernel
theorem dX2_ask_125 : decode cX2_ask 125 = .ok (.ireturn, 1) := by decide +kernel
theorem dX2_carry_0 : decode cX2_carry 0 = .ok (.iload_n 1, 1) := by decide +kernel
theorem dX2_carry_1 : decode cX2_carry 1 = .ok (.iconst 0, 1) := by decide +kernel
theorem dX2_carry_2 : decode cX2_carry 2 = .ok (.iconst 3, 1) := by decide +kernel
theorem dX2_carry_3 : decode cX2_carry 3 = .ok (.invokestatic 87, 3) := by decide +kernel
theorem dX2_carry_6 : decode cX2_carry 6 = .ok (.ifCond .ne 20, 3) := by decide +kernel
theorem dX2_carry_9 : decode cX2_carry 9 = .ok (.aload_n 0, 1) := by decide +kernel
theorem dX2_carry_10 : decode cX2_carry 10 = .ok (.iload_n 2, 1) := by decide +kernel
theorem dX2_carry_11 : decode cX2_carry 11 = .ok (.iload_n 3, 1) := by decide +kernel
theorem dX2_carry_12 : decode cX2_carry 12 = .ok (.invokevirtual 129, 3) := by decide +kernel
theorem dX2_carry_15 : decode cX2_carry 15 = .ok (.ifCond .ne 11, 3) := by decide +kernel
theorem dX2_carry_18 : decode cX2_carry 18 = .ok (.iload 4, 2) := by decide +kernel
theorem dX2_carry_20 : decode cX2_carry 20 = .ok (.invokestatic 64, 3) := by decide +kernel
theorem dX2_carry_23 : decode cX2_carry 23 = .ok (.ifCond .eq 5, 3) := by decide +kernel
theorem dX2_carry_26 : decode cX2_carry 26 = .ok (.iconst (-1), 1) := by decide +kernel
theorem dX2_carry_27 : decode cX2_carry 27 = .ok (.ireturn, 1) := by decide +kernel
theorem dX2_carry_28 : decode cX2_carry 28 = .ok (.iload 5, 2) := by decide +kernel
theorem dX2_carry_30 : decode cX2_carry 30 = .ok (.sipush 9999, 3) := by decide +kernel
theorem dX2_carry_33 : decode cX2_carry 33 = .ok (.invokestatic 68, 3) := by decide +kernel
theorem dX2_carry_36 : decode cX2_carry 36 = .ok (.ifCond .eq 6, 3) := by decide +kernel
theorem dX2_carry_39 : decode cX2_carry 39 = .ok (.bipush (-2), 2) := by decide +kernel
theorem dX2_carry_41 : decode cX2_carry 41 = .ok (.ireturn, 1) := by decide +kernel
theorem dX2_carry_42 : decode cX2_carry 42 = .ok (.aload_n 0, 1) := by decide +kernel
theorem dX2_carry_43 : decode cX2_carry 43 = .ok (.aload_n 0, 1) := by decide +kernel
theorem dX2_carry_44 : decode cX2_carry 44 = .ok (.getfield 37, 3) := by decide +kernel
theorem dX2_carry_47 : decode cX2_carry 47 = .ok (.iload_n 2, 1) := by decide +kernel
theorem dX2_carry_48 : decode cX2_carry 48 = .ok (.aaload, 1) := by decide +kernel
theorem dX2_carry_49 : decode cX2_carry 49 = .ok (.iload_n 3, 1) := by decide +kernel
theorem dX2_carry_50 : decode cX2_carry 50 = .ok (.invokevirtual 157, 3) := by decide +kernel
theorem dX2_carry_53 : decode cX2_carry 53 = .ok (.ifCond .ne 6, 3) := by decide +kernel
theorem dX2_carry_56 : decode cX2_carry 56 = .ok (.bipush (-3), 2) := by decide +kernel
theorem dX2_carry_58 : decode cX2_carry 58 = .ok (.ireturn, 1) := by decide +kernel
theorem dX2_carry_59 : decode cX2_carry 59 = .ok (.aload_n 0, 1) := by decide +kernel
theorem dX2_carry_60 : decode cX2_carry 60 = .ok (.getfield 41, 3) := by decide +kernel
theorem dX2_carry_63 : decode cX2_carry 63 = .ok (.iload_n 1, 1) := by decide +kernel
theorem dX2_carry_64 : decode cX2_carry 64 = .ok (.iaload, 1) := by decide +kernel
theorem dX2_carry_65 : decode cX2_carry 65 = .ok (.iload 5, 2) := by decide +kernel
theorem dX2_carry_67 : decode cX2_carry 67 = .ok (.aload_n 0, 1) := by decide +kernel
theorem dX2_carry_68 : decode cX2_carry 68 = .ok (.getfield 19, 3) := by decide +kernel
theorem dX2_carry_71 : decode cX2_carry 71 = .ok (.getfield 99, 3) := by decide +kernel
theorem dX2_carry_74 : decode cX2_carry 74 = .ok (.iload 4, 2) := by decide +kernel
theorem dX2_carry_76 : decode cX2_carry 76 = .ok (.iaload, 1) := by decide +kernel
theorem dX2_carry_77 : decode cX2_carry 77 = .ok (.isub, 1) := by decide +kernel
theorem dX2_carry_78 : decode cX2_carry 78 = .ok (.iconst 2, 1) := by decide +kernel
theorem dX2_carry_79 : decode cX2_carry 79 = .ok (.isub, 1) := by decide +kernel
theorem dX2_carry_80 : decode cX2_carry 80 = .ok (.invokestatic 210, 3) := by decide +kernel
theorem dX2_carry_83 : decode cX2_carry 83 = .ok (.istore 6, 2) := by decide +kernel
theorem dX2_carry_85 : decode cX2_carry 85 = .ok (.aload_n 0, 1) := by decide +kernel
theorem dX2_carry_86 : decode cX2_carry 86 = .ok (.getfield 44, 3) := by decide +kernel
theorem dX2_carry_89 : decode cX2_carry 89 = .ok (.iload_n 1, 1) := by decide +kernel
theorem dX2_carry_90 : decode cX2_carry 90 = .ok (.iaload, 1) := by decide +kernel
theorem dX2_carry_91 : decode cX2_carry 91 = .ok (.iload 5, 2) := by decide +kernel
theorem dX2_carry_93 : decode cX2_carry 93 = .ok (.aload_n 0, 1) := by decide +kernel
theorem dX2_carry_94 : decode cX2_carry 94 = .ok (.getfield 19, 3) := by decide +kernel
theorem dX2_carry_97 : decode cX2_carry 97 = .ok (.getfield 96, 3) := by decide +kernel
theorem dX2_carry_100 : decode cX2_carry 100 = .ok (.iload 4, 2) := by decide +kernel
theorem dX2_carry_102 : decode cX2_carry 102 = .ok (.iaload, 1) := by decide +kernel
theorem dX2_carry_103 : decode cX2_carry 103 = .ok (.isub, 1) := by decide +kernel
theorem dX2_carry_104 : decode cX2_carry 104 = .ok (.iconst 2, 1) := by decide +kernel
theorem dX2_carry_105 : decode cX2_carry 105 = .ok (.iadd, 1) := by decide +kernel
theorem dX2_carry_106 : decode cX2_carry 106 = .ok (.invokestatic 215, 3) := by decide +kernel
theorem dX2_carry_109 : decode cX2_carry 109 = .ok (.istore 7, 2) := by decide +kernel
theorem dX2_carry_111 : decode cX2_carry 111 = .ok (.iload 6, 2) := by decide +kernel
theorem dX2_carry_113 : decode cX2_carry 113 = .ok (.iload 7, 2) := by decide +kernel
theorem dX2_carry_115 : decode cX2_carry 115 = .ok (.if_icmp .le 6, 3) := by decide +kernel
theorem dX2_carry_118 : decode cX2_carry 118 = .ok (.bipush (-5), 2) := by decide +kernel
theorem dX2_carry_120 : decode cX2_carry 120 = .ok (.ireturn, 1) := by decide +kernel
theorem dX2_carry_121 : decode cX2_carry 121 = .ok (.aload_n 0, 1) := by decide +kernel
theorem dX2_carry_122 : decode cX2_carry 122 = .ok (.getfield 41, 3) := by decide +kernel
theorem dX2_carry_125 : decode cX2_carry 125 = .ok (.iload_n 1, 1) := by decide +kernel
theorem dX2_carry_126 : decode cX2_carry 126 = .ok (.iload 6, 2) := by decide +kernel
theorem dX2_carry_128 : decode cX2_carry 128 = .ok (.iastore, 1) := by decide +kernel
theorem dX2_carry_129 : decode cX2_carry 129 = .ok (.aload_n 0, 1) := by decide +kernel
theorem dX2_carry_130 : decode cX2_carry 130 = .ok (.getfield 44, 3) := by decide +kernel
theorem dX2_carry_133 : decode cX2_carry 133 = .ok (.iload_n 1, 1) := by decide +kernel
theorem dX2_carry_134 : decode cX2_carry 134 = .ok (.iload 7, 2) := by decide +kernel
theorem dX2_carry_136 : decode cX2_carry 136 = .ok (.iastore, 1) := by decide +kernel
theorem dX2_carry_137 : decode cX2_carry 137 = .ok (.iconst 1, 1) := by decide +kernel
theorem dX2_carry_138 : decode cX2_carry 138 = .ok (.ireturn, 1) := by decide +kernel
theorem dX2_port_0 : decode cX2_port 0 = .ok (.iload_n 1, 1) := by decide +kernel
theorem dX2_port_1 : decode cX2_port 1 = .ok (.iconst 0, 1) := by decide +kernel
theorem dX2_port_2 : decode cX2_port 2 = .ok (.iconst 3, 1) := by decide +kernel
theorem dX2_port_3 : decode cX2_port 3 = .ok (.invokestatic 87, 3) := by decide +kernel
theorem dX2_port_6 : decode cX2_port 6 = .ok (.ifCond .eq 6, 3) := by decide +kernel
theorem dX2_port_9 : decode cX2_port 9 = .ok (.ldc 91, 2) := by decide +kernel
theorem dX2_port_11 : decode cX2_port 11 = .ok (.ireturn, 1) := by decide +kernel
theorem dX2_port_12 : decode cX2_port 12 = .ok (.iload_n 2, 1) := by decide +kernel
theorem dX2_port_13 : decode cX2_port 13 = .ok (.invokestatic 92, 3) := by decide +kernel
theorem dX2_port_16 : decode cX2_port 16 = .ok (.ifCond .eq 6, 3) := by decide +kernel
theorem dX2_port_19 : decode cX2_port 19 = .ok (.ldc 95, 2) := by decide +kernel
theorem dX2_port_21 : decode cX2_port 21 = .ok (.ireturn, 1) := by decide +kernel
theorem dX2_port_22 : decode cX2_port 22 = .ok (.iload_n 2, 1) := by decide +kernel
theorem dX2_port_23 : decode cX2_port 23 = .ok (.ifCond .ne 12, 3) := by decide +kernel
theorem dX2_port_26 : decode cX2_port 26 = .ok (.aload_n 0, 1) := by decide +kernel
theorem dX2_port_27 : decode cX2_port 27 = .ok (.getfield 41, 3) := by decide +kernel
theorem dX2_port_30 : decode cX2_port 30 = .ok (.iload_n 1, 1) := by decide +kernel
theorem dX2_port_31 : decode cX2_port 31 = .ok (.iaload, 1) := by decide +kernel
theorem dX2_port_32 : decode cX2_port 32 = .ok (.goto 9, 3) := by decide +kernel
theorem dX2_port_35 : decode cX2_port 35 = .ok (.aload_n 0, 1) := by decide +kernel
theorem dX2_port_36 : decode cX2_port 36 = .ok (.getfield 44, 3) := by decide +kernel
theorem dX2_port_39 : decode cX2_port 39 = .ok (.iload_n 1, 1) := by decide +kernel
theorem dX2_port_40 : decode cX2_port 40 = .ok (.iaload, 1) := by decide +kernel
theorem dX2_port_41 : decode cX2_port 41 = .ok (.ireturn, 1) := by decide +kernel
theorem dX2_told_0 : decode cX2_told 0 = .ok (.iload_n 1, 1) := by decide +kernel
theorem dX2_told_1 : decode cX2_told 1 = .ok (.tableswitch 94 0 7 #[47, 52, 57, 62, 67, 67, 67, 67], 47) := by decide +kernel
theorem dX2_told_48 : decode cX2_told 48 = .ok (.aload_n 0, 1) := by decide +kernel
theorem dX2_told_49 : decode cX2_told 49 = .ok (.getfield 72, 3) := by decide +kernel
theorem dX2_told_52 : decode cX2_told 52 = .ok (.ireturn, 1) := by decide +kernel
theorem dX2_told_53 : decode cX2_told 53 = .ok (.aload_n 0, 1) := by decide +kernel
theorem dX2_told_54 : decode cX2_told 54 = .ok (.getfield 126, 3) := by decide +kernel
theorem dX2_told_57 : decode cX2_told 57 = .ok (.ireturn, 1) := by decide +kernel
theorem dX2_told_58 : decode cX2_told 58 = .ok (.aload_n 0, 1) := by decide +kernel
theorem dX2_told_59 : decode cX2_told 59 = .ok (.getfield 53, 3) := by decide +kernel
theorem dX2_told_62 : decode cX2_told 62 = .ok (.ireturn, 1) := by decide +kernel
theorem dX2_told_63 : decode cX2_told 63 = .ok (.aload_n 0, 1) := by decide +kernel
theorem dX2_told_64 : decode cX2_told 64 = .ok (.getfield 108, 3) := by decide +kernel
theorem dX2_told_67 : decode cX2_told 67 = .ok (.ireturn, 1) := by decide +kernel
theorem dX2_told_68 : decode cX2_told 68 = .ok (.aload_n 0, 1) := by decide +kernel
theorem dX2_told_69 : decode cX2_told 69 = .ok (.iload_n 1, 1) := by decide +kernel
theorem dX2_told_70 : decode cX2_told 70 = .ok (.iconst 4, 1) := by decide +kernel
theorem dX2_told_71 : decode cX2_told 71 = .ok (.isub, 1) := by decide +kernel
theorem dX2_told_72 : decode cX2_told 72 = .ok (.invokevirtual 142, 3) := by decide +kernel
theorem dX2_told_75 : decode cX2_told 75 = .ok (.ifCond .eq 8, 3) := by decide +kernel
theorem dX2_told_78 : decode cX2_told 78 = .ok (.bipush (-6), 2) := by decide +kernel
theorem dX2_told_80 : decode cX2_told 80 = .ok (.goto 14, 3) := by decide +kernel
theorem dX2_told_83 : decode cX2_told 83 = .ok (.aload_n 0, 1) := by decide +kernel
theorem dX2_told_84 : decode cX2_told 84 = .ok (.getfield 37, 3) := by decide +kernel
theorem dX2_told_87 : decode cX2_told 87 = .ok (.iload_n 1, 1) := by decide +kernel
theorem dX2_told_88 : decode cX2_told 88 = .ok (.iconst 4, 1) := by decide +kernel
theorem dX2_told_89 : decode cX2_told 89 = .ok (.isub, 1) := by decide +kernel
theorem dX2_told_90 : decode cX2_told 90 = .ok (.aaload, 1) := by decide +kernel
theorem dX2_told_91 : decode cX2_told 91 = .ok (.getfield 145, 3) := by decide +kernel
theorem dX2_told_94 : decode cX2_told 94 = .ok (.ireturn, 1) := by decide +kernel
theorem dX2_told_95 : decode cX2_told 95 = .ok (.bipush (-2), 2) := by decide +kernel
theorem dX2_told_97 : decode cX2_told 97 = .ok (.ireturn, 1) := by decide +kernel
theorem dX2_outside_0 : decode cX2_outside 0 = .ok (.iload_n 0, 1) := by decide +kernel
theorem dX2_outside_1 : decode cX2_outside 1 = .ok (.iload_n 1, 1) := by decide +kernel
theorem dX2_outside_2 : decode cX2_outside 2 = .ok (.if_icmp .lt 8, 3) := by decide +kernel
theorem dX2_outside_5 : decode cX2_outside 5 = .ok (.iload_n 0, 1) := by decide +kernel
theorem dX2_outside_6 : decode cX2_outside 6 = .ok (.iload_n 2, 1) := by decide +kernel
theorem dX2_outside_7 : decode cX2_outside 7 = .ok (.if_icmp .le 7, 3) := by decide +kernel
theorem dX2_outside_10 : decode cX2_outside 10 = .ok (.iconst 1, 1) := by decide +kernel
theorem dX2_outside_11 : decode cX2_outside 11 = .ok (.goto 4, 3) := by decide +kernel
theorem dX2_outside_14 : decode cX2_outside 14 = .ok (.iconst 0, 1) := by decide +kernel
theorem dX2_outside_15 : decode cX2_outside 15 = .ok (.ireturn, 1) := by decide +kernel
theorem dX2_beyond_0 : decode cX2_beyond 0 = .ok (.iload_n 0, 1) := by decide +kernel
theorem dX2_beyond_1 : decode cX2_beyond 1 = .ok (.iload_n 1, 1) := by decide +kernel
theorem dX2_beyond_2 : decode cX2_beyond 2 = .ok (.ineg, 1) := by decide +kernel
theorem dX2_beyond_3 : decode cX2_beyond 3 = .ok (.if_icmp .lt 8, 3) := by decide +kernel
theorem dX2_beyond_6 : decode cX2_beyond 6 = .ok (.iload_n 0, 1) := by decide +kernel
theorem dX2_beyond_7 : decode cX2_beyond 7 = .ok (.iload_n 1, 1) := by decide +kernel
theorem dX2_beyond_8 : decode cX2_beyond 8 = .ok (.if_icmp .le 7, 3) := by decide +kernel
theorem dX2_beyond_11 : decode cX2_beyond 11 = .ok (.iconst 1, 1) := by decide +kernel
theorem dX2_beyond_12 : decode cX2_beyond 12 = .ok (.goto 4, 3) := by decide +kernel
theorem dX2_beyond_15 : decode cX2_beyond 15 = .ok (.iconst 0, 1) := by decide +kernel
theorem dX2_beyond_16 : decode cX2_beyond 16 = .ok (.ireturn, 1) := by decide +kernel
theorem dX2_noDay_0 : decode cX2_noDay 0 = .ok (.iload_n 0, 1) := by decide +kernel
theorem dX2_noDay_1 : decode cX2_noDay 1 = .ok (.ifCond .lt 9, 3) := by decide +kernel
theorem dX2_noDay_4 : decode cX2_noDay 4 = .ok (.iload_n 0, 1) := by decide +kernel
theorem dX2_noDay_5 : decode cX2_noDay 5 = .ok (.bipush 20, 2) := by decide +kernel
theorem dX2_noDay_7 : decode cX2_noDay 7 = .ok (.if_icmp .lt 7, 3) := by decide +kernel
theorem dX2_noDay_10 : decode cX2_noDay 10 = .ok (.iconst 1, 1) := by decide +kernel
theorem dX2_noDay_11 : decode cX2_noDay 11 = .ok (.goto 4, 3) := by decide +kernel
theorem dX2_noDay_14 : decode cX2_noDay 14 = .ok (.iconst 0, 1) := by decide +kernel
theorem dX2_noDay_15 : decode cX2_noDay 15 = .ok (.ireturn, 1) := by decide +kernel
theorem dX2_noEnd_0 : decode cX2_noEnd 0 = .ok (.iload_n 0, 1) := by decide +kernel
theorem dX2_noEnd_1 : decode cX2_noEnd 1 = .ok (.ifCond .eq 12, 3) := by decide +kernel
theorem dX2_noEnd_4 : decode cX2_noEnd 4 = .ok (.iload_n 0, 1) := by decide +kernel
theorem dX2_noEnd_5 : decode cX2_noEnd 5 = .ok (.iconst 1, 1) := by decide +kernel
theorem dX2_noEnd_6 : decode cX2_noEnd 6 = .ok (.if_icmp .eq 7, 3) := by decide +kernel
theorem dX2_noEnd_9 : decode cX2_noEnd 9 = .ok (.iconst 1, 1) := by decide +kernel
theorem dX2_noEnd_10 : decode cX2_noEnd 10 = .ok (.goto 4, 3) := by decide +kernel
theorem dX2_noEnd_13 : decode cX2_noEnd 13 = .ok (.iconst 0, 1) := by decide +kernel
theorem dX2_noEnd_14 : decode cX2_noEnd 14 = .ok (.ireturn, 1) := by decide +kernel
theorem dX2_noShip_0 : decode cX2_noShip 0 = .ok (.iload_n 1, 1) := by decide +kernel
theorem dX2_noShip_1 : decode cX2_noShip 1 = .ok (.ifCond .lt 11, 3) := by decide +kernel
theorem dX2_noShip_4 : decode cX2_noShip 4 = .ok (.iload_n 1, 1) := by decide +kernel
theorem dX2_noShip_5 : decode cX2_noShip 5 = .ok (.aload_n 0, 1) := by decide +kernel
theorem dX2_noShip_6 : decode cX2_noShip 6 = .ok (.getfield 126, 3) := by decide +kernel
theorem dX2_noShip_9 : decode cX2_noShip 9 = .ok (.if_icmp .lt 7, 3) := by decide +kernel
theorem dX2_noShip_12 : decode cX2_noShip 12 = .ok (.iconst 1, 1) := by decide +kernel
theorem dX2_noShip_13 : decode cX2_noShip 13 = .ok (.goto 4, 3) := by decide +kernel
theorem dX2_noShip_16 : decode cX2_noShip 16 = .ok (.iconst 0, 1) := by decide +kernel
theorem dX2_noShip_17 : decode cX2_noShip 17 = .ok (.ireturn, 1) := by decide +kernel
theorem dX2_noClock_0 : decode cX2_noClock 0 = .ok (.aload_n 0, 1) := by decide +kernel
theorem dX2_noClock_1 : decode cX2_noClock 1 = .ok (.iload_n 1, 1) := by decide +kernel
theorem dX2_noClock_2 : decode cX2_noClock 2 = .ok (.invokevirtual 142, 3) := by decide +kernel
theorem dX2_noClock_5 : decode cX2_noClock 5 = .ok (.ifCond .ne 12, 3) := by decide +kernel
theorem dX2_noClock_8 : decode cX2_noClock 8 = .ok (.iload_n 2, 1) := by decide +kernel
theorem dX2_noClock_9 : decode cX2_noClock 9 = .ok (.ifCond .lt 8, 3) := by decide +kernel
theorem dX2_noClock_12 : decode cX2_noClock 12 = .ok (.iload_n 2, 1) := by decide +kernel
theorem dX2_noClock_13 : decode cX2_noClock 13 = .ok (.iconst 3, 1) := by decide +kernel
theorem dX2_noClock_14 : decode cX2_noClock 14 = .ok (.if_icmp .lt 7, 3) := by decide +kernel
theorem dX2_noClock_17 : decode cX2_noClock 17 = .ok (.iconst 1, 1) := by decide +kernel
theorem dX2_noClock_18 : decode cX2_noClock 18 = .ok (.goto 4, 3) := by decide +kernel
theorem dX2_noClock_21 : decode cX2_noClock 21 = .ok (.iconst 0, 1) := by decide +kernel
theorem dX2_noClock_22 : decode cX2_noClock 22 = .ok (.ireturn, 1) := by decide +kernel
theorem dX2_bitOf_0 : decode cX2_bitOf 0 = .ok (.iload_n 0, 1) := by decide +kernel
theorem dX2_bitOf_1 : decode cX2_bitOf 1 = .ok (.iload_n 1, 1) := by decide +kernel
theorem dX2_bitOf_2 : decode cX2_bitOf 2 = .ok (.ishr, 1) := by decide +kernel
theorem dX2_bitOf_3 : decode cX2_bitOf 3 = .ok (.iconst 1, 1) := by decide +kernel
theorem dX2_bitOf_4 : decode cX2_bitOf 4 = .ok (.iand, 1) := by decide +kernel
theorem dX2_bitOf_5 : decode cX2_bitOf 5 = .ok (.ireturn, 1) := by decide +kernel
theorem dX2_withBit_0 : decode cX2_withBit 0 = .ok (.iload_n 2, 1) := by decide +kernel
theorem dX2_withBit_1 : decode cX2_withBit 1 = .ok (.ifCond .eq 11, 3) := by decide +kernel
theorem dX2_withBit_4 : decode cX2_withBit 4 = .ok (.iload_n 0, 1) := by decide +kernel
theorem dX2_withBit_5 : decode cX2_withBit 5 = .ok (.iconst 1, 1) := by decide +kernel
theorem dX2_withBit_6 : decode cX2_withBit 6 = .ok (.iload_n 1, 1) := by decide +kernel
theorem dX2_withBit_7 : decode cX2_withBit 7 = .ok (.ishl, 1) := by decide +kernel
theorem dX2_withBit_8 : decode cX2_withBit 8 = .ok (.ior, 1) := by decide +kernel
theorem dX2_withBit_9 : decode cX2_withBit 9 = .ok (.goto 10, 3) := by decide +kernel
theorem dX2_withBit_12 : decode cX2_withBit 12 = .ok (.iload_n 0, 1) := by decide +kernel
theorem dX2_withBit_13 : decode cX2_withBit 13 = .ok (.iconst 1, 1) := by decide +kernel
theorem dX2_withBit_14 : decode cX2_withBit 14 = .ok (.iload_n 1, 1) := by decide +kernel
theorem dX2_withBit_15 : decode cX2_withBit 15 = .ok (.ishl, 1) := by decide +kernel
theorem dX2_withBit_16 : decode cX2_withBit 16 = .ok (.iconst (-1), 1) := by decide +kernel
theorem dX2_withBit_17 : decode cX2_withBit 17 = .ok (.ixor, 1) := by decide +kernel
theorem dX2_withBit_18 : decode cX2_withBit 18 = .ok (.iand, 1) := by decide +kernel
theorem dX2_withBit_19 : decode cX2_withBit 19 = .ok (.ireturn, 1) := by decide +kernel
theorem dX2_cutUp_0 : decode cX2_cutUp 0 = .ok (.iload_n 0, 1) := by decide +kernel
theorem dX2_cutUp_1 : decode cX2_cutUp 1 = .ok (.ineg, 1) := by decide +kernel
theorem dX2_cutUp_2 : decode cX2_cutUp 2 = .ok (.iload_n 1, 1) := by decide +kernel
theorem dX2_cutUp_3 : decode cX2_cutUp 3 = .ok (.invokestatic 218, 3) := by decide +kernel
theorem dX2_cutUp_6 : decode cX2_cutUp 6 = .ok (.ineg, 1) := by decide +kernel
theorem dX2_cutUp_7 : decode cX2_cutUp 7 = .ok (.ireturn, 1) := by decide +kernel
theorem dX2_greatestDivisor_0 : decode cX2_greatestDivisor 0 = .ok (.iload_n 0, 1) := by decide +kernel
theorem dX2_greatestDivisor_1 : decode cX2_greatestDivisor 1 = .ok (.istore_n 2, 1) := by decide +kernel
theorem dX2_greatestDivisor_2 : decode cX2_greatestDivisor 2 = .ok (.iload_n 1, 1) := by decide +kernel
theorem dX2_greatestDivisor_3 : decode cX2_greatestDivisor 3 = .ok (.istore_n 3, 1) := by decide +kernel
theorem dX2_greatestDivisor_4 : decode cX2_greatestDivisor 4 = .ok (.iconst 0, 1) := by decide +kernel
theorem dX2_greatestDivisor_5 : decode cX2_greatestDivisor 5 = .ok (.istore 4, 2) := by decide +kernel
theorem dX2_greatestDivisor_7 : decode cX2_greatestDivisor 7 = .ok (.iload 4, 2) := by decide +kernel
theorem dX2_greatestDivisor_9 : decode cX2_greatestDivisor 9 = .ok (.bipush 100, 2) := by decide +kernel
theorem dX2_greatestDivisor_11 : decode cX2_greatestDivisor 11 = .ok (.if_icmp .ge 23, 3) := by decide +kernel
theorem dX2_greatestDivisor_14 : decode cX2_greatestDivisor 14 = .ok (.iload_n 3, 1) := by decide +kernel
theorem dX2_greatestDivisor_15 : decode cX2_greatestDivisor 15 = .ok (.ifCond .eq 19, 3) := by decide +kernel
theorem dX2_greatestDivisor_18 : decode cX2_greatestDivisor 18 = .ok (.iload_n 2, 1) := by decide +kernel
theorem dX2_greatestDivisor_19 : decode cX2_greatestDivisor 19 = .ok (.iload_n 3, 1) := by decide +kernel
theorem dX2_greatestDivisor_20 : decode cX2_greatestDivisor 20 = .ok (.irem, 1) := by decide +kernel
theorem dX2_greatestDivisor_21 : decode cX2_greatestDivisor 21 = .ok (.istore 5, 2) := by decide +kernel
theorem dX2_greatestDivisor_23 : decode cX2_greatestDivisor 23 = .ok (.iload_n 3, 1) := by decide +kernel
theorem dX2_greatestDivisor_24 : decode cX2_greatestDivisor 24 = .ok (.istore_n 2, 1) := by decide +kernel
theorem dX2_greatestDivisor_25 : decode cX2_greatestDivisor 25 = .ok (.iload 5, 2) := by decide +kernel
theorem dX2_greatestDivisor_27 : decode cX2_greatestDivisor 27 = .ok (.istore_n 3, 1) := by decide +kernel
theorem dX2_greatestDivisor_28 : decode cX2_greatestDivisor 28 = .ok (.iinc 4 1, 3) := by decide +kernel
theorem dX2_greatestDivisor_31 : decode cX2_greatestDivisor 31 = .ok (.goto (-24), 3) := by decide +kernel
theorem dX2_greatestDivisor_34 : decode cX2_greatestDivisor 34 = .ok (.iconst 1, 1) := by decide +kernel
theorem dX2_greatestDivisor_35 : decode cX2_greatestDivisor 35 = .ok (.iload_n 2, 1) := by decide +kernel
theorem dX2_greatestDivisor_36 : decode cX2_greatestDivisor 36 = .ok (.invokestatic 210, 3) := by decide +kernel
theorem dX2_greatestDivisor_39 : decode cX2_greatestDivisor 39 = .ok (.ireturn, 1) := by decide +kernel
theorem dX2_middleOff_0 : decode cX2_middleOff 0 = .ok (.aload_n 0, 1) := by decide +kernel
theorem dX2_middleOff_1 : decode cX2_middleOff 1 = .ok (.getfield 10, 3) := by decide +kernel
theorem dX2_middleOff_4 : decode cX2_middleOff 4 = .ok (.getfield 96, 3) := by decide +kernel
theorem dX2_middleOff_7 : decode cX2_middleOff 7 = .ok (.iload_n 1, 1) := by decide +kernel
theorem dX2_middleOff_8 : decode cX2_middleOff 8 = .ok (.iaload, 1) := by decide +kernel
theorem dX2_middleOff_9 : decode cX2_middleOff 9 = .ok (.aload_n 0, 1) := by decide +kernel
theorem dX2_middleOff_10 : decode cX2_middleOff 10 = .ok (.getfield 10, 3) := by decide +kernel
theorem dX2_middleOff_13 : decode cX2_middleOff 13 = .ok (.getfield 99, 3) := by decide +kernel
theorem dX2_middleOff_16 : decode cX2_middleOff 16 = .ok (.iload_n 1, 1) := by decide +kernel
theorem dX2_middleOff_17 : decode cX2_middleOff 17 = .ok (.iaload, 1) := by decide +kernel
theorem dX2_middleOff_18 : decode cX2_middleOff 18 = .ok (.iadd, 1) := by decide +kernel
theorem dX2_middleOff_19 : decode cX2_middleOff 19 = .ok (.iconst 2, 1) := by decide +kernel
theorem dX2_middleOff_20 : decode cX2_middleOff 20 = .ok (.invokestatic 218, 3) := by decide +kernel
theorem dX2_middleOff_23 : decode cX2_middleOff 23 = .ok (.ireturn, 1) := by decide +kernel
theorem dX2_leastLate_0 : decode cX2_leastLate 0 = .ok (.aload_n 0, 1) := by decide +kernel
theorem dX2_leastLate_1 : decode cX2_leastLate 1 = .ok (.iload_n 1, 1) := by decide +kernel
theorem dX2_leastLate_2 : decode cX2_leastLate 2 = .ok (.invokevirtual 221, 3) := by decide +kernel
theorem dX2_leastLate_5 : decode cX2_leastLate 5 = .ok (.aload_n 0, 1) := by decide +kernel
theorem dX2_leastLate_6 : decode cX2_leastLate 6 = .ok (.getfield 10, 3) := by decide +kernel
theorem dX2_leastLate_9 : decode cX2_leastLate 9 = .ok (.getfield 99, 3) := by decide +kernel
theorem dX2_leastLate_12 : decode cX2_leastLate 12 = .ok (.iload_n 1, 1) := by decide +kernel
theorem dX2_leastLate_13 : decode cX2_leastLate 13 = .ok (.iaload, 1) := by decide +kernel
theorem dX2_leastLate_14 : decode cX2_leastLate 14 = .ok (.isub, 1) := by decide +kernel
theorem dX2_leastLate_15 : decode cX2_leastLate 15 = .ok (.aload_n 0, 1) := by decide +kernel
theorem dX2_leastLate_16 : decode cX2_leastLate 16 = .ok (.getfield 22, 3) := by decide +kernel
theorem dX2_leastLate_19 : decode cX2_leastLate 19 = .ok (.iconst 0, 1) := by decide +kernel
theorem dX2_leastLate_20 : decode cX2_leastLate 20 = .ok (.iaload, 1) := by decide +kernel
theorem dX2_leastLate_21 : decode cX2_leastLate 21 = .ok (.iadd, 1) := by decide +kernel
theorem dX2_leastLate_22 : decode cX2_leastLate 22 = .ok (.aload_n 0, 1) := by decide +kernel
theorem dX2_leastLate_23 : decode cX2_leastLate 23 = .ok (.getfield 22, 3) := by decide +kernel
theorem dX2_leastLate_26 : decode cX2_leastLate 26 = .ok (.iconst 1, 1) := by decide +kernel
theorem dX2_leastLate_27 : decode cX2_leastLate 27 = .ok (.iaload, 1) := by decide +kernel
theorem dX2_leastLate_28 : decode cX2_leastLate 28 = .ok (.iadd, 1) := by decide +kernel
theorem dX2_leastLate_29 : decode cX2_leastLate 29 = .ok (.aload_n 0, 1) := by decide +kernel
theorem dX2_leastLate_30 : decode cX2_leastLate 30 = .ok (.getfield 29, 3) := by decide +kernel
theorem dX2_leastLate_33 : decode cX2_leastLate 33 = .ok (.iload_n 1, 1) := by decide +kernel
theorem dX2_leastLate_34 : decode cX2_leastLate 34 = .ok (.iaload, 1) := by decide +kernel
theorem dX2_leastLate_35 : decode cX2_leastLate 35 = .ok (.iadd, 1) := by decide +kernel
theorem dX2_leastLate_36 : decode cX2_leastLate 36 = .ok (.ireturn, 1) := by decide +kernel
theorem dX2_greatestLate_0 : decode cX2_greatestLate 0 = .ok (.aload_n 0, 1) := by decide +kernel
theorem dX2_greatestLate_1 : decode cX2_greatestLate 1 = .ok (.iload_n 1, 1) := by decide +kernel
theorem dX2_greatestLate_2 : decode cX2_greatestLate 2 = .ok (.invokevirtual 221, 3) := by decide +kernel
theorem dX2_greatestLate_5 : decode cX2_greatestLate 5 = .ok (.aload_n 0, 1) := by decide +kernel
theorem dX2_greatestLate_6 : decode cX2_greatestLate 6 = .ok (.getfield 10, 3) := by decide +kernel
theorem dX2_greatestLate_9 : decode cX2_greatestLate 9 = .ok (.getfield 96, 3) := by decide +kernel
theorem dX2_greatestLate_12 : decode cX2_greatestLate 12 = .ok (.iload_n 1, 1) := by decide +kernel
theorem dX2_greatestLate_13 : decode cX2_greatestLate 13 = .ok (.iaload, 1) := by decide +kernel
theorem dX2_greatestLate_14 : decode cX2_greatestLate 14 = .ok (.isub, 1) := by decide +kernel
theorem dX2_greatestLate_15 : decode cX2_greatestLate 15 = .ok (.aload_n 0, 1) := by decide +kernel
theorem dX2_greatestLate_16 : decode cX2_greatestLate 16 = .ok (.getfield 26, 3) := by decide +kernel
theorem dX2_greatestLate_19 : decode cX2_greatestLate 19 = .ok (.iconst 0, 1) := by decide +kernel
theorem dX2_greatestLate_20 : decode cX2_greatestLate 20 = .ok (.iaload, 1) := by decide +kernel
theorem dX2_greatestLate_21 : decode cX2_greatestLate 21 = .ok (.iadd, 1) := by decide +kernel
theorem dX2_greatestLate_22 : decode cX2_greatestLate 22 = .ok (.aload_n 0, 1) := by decide +kernel
theorem dX2_greatestLate_23 : decode cX2_greatestLate 23 = .ok (.getfield 26, 3) := by decide +kernel
theorem dX2_greatestLate_26 : decode cX2_greatestLate 26 = .ok (.iconst 1, 1) := by decide +kernel
theorem dX2_greatestLate_27 : decode cX2_greatestLate 27 = .ok (.iaload, 1) := by decide +kernel
theorem dX2_greatestLate_28 : decode cX2_greatestLate 28 = .ok (.iadd, 1) := by decide +kernel
theorem dX2_greatestLate_29 : decode cX2_greatestLate 29 = .ok (.aload_n 0, 1) := by decide +kernel
theorem dX2_greatestLate_30 : decode cX2_greatestLate 30 = .ok (.getfield 29, 3) := by decide +kernel
theorem dX2_greatestLate_33 : decode cX2_greatestLate 33 = .ok (.iload_n 1, 1) := by decide +kernel
theorem dX2_greatestLate_34 : decode cX2_greatestLate 34 = .ok (.iaload, 1) := by decide +kernel
theorem dX2_greatestLate_35 : decode cX2_greatestLate 35 = .ok (.iadd, 1) := by decide +kernel
theorem dX2_greatestLate_36 : decode cX2_greatestLate 36 = .ok (.ireturn, 1) := by decide +kernel
theorem dX2_soonestNoted_0 : decode cX2_soonestNoted 0 = .ok (.iload_n 0, 1) := by decide +kernel
theorem dX2_soonestNoted_1 : decode cX2_soonestNoted 1 = .ok (.iconst 2, 1) := by decide +kernel
theorem dX2_soonestNoted_2 : decode cX2_soonestNoted 2 = .ok (.if_icmp .ne 9, 3) := by decide +kernel
theorem dX2_soonestNoted_5 : decode cX2_soonestNoted 5 = .ok (.iconst 5, 1) := by decide +kernel
theorem dX2_soonestNoted_6 : decode cX2_soonestNoted 6 = .ok (.iload_n 1, 1) := by decide +kernel
theorem dX2_soonestNoted_7 : decode cX2_soonestNoted 7 = .ok (.imul, 1) := by decide +kernel
theorem dX2_soonestNoted_8 : decode cX2_soonestNoted 8 = .ok (.iconst 3, 1) := by decide +kernel
theorem dX2_soonestNoted_9 : decode cX2_soonestNoted 9 = .ok (.isub, 1) := by decide +kernel
theorem dX2_soonestNoted_10 : decode cX2_soonestNoted 10 = .ok (.ireturn, 1) := by decide +kernel
theorem dX2_soonestNoted_11 : decode cX2_soonestNoted 11 = .ok (.iload_n 0, 1) := by decide +kernel
theorem dX2_soonestNoted_12 : decode cX2_soonestNoted 12 = .ok (.iconst 1, 1) := by decide +kernel
theorem dX2_soonestNoted_13 : decode cX2_soonestNoted 13 = .ok (.if_icmp .ne 7, 3) := by decide +kernel
theorem dX2_soonestNoted_16 : decode cX2_soonestNoted 16 = .ok (.iconst (-1), 1) := by decide +kernel
theorem dX2_soonestNoted_17 : decode cX2_soonestNoted 17 = .ok (.goto 5, 3) := by decide +kernel
theorem dX2_soonestNoted_20 : decode cX2_soonestNoted 20 = .ok (.bipush (-2), 2) := by decide +kernel
theorem dX2_soonestNoted_22 : decode cX2_soonestNoted 22 = .ok (.ireturn, 1) := by decide +kernel
theorem dX2_latestNoted_0 : decode cX2_latestNoted 0 = .ok (.iload_n 0, 1) := by decide +kernel
theorem dX2_latestNoted_1 : decode cX2_latestNoted 1 = .ok (.iconst 2, 1) := by decide +kernel
theorem dX2_latestNoted_2 : decode cX2_latestNoted 2 = .ok (.if_icmp .ne 10, 3) := by decide +kernel
theorem dX2_latestNoted_5 : decode cX2_latestNoted 5 = .ok (.bipush 7, 2) := by decide +kernel
theorem dX2_latestNoted_7 : decode cX2_latestNoted 7 = .ok (.iload_n 1, 1) := by decide +kernel
theorem dX2_latestNoted_8 : decode cX2_latestNoted 8 = .ok (.imul, 1) := by decide +kernel
theorem dX2_latestNoted_9 : decode cX2_latestNoted 9 = .ok (.iconst 3, 1) := by decide +kernel
theorem dX2_latestNoted_10 : decode cX2_latestNoted 10 = .ok (.iadd, 1) := by decide +kernel
theorem dX2_latestNoted_11 : decode cX2_latestNoted 11 = .ok (.ireturn, 1) := by decide +kernel
theorem dX2_latestNoted_12 : decode cX2_latestNoted 12 = .ok (.iload_n 0, 1) := by decide +kernel
theorem dX2_latestNoted_13 : decode cX2_latestNoted 13 = .ok (.iconst 1, 1) := by decide +kernel
theorem dX2_latestNoted_14 : decode cX2_latestNoted 14 = .ok (.if_icmp .ne 7, 3) := by decide +kernel
theorem dX2_latestNoted_17 : decode cX2_latestNoted 17 = .ok (.iconst 1, 1) := by decide +kernel
theorem dX2_latestNoted_18 : decode cX2_latestNoted 18 = .ok (.goto 4, 3) := by decide +kernel
theorem dX2_latestNoted_21 : decode cX2_latestNoted 21 = .ok (.iconst 2, 1) := by decide +kernel
theorem dX2_latestNoted_22 : decode cX2_latestNoted 22 = .ok (.ireturn, 1) := by decide +kernel
theorem dX2_counts_0 : decode cX2_counts 0 = .ok (.aload_n 1, 1) := by decide +kernel
theorem dX2_counts_1 : decode cX2_counts 1 = .ok (.getfield 224, 3) := by decide +kernel
theorem dX2_counts_4 : decode cX2_counts 4 = .ok (.iload_n 2, 1) := by decide +kernel
theorem dX2_counts_5 : decode cX2_counts 5 = .ok (.baload, 1) := by decide +kernel
theorem dX2_counts_6 : decode cX2_counts 6 = .ok (.ifCond .eq 24, 3) := by decide +kernel
theorem dX2_counts_9 : decode cX2_counts 9 = .ok (.aload_n 0, 1) := by decide +kernel
theorem dX2_counts_10 : decode cX2_counts 10 = .ok (.getfield 108, 3) := by decide +kernel
theorem dX2_counts_13 : decode cX2_counts 13 = .ok (.aload_n 1, 1) := by decide +kernel
theorem dX2_counts_14 : decode cX2_counts 14 = .ok (.getfield 148, 3) := by decide +kernel
theorem dX2_counts_17 : decode cX2_counts 17 = .ok (.iand, 1) := by decide +kernel
theorem dX2_counts_18 : decode cX2_counts 18 = .ok (.iconst 1, 1) := by decide +kernel
theorem dX2_counts_19 : decode cX2_counts 19 = .ok (.aload_n 1, 1) := by decide +kernel
theorem dX2_counts_20 : decode cX2_counts 20 = .ok (.getfield 228, 3) := by decide +kernel
theorem dX2_counts_23 : decode cX2_counts 23 = .ok (.iload_n 2, 1) := by decide +kernel
theorem dX2_counts_24 : decode cX2_counts 24 = .ok (.iaload, 1) := by decide +kernel
theorem dX2_counts_25 : decode cX2_counts 25 = .ok (.ishl, 1) := by decide +kernel
theorem dX2_counts_26 : decode cX2_counts 26 = .ok (.iand, 1) := by decide +kernel
theorem dX2_counts_27 : decode cX2_counts 27 = .ok (.ifCond .ne 7, 3) := by decide +kernel
theorem dX2_counts_30 : decode cX2_counts 30 = .ok (.iconst 1, 1) := by decide +kernel
theorem dX2_counts_31 : decode cX2_counts 31 = .ok (.goto 4, 3) := by decide +kernel
theorem dX2_counts_34 : decode cX2_counts 34 = .ok (.iconst 0, 1) := by decide +kernel
theorem dX2_counts_35 : decode cX2_counts 35 = .ok (.ireturn, 1) := by decide +kernel
theorem dX2_isTold_0 : decode cX2_isTold 0 = .ok (.iconst 0, 1) := by decide +kernel
theorem dX2_isTold_1 : decode cX2_isTold 1 = .ok (.istore_n 3, 1) := by decide +kernel
theorem dX2_isTold_2 : decode cX2_isTold 2 = .ok (.iload_n 3, 1) := by decide +kernel
theorem dX2_isTold_3 : decode cX2_isTold 3 = .ok (.aload_n 1, 1) := by decide +kernel
theorem dX2_isTold_4 : decode cX2_isTold 4 = .ok (.getfield 145, 3) := by decide +kernel
theorem dX2_isTold_7 : decode cX2_isTold 7 = .ok (.if_icmp .ge 30, 3) := by decide +kernel
theorem dX2_isTold_10 : decode cX2_isTold 10 = .ok (.aload_n 1, 1) := by decide +kernel
theorem dX2_isTold_11 : decode cX2_isTold 11 = .ok (.getfield 231, 3) := by decide +kernel
theorem dX2_isTold_14 : decode cX2_isTold 14 = .ok (.iload_n 3, 1) := by decide +kernel
theorem dX2_isTold_15 : decode cX2_isTold 15 = .ok (.iaload, 1) := by decide +kernel
theorem dX2_isTold_16 : decode cX2_isTold 16 = .ok (.iload_n 2, 1) := by decide +kernel
theorem dX2_isTold_17 : decode cX2_isTold 17 = .ok (.if_icmp .ne 14, 3) := by decide +kernel
theorem dX2_isTold_20 : decode cX2_isTold 20 = .ok (.aload_n 0, 1) := by decide +kernel
theorem dX2_isTold_21 : decode cX2_isTold 21 = .ok (.aload_n 1, 1) := by decide +kernel
theorem dX2_isTold_22 : decode cX2_isTold 22 = .ok (.iload_n 3, 1) := by decide +kernel
theorem dX2_isTold_23 : decode cX2_isTold 23 = .ok (.invokevirtual 234, 3) := by decide +kernel
theorem dX2_isTold_26 : decode cX2_isTold 26 = .ok (.ifCond .eq 5, 3) := by decide +kernel
theorem dX2_isTold_29 : decode cX2_isTold 29 = .ok (.iconst 1, 1) := by decide +kernel
theorem dX2_isTold_30 : decode cX2_isTold 30 = .ok (.ireturn, 1) := by decide +kernel
theorem dX2_isTold_31 : decode cX2_isTold 31 = .ok (.iinc 3 1, 3) := by decide +kernel
theorem dX2_isTold_34 : decode cX2_isTold 34 = .ok (.goto (-32), 3) := by decide +kernel
theorem dX2_isTold_37 : decode cX2_isTold 37 = .ok (.iconst 0, 1) := by decide +kernel
theorem dX2_isTold_38 : decode cX2_isTold 38 = .ok (.ireturn, 1) := by decide +kernel
theorem dX2_isSetOn_0 : decode cX2_isSetOn 0 = .ok (.iconst 0, 1) := by decide +kernel
theorem dX2_isSetOn_1 : decode cX2_isSetOn 1 = .ok (.istore 4, 2) := by decide +kernel
theorem dX2_isSetOn_3 : decode cX2_isSetOn 3 = .ok (.iload 4, 2) := by decide +kernel
theorem dX2_isSetOn_5 : decode cX2_isSetOn 5 = .ok (.aload_n 1, 1) := by decide +kernel
theorem dX2_isSetOn_6 : decode cX2_isSetOn 6 = .ok (.getfield 145, 3) := by decide +kernel
theorem dX2_isSetOn_9 : decode cX2_isSetOn 9 = .ok (.if_icmp .ge 53, 3) := by decide +kernel
theorem dX2_isSetOn_12 : decode cX2_isSetOn 12 = .ok (.aload_n 1, 1) := by decide +kernel
theorem dX2_isSetOn_13 : decode cX2_isSetOn 13 = .ok (.getfield 231, 3) := by decide +kernel
theorem dX2_isSetOn_16 : decode cX2_isSetOn 16 = .ok (.iload 4, 2) := by decide +kernel
theorem dX2_isSetOn_18 : decode cX2_isSetOn 18 = .ok (.iaload, 1) := by decide +kernel
theorem dX2_isSetOn_19 : decode cX2_isSetOn 19 = .ok (.iload_n 2, 1) := by decide +kernel
theorem dX2_isSetOn_20 : decode cX2_isSetOn 20 = .ok (.if_icmp .ne 36, 3) := by decide +kernel
theorem dX2_isSetOn_23 : decode cX2_isSetOn 23 = .ok (.aload_n 1, 1) := by decide +kernel
theorem dX2_isSetOn_24 : decode cX2_isSetOn 24 = .ok (.getfield 224, 3) := by decide +kernel
theorem dX2_isSetOn_27 : decode cX2_isSetOn 27 = .ok (.iload 4, 2) := by decide +kernel
theorem dX2_isSetOn_29 : decode cX2_isSetOn 29 = .ok (.baload, 1) := by decide +kernel
theorem dX2_isSetOn_30 : decode cX2_isSetOn 30 = .ok (.ifCond .eq 26, 3) := by decide +kernel
theorem dX2_isSetOn_33 : decode cX2_isSetOn 33 = .ok (.aload_n 1, 1) := by decide +kernel
theorem dX2_isSetOn_34 : decode cX2_isSetOn 34 = .ok (.getfield 228, 3) := by decide +kernel
theorem dX2_isSetOn_37 : decode cX2_isSetOn 37 = .ok (.iload 4, 2) := by decide +kernel
theorem dX2_isSetOn_39 : decode cX2_isSetOn 39 = .ok (.iaload, 1) := by decide +kernel
theorem dX2_isSetOn_40 : decode cX2_isSetOn 40 = .ok (.iload_n 3, 1) := by decide +kernel
theorem dX2_isSetOn_41 : decode cX2_isSetOn 41 = .ok (.if_icmp .ne 15, 3) := by decide +kernel
theorem dX2_isSetOn_44 : decode cX2_isSetOn 44 = .ok (.aload_n 0, 1) := by decide +kernel
theorem dX2_isSetOn_45 : decode cX2_isSetOn 45 = .ok (.aload_n 1, 1) := by decide +kernel
theorem dX2_isSetOn_46 : decode cX2_isSetOn 46 = .ok (.iload 4, 2) := by decide +kernel
theorem dX2_isSetOn_48 : decode cX2_isSetOn 48 = .ok (.invokevirtual 234, 3) := by decide +kernel
theorem dX2_isSetOn_51 : decode cX2_isSetOn 51 = .ok (.ifCond .eq 5, 3) := by decide +kernel
theorem dX2_isSetOn_54 : decode cX2_isSetOn 54 = .ok (.iconst 1, 1) := by decide +kernel
theorem dX2_isSetOn_55 : decode cX2_isSetOn 55 = .ok (.ireturn, 1) := by decide +kernel
theorem dX2_isSetOn_56 : decode cX2_isSetOn 56 = .ok (.iinc 4 1, 3) := by decide +kernel
theorem dX2_isSetOn_59 : decode cX2_isSetOn 59 = .ok (.goto (-56), 3) := by decide +kernel
theorem dX2_isSetOn_62 : decode cX2_isSetOn 62 = .ok (.iconst 0, 1) := by decide +kernel
theorem dX2_isSetOn_63 : decode cX2_isSetOn 63 = .ok (.ireturn, 1) := by decide +kernel
theorem dX2_learn_0 : decode cX2_learn 0 = .ok (.aload_n 0, 1) := by decide +kernel
theorem dX2_learn_1 : decode cX2_learn 1 = .ok (.aload_n 1, 1) := by decide +kernel
theorem dX2_learn_2 : decode cX2_learn 2 = .ok (.iload_n 2, 1) := by decide +kernel
theorem dX2_learn_3 : decode cX2_learn 3 = .ok (.iconst (-1), 1) := by decide +kernel
theorem dX2_learn_4 : decode cX2_learn 4 = .ok (.iconst (-1), 1) := by decide +kernel
theorem dX2_learn_5 : decode cX2_learn 5 = .ok (.iconst 0, 1) := by decide +kernel
theorem dX2_learn_6 : decode cX2_learn 6 = .ok (.invokevirtual 237, 3) := by decide +kernel
theorem dX2_learn_9 : decode cX2_learn 9 = .ok (.ireturn, 1) := by decide +kernel
theorem dX2_learnBut_0 : decode cX2_learnBut 0 = .ok (.aload_n 0, 1) := by decide +kernel
theorem dX2_learnBut_1 : decode cX2_learnBut 1 = .ok (.getfield 19, 3) := by decide +kernel
theorem dX2_learnBut_4 : decode cX2_learnBut 4 = .ok (.ldc 63, 2) := by decide +kernel
theorem dX2_learnBut_6 : decode cX2_learnBut 6 = .ok (.bipush 99, 2) := by decide +kernel
theorem dX2_learnBut_8 : decode cX2_learnBut 8 = .ok (.invokevirtual 57, 3) := by decide +kernel
theorem dX2_learnBut_11 : decode cX2_learnBut 11 = .ok (.iconst 0, 1) := by decide +kernel
theorem dX2_learnBut_12 : decode cX2_learnBut 12 = .ok (.istore 6, 2) := by decide +kernel
theorem dX2_learnBut_14 : decode cX2_learnBut 14 = .ok (.iload 6, 2) := by decide +kernel
theorem dX2_learnBut_16 : decode cX2_learnBut 16 = .ok (.aload_n 1, 1) := by decide +kernel
theorem dX2_learnBut_17 : decode cX2_learnBut 17 = .ok (.getfield 145, 3) := by decide +kernel
theorem dX2_learnBut_20 : decode cX2_learnBut 20 = .ok (.if_icmp .ge 139, 3) := by decide +kernel
theorem dX2_learnBut_23 : decode cX2_learnBut 23 = .ok (.aload_n 1, 1) := by decide +kernel
theorem dX2_learnBut_24 : decode cX2_learnBut 24 = .ok (.getfield 231, 3) := by decide +kernel
theorem dX2_learnBut_27 : decode cX2_learnBut 27 = .ok (.iload 6, 2) := by decide +kernel
theorem dX2_learnBut_29 : decode cX2_learnBut 29 = .ok (.iaload, 1) := by decide +kernel
theorem dX2_learnBut_30 : decode cX2_learnBut 30 = .ok (.iload_n 2, 1) := by decide +kernel
theorem dX2_learnBut_31 : decode cX2_learnBut 31 = .ok (.if_icmp .ne 122, 3) := by decide +kernel
theorem dX2_learnBut_34 : decode cX2_learnBut 34 = .ok (.aload_n 0, 1) := by decide +kernel
theorem dX2_learnBut_35 : decode cX2_learnBut 35 = .ok (.aload_n 1, 1) := by decide +kernel
theorem dX2_learnBut_36 : decode cX2_learnBut 36 = .ok (.iload 6, 2) := by decide +kernel
theorem dX2_learnBut_38 : decode cX2_learnBut 38 = .ok (.invokevirtual 234, 3) := by decide +kernel
theorem dX2_learnBut_41 : decode cX2_learnBut 41 = .ok (.ifCond .eq 112, 3) := by decide +kernel
theorem dX2_learnBut_44 : decode cX2_learnBut 44 = .ok (.aload_n 1, 1) := by decide +kernel
theorem dX2_learnBut_45 : decode cX2_learnBut 45 = .ok (.getfield 228, 3) := by decide +kernel
theorem dX2_learnBut_48 : decode cX2_learnBut 48 = .ok (.iload 6, 2) := by decide +kernel
theorem dX2_learnBut_50 : decode cX2_learnBut 50 = .ok (.iaload, 1) := by decide +kernel
theorem dX2_learnBut_51 : decode cX2_learnBut 51 = .ok (.istore 7, 2) := by decide +kernel
theorem dX2_learnBut_53 : decode cX2_learnBut 53 = .ok (.aload_n 1, 1) := by decide +kernel
theorem dX2_learnBut_54 : decode cX2_learnBut 54 = .ok (.getfield 224, 3) := by decide +kernel
theorem dX2_learnBut_57 : decode cX2_learnBut 57 = .ok (.iload 6, 2) := by decide +kernel
theorem dX2_learnBut_59 : decode cX2_learnBut 59 = .ok (.baload, 1) := by decide +kernel
theorem dX2_learnBut_60 : decode cX2_learnBut 60 = .ok (.ifCond .ne 29, 3) := by decide +kernel
theorem dX2_learnBut_63 : decode cX2_learnBut 63 = .ok (.aload_n 0, 1) := by decide +kernel
theorem dX2_learnBut_64 : decode cX2_learnBut 64 = .ok (.getfield 19, 3) := by decide +kernel
theorem dX2_learnBut_67 : decode cX2_learnBut 67 = .ok (.iload 7, 2) := by decide +kernel
theorem dX2_learnBut_69 : decode cX2_learnBut 69 = .ok (.aload_n 1, 1) := by decide +kernel
theorem dX2_learnBut_70 : decode cX2_learnBut 70 = .ok (.getfield 241, 3) := by decide +kernel
theorem dX2_learnBut_73 : decode cX2_learnBut 73 = .ok (.iload 6, 2) := by decide +kernel
theorem dX2_learnBut_75 : decode cX2_learnBut 75 = .ok (.iaload, 1) := by decide +kernel
theorem dX2_learnBut_76 : decode cX2_learnBut 76 = .ok (.aload_n 1, 1) := by decide +kernel
theorem dX2_learnBut_77 : decode cX2_learnBut 77 = .ok (.getfield 244, 3) := by decide +kernel
theorem dX2_learnBut_80 : decode cX2_learnBut 80 = .ok (.iload 6, 2) := by decide +kernel
theorem dX2_learnBut_82 : decode cX2_learnBut 82 = .ok (.iaload, 1) := by decide +kernel
theorem dX2_learnBut_83 : decode cX2_learnBut 83 = .ok (.invokevirtual 79, 3) := by decide +kernel
theorem dX2_learnBut_86 : decode cX2_learnBut 86 = .ok (.goto 67, 3) := by decide +kernel
theorem dX2_learnBut_89 : decode cX2_learnBut 89 = .ok (.iload 7, 2) := by decide +kernel
theorem dX2_learnBut_91 : decode cX2_learnBut 91 = .ok (.iload_n 3, 1) := by decide +kernel
theorem dX2_learnBut_92 : decode cX2_learnBut 92 = .ok (.if_icmp .eq 61, 3) := by decide +kernel
theorem dX2_learnBut_95 : decode cX2_learnBut 95 = .ok (.iload 7, 2) := by decide +kernel
theorem dX2_learnBut_97 : decode cX2_learnBut 97 = .ok (.iload 4, 2) := by decide +kernel
theorem dX2_learnBut_99 : decode cX2_learnBut 99 = .ok (.if_icmp .ne 8, 3) := by decide +kernel
theorem dX2_learnBut_102 : decode cX2_learnBut 102 = .ok (.iload 5, 2) := by decide +kernel
theorem dX2_learnBut_104 : decode cX2_learnBut 104 = .ok (.goto 4, 3) := by decide +kernel
theorem dX2_learnBut_107 : decode cX2_learnBut 107 = .ok (.iconst 0, 1) := by decide +kernel
theorem dX2_learnBut_108 : decode cX2_learnBut 108 = .ok (.istore 8, 2) := by decide +kernel
theorem dX2_learnBut_110 : decode cX2_learnBut 110 = .ok (.aload_n 0, 1) := by decide +kernel
theorem dX2_learnBut_111 : decode cX2_learnBut 111 = .ok (.getfield 19, 3) := by decide +kernel
theorem dX2_learnBut_114 : decode cX2_learnBut 114 = .ok (.iload 7, 2) := by decide +kernel
theorem dX2_learnBut_116 : decode cX2_learnBut 116 = .ok (.aload_n 1, 1) := by decide +kernel
theorem dX2_learnBut_117 : decode cX2_learnBut 117 = .ok (.getfield 241, 3) := by decide +kernel
theorem dX2_learnBut_120 : decode cX2_learnBut 120 = .ok (.iload 6, 2) := by decide +kernel
theorem dX2_learnBut_122 : decode cX2_learnBut 122 = .ok (.iaload, 1) := by decide +kernel
theorem dX2_learnBut_123 : decode cX2_learnBut 123 = .ok (.aload_n 0, 1) := by decide +kernel
theorem dX2_learnBut_124 : decode cX2_learnBut 124 = .ok (.iload 7, 2) := by decide +kernel
theorem dX2_learnBut_126 : decode cX2_learnBut 126 = .ok (.invokevirtual 123, 3) := by decide +kernel
theorem dX2_learnBut_129 : decode cX2_learnBut 129 = .ok (.isub, 1) := by decide +kernel
theorem dX2_learnBut_130 : decode cX2_learnBut 130 = .ok (.iload 8, 2) := by decide +kernel
theorem dX2_learnBut_132 : decode cX2_learnBut 132 = .ok (.isub, 1) := by decide +kernel
theorem dX2_learnBut_133 : decode cX2_learnBut 133 = .ok (.aload_n 1, 1) := by decide +kernel
theorem dX2_learnBut_134 : decode cX2_learnBut 134 = .ok (.getfield 244, 3) := by decide +kernel
theorem dX2_learnBut_137 : decode cX2_learnBut 137 = .ok (.iload 6, 2) := by decide +kernel
theorem dX2_learnBut_139 : decode cX2_learnBut 139 = .ok (.iaload, 1) := by decide +kernel
theorem dX2_learnBut_140 : decode cX2_learnBut 140 = .ok (.aload_n 0, 1) := by decide +kernel
theorem dX2_learnBut_141 : decode cX2_learnBut 141 = .ok (.iload 7, 2) := by decide +kernel
theorem dX2_learnBut_143 : decode cX2_learnBut 143 = .ok (.invokevirtual 119, 3) := by decide +kernel
theorem dX2_learnBut_146 : decode cX2_learnBut 146 = .ok (.isub, 1) := by decide +kernel
theorem dX2_learnBut_147 : decode cX2_learnBut 147 = .ok (.iload 8, 2) := by decide +kernel
theorem dX2_learnBut_149 : decode cX2_learnBut 149 = .ok (.isub, 1) := by decide +kernel
theorem dX2_learnBut_150 : decode cX2_learnBut 150 = .ok (.invokevirtual 79, 3) := by decide +kernel
theorem dX2_learnBut_153 : decode cX2_learnBut 153 = .ok (.iinc 6 1, 3) := by decide +kernel
theorem dX2_learnBut_156 : decode cX2_learnBut 156 = .ok (.goto (-142), 3) := by decide +kernel
theorem dX2_learnBut_159 : decode cX2_learnBut 159 = .ok (.aload_n 0, 1) := by decide +kernel
theorem dX2_learnBut_160 : decode cX2_learnBut 160 = .ok (.aload_n 1, 1) := by decide +kernel
theorem dX2_learnBut_161 : decode cX2_learnBut 161 = .ok (.getfield 151, 3) := by decide +kernel
theorem dX2_learnBut_164 : decode cX2_learnBut 164 = .ok (.iload_n 2, 1) := by decide +kernel
theorem dX2_learnBut_165 : decode cX2_learnBut 165 = .ok (.iaload, 1) := by decide +kernel
theorem dX2_learnBut_166 : decode cX2_learnBut 166 = .ok (.ineg, 1) := by decide +kernel
theorem dX2_learnBut_167 : decode cX2_learnBut 167 = .ok (.invokevirtual 247, 3) := by decide +kernel
theorem dX2_learnBut_170 : decode cX2_learnBut 170 = .ok (.aload_n 0, 1) := by decide +kernel
theorem dX2_learnBut_171 : decode cX2_learnBut 171 = .ok (.getfield 19, 3) := by decide +kernel
theorem dX2_learnBut_174 : decode cX2_learnBut 174 = .ok (.invokevirtual 83, 3) := by decide +kernel
theorem dX2_learnBut_177 : decode cX2_learnBut 177 = .ok (.istore 6, 2) := by decide +kernel
theorem dX2_learnBut_179 : decode cX2_learnBut 179 = .ok (.aload_n 0, 1) := by decide +kernel
theorem dX2_learnBut_180 : decode cX2_learnBut 180 = .ok (.aload_n 1, 1) := by decide +kernel
theorem dX2_learnBut_181 : decode cX2_learnBut 181 = .ok (.getfield 151, 3) := by decide +kernel
theorem dX2_learnBut_184 : decode cX2_learnBut 184 = .ok (.iload_n 2, 1) := by decide +kernel
theorem dX2_learnBut_185 : decode cX2_learnBut 185 = .ok (.iaload, 1) := by decide +kernel
theorem dX2_learnBut_186 : decode cX2_learnBut 186 = .ok (.invokevirtual 247, 3) := by decide +kernel
theorem dX2_learnBut_189 : decode cX2_learnBut 189 = .ok (.iload 6, 2) := by decide +kernel
theorem dX2_learnBut_191 : decode cX2_learnBut 191 = .ok (.ireturn, 1) := by decide +kernel
theorem dX2_addHeat_0 : decode cX2_addHeat 0 = .ok (.iconst 0, 1) := by decide +kernel
theorem dX2_addHeat_1 : decode cX2_addHeat 1 = .ok (.istore_n 2, 1) := by decide +kernel
theorem dX2_addHeat_2 : decode cX2_addHeat 2 = .ok (.iconst 0, 1) := by decide +kernel
theorem dX2_addHeat_3 : decode cX2_addHeat 3 = .ok (.istore_n 3, 1) := by decide +kernel
theorem dX2_addHeat_4 : decode cX2_addHeat 4 = .ok (.iload_n 3, 1) := by decide +kernel
theorem dX2_addHeat_5 : decode cX2_addHeat 5 = .ok (.bipush 20, 2) := by decide +kernel
theorem dX2_addHeat_7 : decode cX2_addHeat 7 = .ok (.if_icmp .ge 48, 3) := by decide +kernel
theorem dX2_addHeat_10 : decode cX2_addHeat 10 = .ok (.aload_n 0, 1) := by decide +kernel
theorem dX2_addHeat_11 : decode cX2_addHeat 11 = .ok (.getfield 19, 3) := by decide +kernel
theorem dX2_addHeat_14 : decode cX2_addHeat 14 = .ok (.getfield 96, 3) := by decide +kernel
theorem dX2_addHeat_17 : decode cX2_addHeat 17 = .ok (.iload_n 3, 1) := by decide +kernel
theorem dX2_addHeat_18 : decode cX2_addHeat 18 = .ok (.dup2, 1) := by decide +kernel
theorem dX2_addHeat_19 : decode cX2_addHeat 19 = .ok (.iaload, 1) := by decide +kernel
theorem dX2_addHeat_20 : decode cX2_addHeat 20 = .ok (.iload_n 2, 1) := by decide +kernel
theorem dX2_addHeat_21 : decode cX2_addHeat 21 = .ok (.iadd, 1) := by decide +kernel
theorem dX2_addHeat_22 : decode cX2_addHeat 22 = .ok (.iastore, 1) := by decide +kernel
theorem dX2_addHeat_23 : decode cX2_addHeat 23 = .ok (.aload_n 0, 1) := by decide +kernel
theorem dX2_addHeat_24 : decode cX2_addHeat 24 = .ok (.getfield 19, 3) := by decide +kernel
theorem dX2_addHeat_27 : decode cX2_addHeat 27 = .ok (.getfield 99, 3) := by decide +kernel
theorem dX2_addHeat_30 : decode cX2_addHeat 30 = .ok (.iload_n 3, 1) := by decide +kernel
theorem dX2_addHeat_31 : decode cX2_addHeat 31 = .ok (.dup2, 1) := by decide +kernel
theorem dX2_addHeat_32 : decode cX2_addHeat 32 = .ok (.iaload, 1) := by decide +kernel
theorem dX2_addHeat_33 : decode cX2_addHeat 33 = .ok (.iload_n 2, 1) := by decide +kernel
theorem dX2_addHeat_34 : decode cX2_addHeat 34 = .ok (.iadd, 1) := by decide +kernel
theorem dX2_addHeat_35 : decode cX2_addHeat 35 = .ok (.iastore, 1) := by decide +kernel
theorem dX2_addHeat_36 : decode cX2_addHeat 36 = .ok (.iload_n 2, 1) := by decide +kernel
theorem dX2_addHeat_37 : decode cX2_addHeat 37 = .ok (.iload_n 1, 1) := by decide +kernel
theorem dX2_addHeat_38 : decode cX2_addHeat 38 = .ok (.aload_n 0, 1) := by decide +kernel
theorem dX2_addHeat_39 : decode cX2_addHeat 39 = .ok (.getfield 32, 3) := by decide +kernel
theorem dX2_addHeat_42 : decode cX2_addHeat 42 = .ok (.iload_n 3, 1) := by decide +kernel
theorem dX2_addHeat_43 : decode cX2_addHeat 43 = .ok (.iaload, 1) := by decide +kernel
theorem dX2_addHeat_44 : decode cX2_addHeat 44 = .ok (.iconst 5, 1) := by decide +kernel
theorem dX2_addHeat_45 : decode cX2_addHeat 45 = .ok (.isub, 1) := by decide +kernel
theorem dX2_addHeat_46 : decode cX2_addHeat 46 = .ok (.imul, 1) := by decide +kernel
theorem dX2_addHeat_47 : decode cX2_addHeat 47 = .ok (.iadd, 1) := by decide +kernel
theorem dX2_addHeat_48 : decode cX2_addHeat 48 = .ok (.istore_n 2, 1) := by decide +kernel
theorem dX2_addHeat_49 : decode cX2_addHeat 49 = .ok (.iinc 3 1, 3) := by decide +kernel
theorem dX2_addHeat_52 : decode cX2_addHeat 52 = .ok (.goto (-48), 3) := by decide +kernel
theorem dX2_addHeat_55 : decode cX2_addHeat 55 = .ok (.return_, 1) := by decide +kernel
theorem dX2_leastMiles_0 : decode cX2_leastMiles 0 = .ok (.iload_n 1, 1) := by decide +kernel
theorem dX2_leastMiles_1 : decode cX2_leastMiles 1 = .ok (.aload_n 0, 1) := by decide +kernel
theorem dX2_leastMiles_2 : decode cX2_leastMiles 2 = .ok (.getfield 19, 3) := by decide +kernel
theorem dX2_leastMiles_5 : decode cX2_leastMiles 5 = .ok (.getfield 99, 3) := by decide +kernel
theorem dX2_leastMiles_8 : decode cX2_leastMiles 8 = .ok (.iload_n 2, 1) := by decide +kernel
theorem dX2_leastMiles_9 : decode cX2_leastMiles 9 = .ok (.iaload, 1) := by decide +kernel
theorem dX2_leastMiles_10 : decode cX2_leastMiles 10 = .ok (.isub, 1) := by decide +kernel
theorem dX2_leastMiles_11 : decode cX2_leastMiles 11 = .ok (.iconst 4, 1) := by decide +kernel
theorem dX2_leastMiles_12 : decode cX2_leastMiles 12 = .ok (.invokestatic 218, 3) := by decide +kernel
theorem dX2_leastMiles_15 : decode cX2_leastMiles 15 = .ok (.ireturn, 1) := by decide +kernel
theorem dX2_greatestMiles_0 : decode cX2_greatestMiles 0 = .ok (.iload_n 1, 1) := by decide +kernel
theorem dX2_greatestMiles_1 : decode cX2_greatestMiles 1 = .ok (.aload_n 0, 1) := by decide +kernel
theorem dX2_greatestMiles_2 : decode cX2_greatestMiles 2 = .ok (.getfield 19, 3) := by decide +kernel
theorem dX2_greatestMiles_5 : decode cX2_greatestMiles 5 = .ok (.getfield 96, 3) := by decide +kernel
theorem dX2_greatestMiles_8 : decode cX2_greatestMiles 8 = .ok (.iload_n 2, 1) := by decide +kernel
theorem dX2_greatestMiles_9 : decode cX2_greatestMiles 9 = .ok (.iaload, 1) := by decide +kernel
theorem dX2_greatestMiles_10 : decode cX2_greatestMiles 10 = .ok (.isub, 1) := by decide +kernel
theorem dX2_greatestMiles_11 : decode cX2_greatestMiles 11 = .ok (.iconst 4, 1) := by decide +kernel
theorem dX2_greatestMiles_12 : decode cX2_greatestMiles 12 = .ok (.invokestatic 251, 3) := by decide +kernel
theorem dX2_greatestMiles_15 : decode cX2_greatestMiles 15 = .ok (.ireturn, 1) := by decide +kernel
theorem dX2_findPlaces_0 : decode cX2_findPlaces 0 = .ok (.iconst 0, 1) := by decide +kernel
theorem dX2_findPlaces_1 : decode cX2_findPlaces 1 = .ok (.istore_n 2, 1) := by decide +kernel
theorem dX2_findPlaces_2 : decode cX2_findPlaces 2 = .ok (.iload_n 2, 1) := by decide +kernel
theorem dX2_findPlaces_3 : decode cX2_findPlaces 3 = .ok (.iconst 3, 1) := by decide +kernel
theorem dX2_findPlaces_4 : decode cX2_findPlaces 4 = .ok (.if_icmp .ge 77, 3) := by decide +kernel
theorem dX2_findPlaces_7 : decode cX2_findPlaces 7 = .ok (.aload_n 0, 1) := by decide +kernel
theorem dX2_findPlaces_8 : decode cX2_findPlaces 8 = .ok (.aload_n 1, 1) := by decide +kernel
theorem dX2_findPlaces_9 : decode cX2_findPlaces 9 = .ok (.iload_n 2, 1) := by decide +kernel
theorem dX2_findPlaces_10 : decode cX2_findPlaces 10 = .ok (.invokevirtual 157, 3) := by decide +kernel
theorem dX2_findPlaces_13 : decode cX2_findPlaces 13 = .ok (.ifCond .eq 46, 3) := by decide +kernel
theorem dX2_findPlaces_16 : decode cX2_findPlaces 16 = .ok (.aload_n 0, 1) := by decide +kernel
theorem dX2_findPlaces_17 : decode cX2_findPlaces 17 = .ok (.getfield 47, 3) := by decide +kernel
theorem dX2_findPlaces_20 : decode cX2_findPlaces 20 = .ok (.iload_n 2, 1) := by decide +kernel
theorem dX2_findPlaces_21 : decode cX2_findPlaces 21 = .ok (.aload_n 0, 1) := by decide +kernel
theorem dX2_findPlaces_22 : decode cX2_findPlaces 22 = .ok (.aload_n 1, 1) := by decide +kernel
theorem dX2_findPlaces_23 : decode cX2_findPlaces 23 = .ok (.getfield 171, 3) := by decide +kernel
theorem dX2_findPlaces_26 : decode cX2_findPlaces 26 = .ok (.iload_n 2, 1) := by decide +kernel
theorem dX2_findPlaces_27 : decode cX2_findPlaces 27 = .ok (.iaload, 1) := by decide +kernel
theorem dX2_findPlaces_28 : decode cX2_findPlaces 28 = .ok (.aload_n 1, 1) := by decide +kernel
theorem dX2_findPlaces_29 : decode cX2_findPlaces 29 = .ok (.getfield 168, 3) := by decide +kernel
theorem dX2_findPlaces_32 : decode cX2_findPlaces 32 = .ok (.invokevirtual 162, 3) := by decide +kernel
theorem dX2_findPlaces_35 : decode cX2_findPlaces 35 = .ok (.iastore, 1) := by decide +kernel
theorem dX2_findPlaces_36 : decode cX2_findPlaces 36 = .ok (.aload_n 0, 1) := by decide +kernel
theorem dX2_findPlaces_37 : decode cX2_findPlaces 37 = .ok (.getfield 50, 3) := by decide +kernel
theorem dX2_findPlaces_40 : decode cX2_findPlaces 40 = .ok (.iload_n 2, 1) := by decide +kernel
theorem dX2_findPlaces_41 : decode cX2_findPlaces 41 = .ok (.aload_n 0, 1) := by decide +kernel
theorem dX2_findPlaces_42 : decode cX2_findPlaces 42 = .ok (.aload_n 1, 1) := by decide +kernel
theorem dX2_findPlaces_43 : decode cX2_findPlaces 43 = .ok (.getfield 171, 3) := by decide +kernel
theorem dX2_findPlaces_46 : decode cX2_findPlaces 46 = .ok (.iload_n 2, 1) := by decide +kernel
theorem dX2_findPlaces_47 : decode cX2_findPlaces 47 = .ok (.iaload, 1) := by decide +kernel
theorem dX2_findPlaces_48 : decode cX2_findPlaces 48 = .ok (.aload_n 1, 1) := by decide +kernel
theorem dX2_findPlaces_49 : decode cX2_findPlaces 49 = .ok (.getfield 168, 3) := by decide +kernel
theorem dX2_findPlaces_52 : decode cX2_findPlaces 52 = .ok (.invokevirtual 165, 3) := by decide +kernel
theorem dX2_findPlaces_55 : decode cX2_findPlaces 55 = .ok (.iastore, 1) := by decide +kernel
theorem dX2_findPlaces_56 : decode cX2_findPlaces 56 = .ok (.goto 19, 3) := by decide +kernel
theorem dX2_findPlaces_59 : decode cX2_findPlaces 59 = .ok (.aload_n 0, 1) := by decide +kernel
theorem dX2_findPlaces_60 : decode cX2_findPlaces 60 = .ok (.getfield 47, 3) := by decide +kernel
theorem dX2_findPlaces_63 : decode cX2_findPlaces 63 = .ok (.iload_n 2, 1) := by decide +kernel
theorem dX2_findPlaces_64 : decode cX2_findPlaces 64 = .ok (.ldc 254, 2) := by decide +kernel
theorem dX2_findPlaces_66 : decode cX2_findPlaces 66 = .ok (.iastore, 1) := by decide +kernel
theorem dX2_findPlaces_67 : decode cX2_findPlaces 67 = .ok (.aload_n 0, 1) := by decide +kernel
theorem dX2_findPlaces_68 : decode cX2_findPlaces 68 = .ok (.getfield 50, 3) := by decide +kernel
theorem dX2_findPlaces_71 : decode cX2_findPlaces 71 = .ok (.iload_n 2, 1) := by decide +kernel
theorem dX2_findPlaces_72 : decode cX2_findPlaces 72 = .ok (.ldc 255, 2) := by decide +kernel
theorem dX2_findPlaces_74 : decode cX2_findPlaces 74 = .ok (.iastore, 1) := by decide +kernel
theorem dX2_findPlaces_75 : decode cX2_findPlaces 75 = .ok (.iinc 2 1, 3) := by decide +kernel
theorem dX2_findPlaces_78 : decode cX2_findPlaces 78 = .ok (.goto (-76), 3) := by decide +kernel
theorem dX2_findPlaces_81 : decode cX2_findPlaces 81 = .ok (.return_, 1) := by decide +kernel
theorem dX2_leastShared_0 : decode cX2_leastShared 0 = .ok (.ldc 255, 2) := by decide +kernel
theorem dX2_leastShared_2 : decode cX2_leastShared 2 = .ok (.istore_n 2, 1) := by decide +kernel
theorem dX2_leastShared_3 : decode cX2_leastShared 3 = .ok (.iconst 0, 1) := by decide +kernel
theorem dX2_leastShared_4 : decode cX2_leastShared 4 = .ok (.istore_n 3, 1) := by decide +kernel
theorem dX2_leastShared_5 : decode cX2_leastShared 5 = .ok (.iload_n 3, 1) := by decide +kernel
theorem dX2_leastShared_6 : decode cX2_leastShared 6 = .ok (.iconst 3, 1) := by decide +kernel
theorem dX2_leastShared_7 : decode cX2_leastShared 7 = .ok (.if_icmp .ge 29, 3) := by decide +kernel
theorem dX2_leastShared_10 : decode cX2_leastShared 10 = .ok (.iload_n 1, 1) := by decide +kernel
theorem dX2_leastShared_11 : decode cX2_leastShared 11 = .ok (.iload_n 3, 1) := by decide +kernel
theorem dX2_leastShared_12 : decode cX2_leastShared 12 = .ok (.invokestatic 111, 3) := by decide +kernel
theorem dX2_leastShared_15 : decode cX2_leastShared 15 = .ok (.iconst 1, 1) := by decide +kernel
theorem dX2_leastShared_16 : decode cX2_leastShared 16 = .ok (.if_icmp .ne 14, 3) := by decide +kernel
theorem dX2_leastShared_19 : decode cX2_leastShared 19 = .ok (.iload_n 2, 1) := by decide +kernel
theorem dX2_leastShared_20 : decode cX2_leastShared 20 = .ok (.aload_n 0, 1) := by decide +kernel
theorem dX2_leastShared_21 : decode cX2_leastShared 21 = .ok (.getfield 47, 3) := by decide +kernel
theorem dX2_leastShared_24 : decode cX2_leastShared 24 = .ok (.iload_n 3, 1) := by decide +kernel
theorem dX2_leastShared_25 : decode cX2_leastShared 25 = .ok (.iaload, 1) := by decide +kernel
theorem dX2_leastShared_26 : decode cX2_leastShared 26 = .ok (.invokestatic 210, 3) := by decide +kernel
theorem dX2_leastShared_29 : decode cX2_leastShared 29 = .ok (.istore_n 2, 1) := by decide +kernel
theorem dX2_leastShared_30 : decode cX2_leastShared 30 = .ok (.iinc 3 1, 3) := by decide +kernel
theorem dX2_leastShared_33 : decode cX2_leastShared 33 = .ok (.goto (-28), 3) := by decide +kernel
theorem dX2_leastShared_36 : decode cX2_leastShared 36 = .ok (.iload_n 2, 1) := by decide +kernel
theorem dX2_leastShared_37 : decode cX2_leastShared 37 = .ok (.ireturn, 1) := by decide +kernel
theorem dX2_greatestShared_0 : decode cX2_greatestShared 0 = .ok (.ldc 254, 2) := by decide +kernel
theorem dX2_greatestShared_2 : decode cX2_greatestShared 2 = .ok (.istore_n 2, 1) := by decide +kernel
theorem dX2_greatestShared_3 : decode cX2_greatestShared 3 = .ok (.iconst 0, 1) := by decide +kernel
theorem dX2_greatestShared_4 : decode cX2_greatestShared 4 = .ok (.istore_n 3, 1) := by decide +kernel
theorem dX2_greatestShared_5 : decode cX2_greatestShared 5 = .ok (.iload_n 3, 1) := by decide +kernel
theorem dX2_greatestShared_6 : decode cX2_greatestShared 6 = .ok (.iconst 3, 1) := by decide +kernel
theorem dX2_greatestShared_7 : decode cX2_greatestShared 7 = .ok (.if_icmp .ge 29, 3) := by decide +kernel
theorem dX2_greatestShared_10 : decode cX2_greatestShared 10 = .ok (.iload_n 1, 1) := by decide +kernel
theorem dX2_greatestShared_11 : decode cX2_greatestShared 11 = .ok (.iload_n 3, 1) := by decide +kernel
theorem dX2_greatestShared_12 : decode cX2_greatestShared 12 = .ok (.invokestatic 111, 3) := by decide +kernel
theorem dX2_greatestShared_15 : decode cX2_greatestShared 15 = .ok (.iconst 1, 1) := by decide +kernel
theorem dX2_greatestShared_16 : decode cX2_greatestShared 16 = .ok (.if_icmp .ne 14, 3) := by decide +kernel
theorem dX2_greatestShared_19 : decode cX2_greatestShared 19 = .ok (.iload_n 2, 1) := by decide +kernel
theorem dX2_greatestShared_20 : decode cX2_greatestShared 20 = .ok (.aload_n 0, 1) := by decide +kernel
theorem dX2_greatestShared_21 : decode cX2_greatestShared 21 = .ok (.getfield 50, 3) := by decide +kernel
theorem dX2_greatestShared_24 : decode cX2_greatestShared 24 = .ok (.iload_n 3, 1) := by decide +kernel
theorem dX2_greatestShared_25 : decode cX2_greatestShared 25 = .ok (.iaload, 1) := by decide +kernel
theorem dX2_greatestShared_26 : decode cX2_greatestShared 26 = .ok (.invokestatic 215, 3) := by decide +kernel
theorem dX2_greatestShared_29 : decode cX2_greatestShared 29 = .ok (.istore_n 2, 1) := by decide +kernel
theorem dX2_greatestShared_30 : decode cX2_greatestShared 30 = .ok (.iinc 3 1, 3) := by decide +kernel
theorem dX2_greatestShared_33 : decode cX2_greatestShared 33 = .ok (.goto (-28), 3) := by decide +kernel
theorem dX2_greatestShared_36 : decode cX2_greatestShared 36 = .ok (.iload_n 2, 1) := by decide +kernel
theorem dX2_greatestShared_37 : decode cX2_greatestShared 37 = .ok (.ireturn, 1) := by decide +kernel
theorem dX2_weigh_0 : decode cX2_weigh 0 = .ok (.aload_n 0, 1) := by decide +kernel
theorem dX2_weigh_1 : decode cX2_weigh 1 = .ok (.iload_n 2, 1) := by decide +kernel
theorem dX2_weigh_2 : decode cX2_weigh 2 = .ok (.invokevirtual 193, 3) := by decide +kernel
theorem dX2_weigh_5 : decode cX2_weigh 5 = .ok (.aload_n 0, 1) := by decide +kernel
theorem dX2_weigh_6 : decode cX2_weigh 6 = .ok (.iload_n 2, 1) := by decide +kernel
theorem dX2_weigh_7 : decode cX2_weigh 7 = .ok (.invokevirtual 196, 3) := by decide +kernel
theorem dX2_weigh_10 : decode cX2_weigh 10 = .ok (.if_icmp .le 5, 3) := by decide +kernel
theorem dX2_weigh_13 : decode cX2_weigh 13 = .ok (.iconst 0, 1) := by decide +kernel
theorem dX2_weigh_14 : decode cX2_weigh 14 = .ok (.ireturn, 1) := by decide +kernel
theorem dX2_weigh_15 : decode cX2_weigh 15 = .ok (.iconst 1, 1) := by decide +kernel
theorem dX2_weigh_16 : decode cX2_weigh 16 = .ok (.istore_n 3, 1) := by decide +kernel
theorem dX2_weigh_17 : decode cX2_weigh 17 = .ok (.iconst 0, 1) := by decide +kernel
theorem dX2_weigh_18 : decode cX2_weigh 18 = .ok (.istore 4, 2) := by decide +kernel
theorem dX2_weigh_20 : decode cX2_weigh 20 = .ok (.iload 4, 2) := by decide +kernel
theorem dX2_weigh_22 : decode cX2_weigh 22 = .ok (.iconst 3, 1) := by decide +kernel
theorem dX2_weigh_23 : decode cX2_weigh 23 = .ok (.if_icmp .ge 42, 3) := by decide +kernel
theorem dX2_weigh_26 : decode cX2_weigh 26 = .ok (.iload_n 3, 1) := by decide +kernel
theorem dX2_weigh_27 : decode cX2_weigh 27 = .ok (.iload_n 2, 1) := by decide +kernel
theorem dX2_weigh_28 : decode cX2_weigh 28 = .ok (.iload 4, 2) := by decide +kernel
theorem dX2_weigh_30 : decode cX2_weigh 30 = .ok (.invokestatic 111, 3) := by decide +kernel
theorem dX2_weigh_33 : decode cX2_weigh 33 = .ok (.iconst 1, 1) := by decide +kernel
theorem dX2_weigh_34 : decode cX2_weigh 34 = .ok (.if_icmp .ne 16, 3) := by decide +kernel
theorem dX2_weigh_37 : decode cX2_weigh 37 = .ok (.bipush 10, 2) := by decide +kernel
theorem dX2_weigh_39 : decode cX2_weigh 39 = .ok (.aload_n 1, 1) := by decide +kernel
theorem dX2_weigh_40 : decode cX2_weigh 40 = .ok (.getfield 154, 3) := by decide +kernel
theorem dX2_weigh_43 : decode cX2_weigh 43 = .ok (.iload 4, 2) := by decide +kernel
theorem dX2_weigh_45 : decode cX2_weigh 45 = .ok (.iaload, 1) := by decide +kernel
theorem dX2_weigh_46 : decode cX2_weigh 46 = .ok (.isub, 1) := by decide +kernel
theorem dX2_weigh_47 : decode cX2_weigh 47 = .ok (.goto 10, 3) := by decide +kernel
theorem dX2_weigh_50 : decode cX2_weigh 50 = .ok (.aload_n 1, 1) := by decide +kernel
theorem dX2_weigh_51 : decode cX2_weigh 51 = .ok (.getfield 154, 3) := by decide +kernel
theorem dX2_weigh_54 : decode cX2_weigh 54 = .ok (.iload 4, 2) := by decide +kernel
theorem dX2_weigh_56 : decode cX2_weigh 56 = .ok (.iaload, 1) := by decide +kernel
theorem dX2_weigh_57 : decode cX2_weigh 57 = .ok (.imul, 1) := by decide +kernel
theorem dX2_weigh_58 : decode cX2_weigh 58 = .ok (.istore_n 3, 1) := by decide +kernel
theorem dX2_weigh_59 : decode cX2_weigh 59 = .ok (.iinc 4 1, 3) := by decide +kernel
theorem dX2_weigh_62 : decode cX2_weigh 62 = .ok (.goto (-42), 3) := by decide +kernel
theorem dX2_weigh_65 : decode cX2_weigh 65 = .ok (.iload_n 3, 1) := by decide +kernel
theorem dX2_weigh_66 : decode cX2_weigh 66 = .ok (.ireturn, 1) := by decide +kernel
theorem dX2_heaviest_0 : decode cX2_heaviest 0 = .ok (.iconst 0, 1) := by decide +kernel
theorem dX2_heaviest_1 : decode cX2_heaviest 1 = .ok (.istore_n 2, 1) := by decide +kernel
theorem dX2_heaviest_2 : decode cX2_heaviest 2 = .ok (.aload_n 0, 1) := by decide +kernel
theorem dX2_heaviest_3 : decode cX2_heaviest 3 = .ok (.aload_n 1, 1) := by decide +kernel
theorem dX2_heaviest_4 : decode cX2_heaviest 4 = .ok (.iconst 0, 1) := by decide +kernel
theorem dX2_heaviest_5 : decode cX2_heaviest 5 = .ok (.invokevirtual 178, 3) := by decide +kernel
theorem dX2_heaviest_8 : decode cX2_heaviest 8 = .ok (.istore_n 3, 1) := by decide +kernel
theorem dX2_heaviest_9 : decode cX2_heaviest 9 = .ok (.iconst 1, 1) := by decide +kernel
theorem dX2_heaviest_10 : decode cX2_heaviest 10 = .ok (.istore 4, 2) := by decide +kernel
theorem dX2_heaviest_12 : decode cX2_heaviest 12 = .ok (.iload 4, 2) := by decide +kernel
theorem dX2_heaviest_14 : decode cX2_heaviest 14 = .ok (.bipush 8, 2) := by decide +kernel
theorem dX2_heaviest_16 : decode cX2_heaviest 16 = .ok (.if_icmp .ge 48, 3) := by decide +kernel
theorem dX2_heaviest_19 : decode cX2_heaviest 19 = .ok (.aload_n 0, 1) := by decide +kernel
theorem dX2_heaviest_20 : decode cX2_heaviest 20 = .ok (.aload_n 1, 1) := by decide +kernel
theorem dX2_heaviest_21 : decode cX2_heaviest 21 = .ok (.iload 4, 2) := by decide +kernel
theorem dX2_heaviest_23 : decode cX2_heaviest 23 = .ok (.invokevirtual 178, 3) := by decide +kernel
theorem dX2_heaviest_26 : decode cX2_heaviest 26 = .ok (.istore 5, 2) := by decide +kernel
theorem dX2_heaviest_28 : decode cX2_heaviest 28 = .ok (.iload 5, 2) := by decide +kernel
theorem dX2_heaviest_30 : decode cX2_heaviest 30 = .ok (.iload_n 3, 1) := by decide +kernel
theorem dX2_heaviest_31 : decode cX2_heaviest 31 = .ok (.if_icmp .gt 21, 3) := by decide +kernel
theorem dX2_heaviest_34 : decode cX2_heaviest 34 = .ok (.iload 5, 2) := by decide +kernel
theorem dX2_heaviest_36 : decode cX2_heaviest 36 = .ok (.iload_n 3, 1) := by decide +kernel
theorem dX2_heaviest_37 : decode cX2_heaviest 37 = .ok (.if_icmp .ne 21, 3) := by decide +kernel
theorem dX2_heaviest_40 : decode cX2_heaviest 40 = .ok (.iload 4, 2) := by decide +kernel
theorem dX2_heaviest_42 : decode cX2_heaviest 42 = .ok (.invokestatic 256, 3) := by decide +kernel
theorem dX2_heaviest_45 : decode cX2_heaviest 45 = .ok (.iload_n 2, 1) := by decide +kernel
theorem dX2_heaviest_46 : decode cX2_heaviest 46 = .ok (.invokestatic 256, 3) := by decide +kernel
theorem dX2_heaviest_49 : decode cX2_heaviest 49 = .ok (.if_icmp .le 9, 3) := by decide +kernel
theorem dX2_heaviest_52 : decode cX2_heaviest 52 = .ok (.iload 4, 2) := by decide +kernel
theorem dX2_heaviest_54 : decode cX2_heaviest 54 = .ok (.istore_n 2, 1) := by decide +kernel
theorem dX2_heaviest_55 : decode cX2_heaviest 55 = .ok (.iload 5, 2) := by decide +kernel
theorem dX2_heaviest_57 : decode cX2_heaviest 57 = .ok (.istore_n 3, 1) := by decide +kernel
theorem dX2_heaviest_58 : decode cX2_heaviest 58 = .ok (.iinc 4 1, 3) := by decide +kernel
theorem dX2_heaviest_61 : decode cX2_heaviest 61 = .ok (.goto (-49), 3) := by decide +kernel
theorem dX2_heaviest_64 : decode cX2_heaviest 64 = .ok (.iload_n 2, 1) := by decide +kernel
theorem dX2_heaviest_65 : decode cX2_heaviest 65 = .ok (.ireturn, 1) := by decide +kernel
theorem dX2_countSuspects_0 : decode cX2_countSuspects 0 = .ok (.iconst 0, 1) := by decide +kernel
theorem dX2_countSuspects_1 : decode cX2_countSuspects 1 = .ok (.istore_n 2, 1) := by decide +kernel
theorem dX2_countSuspects_2 : decode cX2_countSuspects 2 = .ok (.iconst 0, 1) := by decide +kernel
theorem dX2_countSuspects_3 : decode cX2_countSuspects 3 = .ok (.istore_n 3, 1) := by decide +kernel
theorem dX2_countSuspects_4 : decode cX2_countSuspects 4 = .ok (.iload_n 3, 1) := by decide +kernel
theorem dX2_countSuspects_5 : decode cX2_countSuspects 5 = .ok (.aload_n 0, 1) := by decide +kernel
theorem dX2_countSuspects_6 : decode cX2_countSuspects 6 = .ok (.getfield 126, 3) := by decide +kernel
theorem dX2_countSuspects_9 : decode cX2_countSuspects 9 = .ok (.if_icmp .ge 76, 3) := by decide +kernel
theorem dX2_countSuspects_12 : decode cX2_countSuspects 12 = .ok (.iconst 0, 1) := by decide +kernel
theorem dX2_countSuspects_13 : decode cX2_countSuspects 13 = .ok (.istore 4, 2) := by decide +kernel
theorem dX2_countSuspects_15 : decode cX2_countSuspects 15 = .ok (.iload 4, 2) := by decide +kernel
theorem dX2_countSuspects_17 : decode cX2_countSuspects 17 = .ok (.iconst 3, 1) := by decide +kernel
theorem dX2_countSuspects_18 : decode cX2_countSuspects 18 = .ok (.if_icmp .ge 61, 3) := by decide +kernel
theorem dX2_countSuspects_21 : decode cX2_countSuspects 21 = .ok (.aload_n 0, 1) := by decide +kernel
theorem dX2_countSuspects_22 : decode cX2_countSuspects 22 = .ok (.aload_n 0, 1) := by decide +kernel
theorem dX2_countSuspects_23 : decode cX2_countSuspects 23 = .ok (.getfield 37, 3) := by decide +kernel
theorem dX2_countSuspects_26 : decode cX2_countSuspects 26 = .ok (.iload_n 3, 1) := by decide +kernel
theorem dX2_countSuspects_27 : decode cX2_countSuspects 27 = .ok (.aaload, 1) := by decide +kernel
theorem dX2_countSuspects_28 : decode cX2_countSuspects 28 = .ok (.iload 4, 2) := by decide +kernel
theorem dX2_countSuspects_30 : decode cX2_countSuspects 30 = .ok (.iload_n 1, 1) := by decide +kernel
theorem dX2_countSuspects_31 : decode cX2_countSuspects 31 = .ok (.invokevirtual 261, 3) := by decide +kernel
theorem dX2_countSuspects_34 : decode cX2_countSuspects 34 = .ok (.ifCond .eq 39, 3) := by decide +kernel
theorem dX2_countSuspects_37 : decode cX2_countSuspects 37 = .ok (.aload_n 0, 1) := by decide +kernel
theorem dX2_countSuspects_38 : decode cX2_countSuspects 38 = .ok (.aload_n 0, 1) := by decide +kernel
theorem dX2_countSuspects_39 : decode cX2_countSuspects 39 = .ok (.getfield 37, 3) := by decide +kernel
theorem dX2_countSuspects_42 : decode cX2_countSuspects 42 = .ok (.iload_n 3, 1) := by decide +kernel
theorem dX2_countSuspects_43 : decode cX2_countSuspects 43 = .ok (.aaload, 1) := by decide +kernel
theorem dX2_countSuspects_44 : decode cX2_countSuspects 44 = .ok (.iload 4, 2) := by decide +kernel
theorem dX2_countSuspects_46 : decode cX2_countSuspects 46 = .ok (.invokevirtual 157, 3) := by decide +kernel
theorem dX2_countSuspects_49 : decode cX2_countSuspects 49 = .ok (.ifCond .ne 24, 3) := by decide +kernel
theorem dX2_countSuspects_52 : decode cX2_countSuspects 52 = .ok (.aload_n 0, 1) := by decide +kernel
theorem dX2_countSuspects_53 : decode cX2_countSuspects 53 = .ok (.aload_n 0, 1) := by decide +kernel
theorem dX2_countSuspects_54 : decode cX2_countSuspects 54 = .ok (.getfield 37, 3) := by decide +kernel
theorem dX2_countSuspects_57 : decode cX2_countSuspects 57 = .ok (.iload_n 3, 1) := by decide +kernel
theorem dX2_countSuspects_58 : decode cX2_countSuspects 58 = .ok (.aaload, 1) := by decide +kernel
theorem dX2_countSuspects_59 : decode cX2_countSuspects 59 = .ok (.iload 4, 2) := by decide +kernel
theorem dX2_countSuspects_61 : decode cX2_countSuspects 61 = .ok (.iload_n 1, 1) := by decide +kernel
theorem dX2_countSuspects_62 : decode cX2_countSuspects 62 = .ok (.iconst (-1), 1) := by decide +kernel
theorem dX2_countSuspects_63 : decode cX2_countSuspects 63 = .ok (.iconst 0, 1) := by decide +kernel
theorem dX2_countSuspects_64 : decode cX2_countSuspects 64 = .ok (.invokevirtual 237, 3) := by decide +kernel
theorem dX2_countSuspects_67 : decode cX2_countSuspects 67 = .ok (.ifCond .eq 6, 3) := by decide +kernel
theorem dX2_countSuspects_70 : decode cX2_countSuspects 70 = .ok (.iinc 2 1, 3) := by decide +kernel
theorem dX2_countSuspects_73 : decode cX2_countSuspects 73 = .ok (.iinc 4 1, 3) := by decide +kernel
theorem dX2_countSuspects_76 : decode cX2_countSuspects 76 = .ok (.goto (-61), 3) := by decide +kernel
theorem dX2_countSuspects_79 : decode cX2_countSuspects 79 = .ok (.iinc 3 1, 3) := by decide +kernel
theorem dX2_countSuspects_82 : decode cX2_countSuspects 82 = .ok (.goto (-78), 3) := by decide +kernel
theorem dX2_countSuspects_85 : decode cX2_countSuspects 85 = .ok (.iload_n 2, 1) := by decide +kernel
theorem dX2_countSuspects_86 : decode cX2_countSuspects 86 = .ok (.ireturn, 1) := by decide +kernel
theorem dX2_firstFittingSlip_0 : decode cX2_firstFittingSlip 0 = .ok (.aload_n 0, 1) := by decide +kernel
theorem dX2_firstFittingSlip_1 : decode cX2_firstFittingSlip 1 = .ok (.getfield 126, 3) := by decide +kernel
theorem dX2_firstFittingSlip_4 : decode cX2_firstFittingSlip 4 = .ok (.iconst 3, 1) := by decide +kernel
theorem dX2_firstFittingSlip_5 : decode cX2_firstFittingSlip 5 = .ok (.imul, 1) := by decide +kernel
theorem dX2_firstFittingSlip_6 : decode cX2_firstFittingSlip 6 = .ok (.istore 4, 2) := by decide +kernel
theorem dX2_firstFittingSlip_8 : decode cX2_firstFittingSlip 8 = .ok (.iload_n 2, 1) := by decide +kernel
theorem dX2_firstFittingSlip_9 : decode cX2_firstFittingSlip 9 = .ok (.istore 5, 2) := by decide +kernel
theorem dX2_firstFittingSlip_11 : decode cX2_firstFittingSlip 11 = .ok (.iconst 0, 1) := by decide +kernel
theorem dX2_firstFittingSlip_12 : decode cX2_firstFittingSlip 12 = .ok (.istore 6, 2) := by decide +kernel
theorem dX2_firstFittingSlip_14 : decode cX2_firstFittingSlip 14 = .ok (.iconst 0, 1) := by decide +kernel
theorem dX2_firstFittingSlip_15 : decode cX2_firstFittingSlip 15 = .ok (.istore 7, 2) := by decide +kernel
theorem dX2_firstFittingSlip_17 : decode cX2_firstFittingSlip 17 = .ok (.iconst 0, 1) := by decide +kernel
theorem dX2_firstFittingSlip_18 : decode cX2_firstFittingSlip 18 = .ok (.istore 8, 2) := by decide +kernel
theorem dX2_firstFittingSlip_20 : decode cX2_firstFittingSlip 20 = .ok (.iload 8, 2) := by decide +kernel
theorem dX2_firstFittingSlip_22 : decode cX2_firstFittingSlip 22 = .ok (.ldc 254, 2) := by decide +kernel
theorem dX2_firstFittingSlip_24 : decode cX2_firstFittingSlip 24 = .ok (.if_icmp .ge 73, 3) := by decide +kernel
theorem dX2_firstFittingSlip_27 : decode cX2_firstFittingSlip 27 = .ok (.iload 7, 2) := by decide +kernel
theorem dX2_firstFittingSlip_29 : decode cX2_firstFittingSlip 29 = .ok (.iload 4, 2) := by decide +kernel
theorem dX2_firstFittingSlip_31 : decode cX2_firstFittingSlip 31 = .ok (.if_icmp .ge 66, 3) := by decide +kernel
theorem dX2_firstFittingSlip_34 : decode cX2_firstFittingSlip 34 = .ok (.iload 5, 2) := by decide +kernel
theorem dX2_firstFittingSlip_36 : decode cX2_firstFittingSlip 36 = .ok (.bipush 60, 2) := by decide +kernel
theorem dX2_firstFittingSlip_38 : decode cX2_firstFittingSlip 38 = .ok (.invokestatic 68, 3) := by decide +kernel
theorem dX2_firstFittingSlip_41 : decode cX2_firstFittingSlip 41 = .ok (.ifCond .ne 56, 3) := by decide +kernel
theorem dX2_firstFittingSlip_44 : decode cX2_firstFittingSlip 44 = .ok (.aload_n 0, 1) := by decide +kernel
theorem dX2_firstFittingSlip_45 : decode cX2_firstFittingSlip 45 = .ok (.aload_n 0, 1) := by decide +kernel
theorem dX2_firstFittingSlip_46 : decode cX2_firstFittingSlip 46 = .ok (.getfield 37, 3) := by decide +kernel
theorem dX2_firstFittingSlip_49 : decode cX2_firstFittingSlip 49 = .ok (.iload 6, 2) := by decide +kernel
theorem dX2_firstFittingSlip_51 : decode cX2_firstFittingSlip 51 = .ok (.iconst 3, 1) := by decide +kernel
theorem dX2_firstFittingSlip_52 : decode cX2_firstFittingSlip 52 = .ok (.idiv, 1) := by decide +kernel
theorem dX2_firstFittingSlip_53 : decode cX2_firstFittingSlip 53 = .ok (.aaload, 1) := by decide +kernel
theorem dX2_firstFittingSlip_54 : decode cX2_firstFittingSlip 54 = .ok (.iload 6, 2) := by decide +kernel
theorem dX2_firstFittingSlip_56 : decode cX2_firstFittingSlip 56 = .ok (.iconst 3, 1) := by decide +kernel
theorem dX2_firstFittingSlip_57 : decode cX2_firstFittingSlip 57 = .ok (.irem, 1) := by decide +kernel
theorem dX2_firstFittingSlip_58 : decode cX2_firstFittingSlip 58 = .ok (.iload_n 1, 1) := by decide +kernel
theorem dX2_firstFittingSlip_59 : decode cX2_firstFittingSlip 59 = .ok (.iload 5, 2) := by decide +kernel
theorem dX2_firstFittingSlip_61 : decode cX2_firstFittingSlip 61 = .ok (.invokevirtual 265, 3) := by decide +kernel
theorem dX2_firstFittingSlip_64 : decode cX2_firstFittingSlip 64 = .ok (.ifCond .eq 18, 3) := by decide +kernel
theorem dX2_firstFittingSlip_67 : decode cX2_firstFittingSlip 67 = .ok (.iinc 7 1, 3) := by decide +kernel
theorem dX2_firstFittingSlip_70 : decode cX2_firstFittingSlip 70 = .ok (.iload 6, 2) := by decide +kernel
theorem dX2_firstFittingSlip_72 : decode cX2_firstFittingSlip 72 = .ok (.iconst 1, 1) := by decide +kernel
theorem dX2_firstFittingSlip_73 : decode cX2_firstFittingSlip 73 = .ok (.iadd, 1) := by decide +kernel
theorem dX2_firstFittingSlip_74 : decode cX2_firstFittingSlip 74 = .ok (.iload 4, 2) := by decide +kernel
theorem dX2_firstFittingSlip_76 : decode cX2_firstFittingSlip 76 = .ok (.irem, 1) := by decide +kernel
theorem dX2_firstFittingSlip_77 : decode cX2_firstFittingSlip 77 = .ok (.istore 6, 2) := by decide +kernel
theorem dX2_firstFittingSlip_79 : decode cX2_firstFittingSlip 79 = .ok (.goto 12, 3) := by decide +kernel
theorem dX2_firstFittingSlip_82 : decode cX2_firstFittingSlip 82 = .ok (.iconst 0, 1) := by decide +kernel
theorem dX2_firstFittingSlip_83 : decode cX2_firstFittingSlip 83 = .ok (.istore 7, 2) := by decide +kernel
theorem dX2_firstFittingSlip_85 : decode cX2_firstFittingSlip 85 = .ok (.iload 5, 2) := by decide +kernel
theorem dX2_firstFittingSlip_87 : decode cX2_firstFittingSlip 87 = .ok (.iload_n 3, 1) := by decide +kernel
theorem dX2_firstFittingSlip_88 : decode cX2_firstFittingSlip 88 = .ok (.iadd, 1) := by decide +kernel
theorem dX2_firstFittingSlip_89 : decode cX2_firstFittingSlip 89 = .ok (.istore 5, 2) := by decide +kernel
theorem dX2_firstFittingSlip_91 : decode cX2_firstFittingSlip 91 = .ok (.iinc 8 1, 3) := by decide +kernel
theorem dX2_firstFittingSlip_94 : decode cX2_firstFittingSlip 94 = .ok (.goto (-74), 3) := by decide +kernel
theorem dX2_firstFittingSlip_97 : decode cX2_firstFittingSlip 97 = .ok (.iload 5, 2) := by decide +kernel
theorem dX2_firstFittingSlip_99 : decode cX2_firstFittingSlip 99 = .ok (.ireturn, 1) := by decide +kernel
theorem dX2_bearsSlip_0 : decode cX2_bearsSlip 0 = .ok (.aload_n 0, 1) := by decide +kernel
theorem dX2_bearsSlip_1 : decode cX2_bearsSlip 1 = .ok (.aload_n 1, 1) := by decide +kernel
theorem dX2_bearsSlip_2 : decode cX2_bearsSlip 2 = .ok (.iload_n 2, 1) := by decide +kernel
theorem dX2_bearsSlip_3 : decode cX2_bearsSlip 3 = .ok (.iload_n 3, 1) := by decide +kernel
theorem dX2_bearsSlip_4 : decode cX2_bearsSlip 4 = .ok (.invokevirtual 261, 3) := by decide +kernel
theorem dX2_bearsSlip_7 : decode cX2_bearsSlip 7 = .ok (.ifCond .eq 23, 3) := by decide +kernel
theorem dX2_bearsSlip_10 : decode cX2_bearsSlip 10 = .ok (.aload_n 0, 1) := by decide +kernel
theorem dX2_bearsSlip_11 : decode cX2_bearsSlip 11 = .ok (.aload_n 1, 1) := by decide +kernel
theorem dX2_bearsSlip_12 : decode cX2_bearsSlip 12 = .ok (.iload_n 2, 1) := by decide +kernel
theorem dX2_bearsSlip_13 : decode cX2_bearsSlip 13 = .ok (.iconst (-1), 1) := by decide +kernel
theorem dX2_bearsSlip_14 : decode cX2_bearsSlip 14 = .ok (.iload_n 3, 1) := by decide +kernel
theorem dX2_bearsSlip_15 : decode cX2_bearsSlip 15 = .ok (.iload 4, 2) := by decide +kernel
theorem dX2_bearsSlip_17 : decode cX2_bearsSlip 17 = .ok (.aload_n 0, 1) := by decide +kernel
theorem dX2_bearsSlip_18 : decode cX2_bearsSlip 18 = .ok (.getfield 29, 3) := by decide +kernel
theorem dX2_bearsSlip_21 : decode cX2_bearsSlip 21 = .ok (.iload_n 3, 1) := by decide +kernel
theorem dX2_bearsSlip_22 : decode cX2_bearsSlip 22 = .ok (.iaload, 1) := by decide +kernel
theorem dX2_bearsSlip_23 : decode cX2_bearsSlip 23 = .ok (.isub, 1) := by decide +kernel
theorem dX2_bearsSlip_24 : decode cX2_bearsSlip 24 = .ok (.invokevirtual 237, 3) := by decide +kernel
theorem dX2_bearsSlip_27 : decode cX2_bearsSlip 27 = .ok (.ifCond .eq 7, 3) := by decide +kernel
theorem dX2_bearsSlip_30 : decode cX2_bearsSlip 30 = .ok (.iconst 1, 1) := by decide +kernel
theorem dX2_bearsSlip_31 : decode cX2_bearsSlip 31 = .ok (.goto 4, 3) := by decide +kernel
theorem dX2_bearsSlip_34 : decode cX2_bearsSlip 34 = .ok (.iconst 0, 1) := by decide +kernel
theorem dX2_bearsSlip_35 : decode cX2_bearsSlip 35 = .ok (.ireturn, 1) := by decide +kernel
theorem dJ6_bitCount_0f7a4_0 : decode cJ6_bitCount_0f7a4 0 = .ok (.iload_n 0, 1) := by decide +kernel
theorem dJ6_bitCount_0f7a4_1 : decode cJ6_bitCount_0f7a4 1 = .ok (.iload_n 0, 1) := by decide +kernel
theorem dJ6_bitCount_0f7a4_2 : decode cJ6_bitCount_0f7a4 2 = .ok (.iconst 1, 1) := by decide +kernel
theorem dJ6_bitCount_0f7a4_3 : decode cJ6_bitCount_0f7a4 3 = .ok (.iushr, 1) := by decide +kernel
theorem dJ6_bitCount_0f7a4_4 : decode cJ6_bitCount_0f7a4 4 = .ok (.ldc_w 265, 3) := by decide +kernel
theorem dJ6_bitCount_0f7a4_7 : decode cJ6_bitCount_0f7a4 7 = .ok (.iand, 1) := by decide +kernel
theorem dJ6_bitCount_0f7a4_8 : decode cJ6_bitCount_0f7a4 8 = .ok (.isub, 1) := by decide +kernel
theorem dJ6_bitCount_0f7a4_9 : decode cJ6_bitCount_0f7a4 9 = .ok (.istore_n 0, 1) := by decide +kernel
theorem dJ6_bitCount_0f7a4_10 : decode cJ6_bitCount_0f7a4 10 = .ok (.iload_n 0, 1) := by decide +kernel
theorem dJ6_bitCount_0f7a4_11 : decode cJ6_bitCount_0f7a4 11 = .ok (.ldc_w 266, 3) := by decide +kernel
theorem dJ6_bitCount_0f7a4_14 : decode cJ6_bitCount_0f7a4 14 = .ok (.iand, 1) := by decide +kernel
theorem dJ6_bitCount_0f7a4_15 : decode cJ6_bitCount_0f7a4 15 = .ok (.iload_n 0, 1) := by decide +kernel
theorem dJ6_bitCount_0f7a4_16 : decode cJ6_bitCount_0f7a4 16 = .ok (.iconst 2, 1) := by decide +kernel
theorem dJ6_bitCount_0f7a4_17 : decode cJ6_bitCount_0f7a4 17 = .ok (.iushr, 1) := by decide +kernel
theorem dJ6_bitCount_0f7a4_18 : decode cJ6_bitCount_0f7a4 18 = .ok (.ldc_w 266, 3) := by decide +kernel
theorem dJ6_bitCount_0f7a4_21 : decode cJ6_bitCount_0f7a4 21 = .ok (.iand, 1) := by decide +kernel
theorem dJ6_bitCount_0f7a4_22 : decode cJ6_bitCount_0f7a4 22 = .ok (.iadd, 1) := by decide +kernel
theorem dJ6_bitCount_0f7a4_23 : decode cJ6_bitCount_0f7a4 23 = .ok (.istore_n 0, 1) := by decide +kernel
theorem dJ6_bitCount_0f7a4_24 : decode cJ6_bitCount_0f7a4 24 = .ok (.iload_n 0, 1) := by decide +kernel
theorem dJ6_bitCount_0f7a4_25 : decode cJ6_bitCount_0f7a4 25 = .ok (.iload_n 0, 1) := by decide +kernel
theorem dJ6_bitCount_0f7a4_26 : decode cJ6_bitCount_0f7a4 26 = .ok (.iconst 4, 1) := by decide +kernel
theorem dJ6_bitCount_0f7a4_27 : decode cJ6_bitCount_0f7a4 27 = .ok (.iushr, 1) := by decide +kernel
theorem dJ6_bitCount_0f7a4_28 : decode cJ6_bitCount_0f7a4 28 = .ok (.iadd, 1) := by decide +kernel
theorem dJ6_bitCount_0f7a4_29 : decode cJ6_bitCount_0f7a4 29 = .ok (.ldc_w 267, 3) := by decide +kernel
theorem dJ6_bitCount_0f7a4_32 : decode cJ6_bitCount_0f7a4 32 = .ok (.iand, 1) := by decide +kernel
theorem dJ6_bitCount_0f7a4_33 : decode cJ6_bitCount_0f7a4 33 = .ok (.istore_n 0, 1) := by decide +kernel
theorem dJ6_bitCount_0f7a4_34 : decode cJ6_bitCount_0f7a4 34 = .ok (.iload_n 0, 1) := by decide +kernel
theorem dJ6_bitCount_0f7a4_35 : decode cJ6_bitCount_0f7a4 35 = .ok (.iload_n 0, 1) := by decide +kernel
theorem dJ6_bitCount_0f7a4_36 : decode cJ6_bitCount_0f7a4 36 = .ok (.bipush 8, 2) := by decide +kernel
theorem dJ6_bitCount_0f7a4_38 : decode cJ6_bitCount_0f7a4 38 = .ok (.iushr, 1) := by decide +kernel
theorem dJ6_bitCount_0f7a4_39 : decode cJ6_bitCount_0f7a4 39 = .ok (.iadd, 1) := by decide +kernel
theorem dJ6_bitCount_0f7a4_40 : decode cJ6_bitCount_0f7a4 40 = .ok (.istore_n 0, 1) := by decide +kernel
theorem dJ6_bitCount_0f7a4_41 : decode cJ6_bitCount_0f7a4 41 = .ok (.iload_n 0, 1) := by decide +kernel
theorem dJ6_bitCount_0f7a4_42 : decode cJ6_bitCount_0f7a4 42 = .ok (.iload_n 0, 1) := by decide +kernel
theorem dJ6_bitCount_0f7a4_43 : decode cJ6_bitCount_0f7a4 43 = .ok (.bipush 16, 2) := by decide +kernel
theorem dJ6_bitCount_0f7a4_45 : decode cJ6_bitCount_0f7a4 45 = .ok (.iushr, 1) := by decide +kernel
theorem dJ6_bitCount_0f7a4_46 : decode cJ6_bitCount_0f7a4 46 = .ok (.iadd, 1) := by decide +kernel
theorem dJ6_bitCount_0f7a4_47 : decode cJ6_bitCount_0f7a4 47 = .ok (.istore_n 0, 1) := by decide +kernel
theorem dJ6_bitCount_0f7a4_48 : decode cJ6_bitCount_0f7a4 48 = .ok (.iload_n 0, 1) := by decide +kernel
theorem dJ6_bitCount_0f7a4_49 : decode cJ6_bitCount_0f7a4 49 = .ok (.bipush 63, 2) := by decide +kernel
theorem dJ6_bitCount_0f7a4_51 : decode cJ6_bitCount_0f7a4 51 = .ok (.iand, 1) := by decide +kernel
theorem dJ6_bitCount_0f7a4_52 : decode cJ6_bitCount_0f7a4 52 = .ok (.ireturn, 1) := by decide +kernel
theorem dJ9_floorDiv_7cf53_0 : decode cJ9_floorDiv_7cf53 0 = .ok (.iload_n 0, 1) := by decide +kernel
theorem dJ9_floorDiv_7cf53_1 : decode cJ9_floorDiv_7cf53 1 = .ok (.iload_n 1, 1) := by decide +kernel
theorem dJ9_floorDiv_7cf53_2 : decode cJ9_floorDiv_7cf53 2 = .ok (.idiv, 1) := by decide +kernel
theorem dJ9_floorDiv_7cf53_3 : decode cJ9_floorDiv_7cf53 3 = .ok (.istore_n 2, 1) := by decide +kernel
theorem dJ9_floorDiv_7cf53_4 : decode cJ9_floorDiv_7cf53 4 = .ok (.iload_n 0, 1) := by decide +kernel
theorem dJ9_floorDiv_7cf53_5 : decode cJ9_floorDiv_7cf53 5 = .ok (.iload_n 1, 1) := by decide +kernel
theorem dJ9_floorDiv_7cf53_6 : decode cJ9_floorDiv_7cf53 6 = .ok (.ixor, 1) := by decide +kernel
theorem dJ9_floorDiv_7cf53_7 : decode cJ9_floorDiv_7cf53 7 = .ok (.ifCond .ge 14, 3) := by decide +kernel
theorem dJ9_floorDiv_7cf53_10 : decode cJ9_floorDiv_7cf53 10 = .ok (.iload_n 2, 1) := by decide +kernel
theorem dJ9_floorDiv_7cf53_11 : decode cJ9_floorDiv_7cf53 11 = .ok (.iload_n 1, 1) := by decide +kernel
theorem dJ9_floorDiv_7cf53_12 : decode cJ9_floorDiv_7cf53 12 = .ok (.imul, 1) := by decide +kernel
theorem dJ9_floorDiv_7cf53_13 : decode cJ9_floorDiv_7cf53 13 = .ok (.iload_n 0, 1) := by decide +kernel
theorem dJ9_floorDiv_7cf53_14 : decode cJ9_floorDiv_7cf53 14 = .ok (.if_icmp .eq 7, 3) := by decide +kernel
theorem dJ9_floorDiv_7cf53_17 : decode cJ9_floorDiv_7cf53 17 = .ok (.iload_n 2, 1) := by decide +kernel
theorem dJ9_floorDiv_7cf53_18 : decode cJ9_floorDiv_7cf53 18 = .ok (.iconst 1, 1) := by decide +kernel
theorem dJ9_floorDiv_7cf53_19 : decode cJ9_floorDiv_7cf53 19 = .ok (.isub, 1) := by decide +kernel
theorem dJ9_floorDiv_7cf53_20 : decode cJ9_floorDiv_7cf53 20 = .ok (.ireturn, 1) := by decide +kernel
theorem dJ9_floorDiv_7cf53_21 : decode cJ9_floorDiv_7cf53 21 = .ok (.iload_n 2, 1) := by decide +kernel
theorem dJ9_floorDiv_7cf53_22 : decode cJ9_floorDiv_7cf53 22 = .ok (.ireturn, 1) := by decide +kernel
theorem dJ9_max_7cf53_0 : decode cJ9_max_7cf53 0 = .ok (.iload_n 0, 1) := by decide +kernel
theorem dJ9_max_7cf53_1 : decode cJ9_max_7cf53 1 = .ok (.iload_n 1, 1) := by decide +kernel
theorem dJ9_max_7cf53_2 : decode cJ9_max_7cf53 2 = .ok (.if_icmp .lt 7, 3) := by decide +kernel
theorem dJ9_max_7cf53_5 : decode cJ9_max_7cf53 5 = .ok (.iload_n 0, 1) := by decide +kernel
theorem dJ9_max_7cf53_6 : decode cJ9_max_7cf53 6 = .ok (.goto 4, 3) := by decide +kernel
theorem dJ9_max_7cf53_9 : decode cJ9_max_7cf53 9 = .ok (.iload_n 1, 1) := by decide +kernel
theorem dJ9_max_7cf53_10 : decode cJ9_max_7cf53 10 = .ok (.ireturn, 1) := by decide +kernel
theorem dJ9_min_7cf53_0 : decode cJ9_min_7cf53 0 = .ok (.iload_n 0, 1) := by decide +kernel
theorem dJ9_min_7cf53_1 : decode cJ9_min_7cf53 1 = .ok (.iload_n 1, 1) := by decide +kernel
theorem dJ9_min_7cf53_2 : decode cJ9_min_7cf53 2 = .ok (.if_icmp .gt 7, 3) := by decide +kernel
theorem dJ9_min_7cf53_5 : decode cJ9_min_7cf53 5 = .ok (.iload_n 0, 1) := by decide +kernel
theorem dJ9_min_7cf53_6 : decode cJ9_min_7cf53 6 = .ok (.goto 4, 3) := by decide +kernel
theorem dJ9_min_7cf53_9 : decode cJ9_min_7cf53 9 = .ok (.iload_n 1, 1) := by decide +kernel
theorem dJ9_min_7cf53_10 : decode cJ9_min_7cf53 10 = .ok (.ireturn, 1) := by decide +kernel
