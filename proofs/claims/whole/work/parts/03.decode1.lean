theorem dX0_init_0 : decode cX0_init 0 = .ok (.aload_n 0, 1) := by decide +kernel
theorem dX0_init_1 : decode cX0_init 1 = .ok (.invokespecial 3, 3) := by decide +kernel
theorem dX0_init_4 : decode cX0_init 4 = .ok (.aload_n 0, 1) := by decide +kernel
theorem dX0_init_5 : decode cX0_init 5 = .ok (.bipush 6, 2) := by decide +kernel
theorem dX0_init_7 : decode cX0_init 7 = .ok (.newarray .int, 2) := by decide +kernel
theorem dX0_init_9 : decode cX0_init 9 = .ok (.putfield 9, 3) := by decide +kernel
theorem dX0_init_12 : decode cX0_init 12 = .ok (.aload_n 0, 1) := by decide +kernel
theorem dX0_init_13 : decode cX0_init 13 = .ok (.bipush 7, 2) := by decide +kernel
theorem dX0_init_15 : decode cX0_init 15 = .ok (.newarray .int, 2) := by decide +kernel
theorem dX0_init_17 : decode cX0_init 17 = .ok (.putfield 15, 3) := by decide +kernel
theorem dX0_init_20 : decode cX0_init 20 = .ok (.aload_n 0, 1) := by decide +kernel
theorem dX0_init_21 : decode cX0_init 21 = .ok (.bipush 6, 2) := by decide +kernel
theorem dX0_init_23 : decode cX0_init 23 = .ok (.newarray .int, 2) := by decide +kernel
theorem dX0_init_25 : decode cX0_init 25 = .ok (.putfield 18, 3) := by decide +kernel
theorem dX0_init_28 : decode cX0_init 28 = .ok (.aload_n 0, 1) := by decide +kernel
theorem dX0_init_29 : decode cX0_init 29 = .ok (.bipush 6, 2) := by decide +kernel
theorem dX0_init_31 : decode cX0_init 31 = .ok (.newarray .int, 2) := by decide +kernel
theorem dX0_init_33 : decode cX0_init 33 = .ok (.putfield 21, 3) := by decide +kernel
theorem dX0_init_36 : decode cX0_init 36 = .ok (.aload_n 0, 1) := by decide +kernel
theorem dX0_init_37 : decode cX0_init 37 = .ok (.bipush 6, 2) := by decide +kernel
theorem dX0_init_39 : decode cX0_init 39 = .ok (.newarray .int, 2) := by decide +kernel
theorem dX0_init_41 : decode cX0_init 41 = .ok (.putfield 24, 3) := by decide +kernel
theorem dX0_init_44 : decode cX0_init 44 = .ok (.aload_n 0, 1) := by decide +kernel
theorem dX0_init_45 : decode cX0_init 45 = .ok (.aload_n 1, 1) := by decide +kernel
theorem dX0_init_46 : decode cX0_init 46 = .ok (.putfield 27, 3) := by decide +kernel
theorem dX0_init_49 : decode cX0_init 49 = .ok (.return_, 1) := by decide +kernel
theorem dX0_clear_0 : decode cX0_clear 0 = .ok (.aload_n 0, 1) := by decide +kernel
theorem dX0_clear_1 : decode cX0_clear 1 = .ok (.getfield 9, 3) := by decide +kernel
theorem dX0_clear_4 : decode cX0_clear 4 = .ok (.iconst 0, 1) := by decide +kernel
theorem dX0_clear_5 : decode cX0_clear 5 = .ok (.invokestatic 31, 3) := by decide +kernel
theorem dX0_clear_8 : decode cX0_clear 8 = .ok (.aload_n 0, 1) := by decide +kernel
theorem dX0_clear_9 : decode cX0_clear 9 = .ok (.getfield 15, 3) := by decide +kernel
theorem dX0_clear_12 : decode cX0_clear 12 = .ok (.iconst 0, 1) := by decide +kernel
theorem dX0_clear_13 : decode cX0_clear 13 = .ok (.invokestatic 31, 3) := by decide +kernel
theorem dX0_clear_16 : decode cX0_clear 16 = .ok (.return_, 1) := by decide +kernel
theorem dX0_put_0 : decode cX0_put 0 = .ok (.aload_n 1, 1) := by decide +kernel
theorem dX0_put_1 : decode cX0_put 1 = .ok (.getfield 37, 3) := by decide +kernel
theorem dX0_put_4 : decode cX0_put 4 = .ok (.aload_n 0, 1) := by decide +kernel
theorem dX0_put_5 : decode cX0_put 5 = .ok (.getfield 9, 3) := by decide +kernel
theorem dX0_put_8 : decode cX0_put 8 = .ok (.arraylength, 1) := by decide +kernel
theorem dX0_put_9 : decode cX0_put 9 = .ok (.if_icmp .ge 45, 3) := by decide +kernel
theorem dX0_put_12 : decode cX0_put 12 = .ok (.aload_n 1, 1) := by decide +kernel
theorem dX0_put_13 : decode cX0_put 13 = .ok (.getfield 43, 3) := by decide +kernel
theorem dX0_put_16 : decode cX0_put 16 = .ok (.ifCond .lt 38, 3) := by decide +kernel
theorem dX0_put_19 : decode cX0_put 19 = .ok (.aload_n 1, 1) := by decide +kernel
theorem dX0_put_20 : decode cX0_put 20 = .ok (.getfield 43, 3) := by decide +kernel
theorem dX0_put_23 : decode cX0_put 23 = .ok (.aload_n 0, 1) := by decide +kernel
theorem dX0_put_24 : decode cX0_put 24 = .ok (.getfield 15, 3) := by decide +kernel
theorem dX0_put_27 : decode cX0_put 27 = .ok (.arraylength, 1) := by decide +kernel
theorem dX0_put_28 : decode cX0_put 28 = .ok (.if_icmp .ge 26, 3) := by decide +kernel
theorem dX0_put_31 : decode cX0_put 31 = .ok (.aload_n 0, 1) := by decide +kernel
theorem dX0_put_32 : decode cX0_put 32 = .ok (.getfield 9, 3) := by decide +kernel
theorem dX0_put_35 : decode cX0_put 35 = .ok (.aload_n 1, 1) := by decide +kernel
theorem dX0_put_36 : decode cX0_put 36 = .ok (.getfield 37, 3) := by decide +kernel
theorem dX0_put_39 : decode cX0_put 39 = .ok (.iload_n 2, 1) := by decide +kernel
theorem dX0_put_40 : decode cX0_put 40 = .ok (.iastore, 1) := by decide +kernel
theorem dX0_put_41 : decode cX0_put 41 = .ok (.aload_n 0, 1) := by decide +kernel
theorem dX0_put_42 : decode cX0_put 42 = .ok (.getfield 15, 3) := by decide +kernel
theorem dX0_put_45 : decode cX0_put 45 = .ok (.aload_n 1, 1) := by decide +kernel
theorem dX0_put_46 : decode cX0_put 46 = .ok (.getfield 43, 3) := by decide +kernel
theorem dX0_put_49 : decode cX0_put 49 = .ok (.dup2, 1) := by decide +kernel
theorem dX0_put_50 : decode cX0_put 50 = .ok (.iaload, 1) := by decide +kernel
theorem dX0_put_51 : decode cX0_put 51 = .ok (.iload_n 2, 1) := by decide +kernel
theorem dX0_put_52 : decode cX0_put 52 = .ok (.iadd, 1) := by decide +kernel
theorem dX0_put_53 : decode cX0_put 53 = .ok (.iastore, 1) := by decide +kernel
theorem dX0_put_54 : decode cX0_put 54 = .ok (.return_, 1) := by decide +kernel
theorem dX0_secondsOn_0 : decode cX0_secondsOn 0 = .ok (.iload_n 1, 1) := by decide +kernel
theorem dX0_secondsOn_1 : decode cX0_secondsOn 1 = .ok (.ifCond .lt 21, 3) := by decide +kernel
theorem dX0_secondsOn_4 : decode cX0_secondsOn 4 = .ok (.iload_n 1, 1) := by decide +kernel
theorem dX0_secondsOn_5 : decode cX0_secondsOn 5 = .ok (.aload_n 0, 1) := by decide +kernel
theorem dX0_secondsOn_6 : decode cX0_secondsOn 6 = .ok (.getfield 15, 3) := by decide +kernel
theorem dX0_secondsOn_9 : decode cX0_secondsOn 9 = .ok (.arraylength, 1) := by decide +kernel
theorem dX0_secondsOn_10 : decode cX0_secondsOn 10 = .ok (.if_icmp .ge 12, 3) := by decide +kernel
theorem dX0_secondsOn_13 : decode cX0_secondsOn 13 = .ok (.aload_n 0, 1) := by decide +kernel
theorem dX0_secondsOn_14 : decode cX0_secondsOn 14 = .ok (.getfield 15, 3) := by decide +kernel
theorem dX0_secondsOn_17 : decode cX0_secondsOn 17 = .ok (.iload_n 1, 1) := by decide +kernel
theorem dX0_secondsOn_18 : decode cX0_secondsOn 18 = .ok (.iaload, 1) := by decide +kernel
theorem dX0_secondsOn_19 : decode cX0_secondsOn 19 = .ok (.goto 4, 3) := by decide +kernel
theorem dX0_secondsOn_22 : decode cX0_secondsOn 22 = .ok (.iconst 0, 1) := by decide +kernel
theorem dX0_secondsOn_23 : decode cX0_secondsOn 23 = .ok (.ireturn, 1) := by decide +kernel
theorem dX0_secondsOf_0 : decode cX0_secondsOf 0 = .ok (.iconst 0, 1) := by decide +kernel
theorem dX0_secondsOf_1 : decode cX0_secondsOf 1 = .ok (.istore_n 2, 1) := by decide +kernel
theorem dX0_secondsOf_2 : decode cX0_secondsOf 2 = .ok (.iconst 0, 1) := by decide +kernel
theorem dX0_secondsOf_3 : decode cX0_secondsOf 3 = .ok (.istore_n 3, 1) := by decide +kernel
theorem dX0_secondsOf_4 : decode cX0_secondsOf 4 = .ok (.iload_n 3, 1) := by decide +kernel
theorem dX0_secondsOf_5 : decode cX0_secondsOf 5 = .ok (.aload_n 0, 1) := by decide +kernel
theorem dX0_secondsOf_6 : decode cX0_secondsOf 6 = .ok (.getfield 9, 3) := by decide +kernel
theorem dX0_secondsOf_9 : decode cX0_secondsOf 9 = .ok (.arraylength, 1) := by decide +kernel
theorem dX0_secondsOf_10 : decode cX0_secondsOf 10 = .ok (.if_icmp .ge 26, 3) := by decide +kernel
theorem dX0_secondsOf_13 : decode cX0_secondsOf 13 = .ok (.iload_n 1, 1) := by decide +kernel
theorem dX0_secondsOf_14 : decode cX0_secondsOf 14 = .ok (.iload_n 3, 1) := by decide +kernel
theorem dX0_secondsOf_15 : decode cX0_secondsOf 15 = .ok (.ishr, 1) := by decide +kernel
theorem dX0_secondsOf_16 : decode cX0_secondsOf 16 = .ok (.iconst 1, 1) := by decide +kernel
theorem dX0_secondsOf_17 : decode cX0_secondsOf 17 = .ok (.iand, 1) := by decide +kernel
theorem dX0_secondsOf_18 : decode cX0_secondsOf 18 = .ok (.ifCond .eq 12, 3) := by decide +kernel
theorem dX0_secondsOf_21 : decode cX0_secondsOf 21 = .ok (.iload_n 2, 1) := by decide +kernel
theorem dX0_secondsOf_22 : decode cX0_secondsOf 22 = .ok (.aload_n 0, 1) := by decide +kernel
theorem dX0_secondsOf_23 : decode cX0_secondsOf 23 = .ok (.getfield 9, 3) := by decide +kernel
theorem dX0_secondsOf_26 : decode cX0_secondsOf 26 = .ok (.iload_n 3, 1) := by decide +kernel
theorem dX0_secondsOf_27 : decode cX0_secondsOf 27 = .ok (.iaload, 1) := by decide +kernel
theorem dX0_secondsOf_28 : decode cX0_secondsOf 28 = .ok (.iadd, 1) := by decide +kernel
theorem dX0_secondsOf_29 : decode cX0_secondsOf 29 = .ok (.istore_n 2, 1) := by decide +kernel
theorem dX0_secondsOf_30 : decode cX0_secondsOf 30 = .ok (.iinc 3 1, 3) := by decide +kernel
theorem dX0_secondsOf_33 : decode cX0_secondsOf 33 = .ok (.goto (-29), 3) := by decide +kernel
theorem dX0_secondsOf_36 : decode cX0_secondsOf 36 = .ok (.iload_n 2, 1) := by decide +kernel
theorem dX0_secondsOf_37 : decode cX0_secondsOf 37 = .ok (.ireturn, 1) := by decide +kernel
theorem dX0_takeOff_0 : decode cX0_takeOff 0 = .ok (.aload_n 0, 1) := by decide +kernel
theorem dX0_takeOff_1 : decode cX0_takeOff 1 = .ok (.iconst 0, 1) := by decide +kernel
theorem dX0_takeOff_2 : decode cX0_takeOff 2 = .ok (.putfield 46, 3) := by decide +kernel
theorem dX0_takeOff_5 : decode cX0_takeOff 5 = .ok (.iconst 0, 1) := by decide +kernel
theorem dX0_takeOff_6 : decode cX0_takeOff 6 = .ok (.istore_n 2, 1) := by decide +kernel
theorem dX0_takeOff_7 : decode cX0_takeOff 7 = .ok (.iload_n 2, 1) := by decide +kernel
theorem dX0_takeOff_8 : decode cX0_takeOff 8 = .ok (.aload_n 0, 1) := by decide +kernel
theorem dX0_takeOff_9 : decode cX0_takeOff 9 = .ok (.getfield 27, 3) := by decide +kernel
theorem dX0_takeOff_12 : decode cX0_takeOff 12 = .ok (.getfield 49, 3) := by decide +kernel
theorem dX0_takeOff_15 : decode cX0_takeOff 15 = .ok (.if_icmp .ge 71, 3) := by decide +kernel
theorem dX0_takeOff_18 : decode cX0_takeOff 18 = .ok (.iload_n 2, 1) := by decide +kernel
theorem dX0_takeOff_19 : decode cX0_takeOff 19 = .ok (.aload_n 0, 1) := by decide +kernel
theorem dX0_takeOff_20 : decode cX0_takeOff 20 = .ok (.getfield 18, 3) := by decide +kernel
theorem dX0_takeOff_23 : decode cX0_takeOff 23 = .ok (.arraylength, 1) := by decide +kernel
theorem dX0_takeOff_24 : decode cX0_takeOff 24 = .ok (.if_icmp .ge 62, 3) := by decide +kernel
theorem dX0_takeOff_27 : decode cX0_takeOff 27 = .ok (.aload_n 0, 1) := by decide +kernel
theorem dX0_takeOff_28 : decode cX0_takeOff 28 = .ok (.getfield 27, 3) := by decide +kernel
theorem dX0_takeOff_31 : decode cX0_takeOff 31 = .ok (.iload_n 2, 1) := by decide +kernel
theorem dX0_takeOff_32 : decode cX0_takeOff 32 = .ok (.invokevirtual 54, 3) := by decide +kernel
theorem dX0_takeOff_35 : decode cX0_takeOff 35 = .ok (.astore_n 3, 1) := by decide +kernel
theorem dX0_takeOff_36 : decode cX0_takeOff 36 = .ok (.aload_n 3, 1) := by decide +kernel
theorem dX0_takeOff_37 : decode cX0_takeOff 37 = .ok (.ifnull 43, 3) := by decide +kernel
theorem dX0_takeOff_40 : decode cX0_takeOff 40 = .ok (.aload_n 3, 1) := by decide +kernel
theorem dX0_takeOff_41 : decode cX0_takeOff 41 = .ok (.getfield 43, 3) := by decide +kernel
theorem dX0_takeOff_44 : decode cX0_takeOff 44 = .ok (.iload_n 1, 1) := by decide +kernel
theorem dX0_takeOff_45 : decode cX0_takeOff 45 = .ok (.if_icmp .ne 35, 3) := by decide +kernel
theorem dX0_takeOff_48 : decode cX0_takeOff 48 = .ok (.aload_n 0, 1) := by decide +kernel
theorem dX0_takeOff_49 : decode cX0_takeOff 49 = .ok (.getfield 46, 3) := by decide +kernel
theorem dX0_takeOff_52 : decode cX0_takeOff 52 = .ok (.aload_n 0, 1) := by decide +kernel
theorem dX0_takeOff_53 : decode cX0_takeOff 53 = .ok (.getfield 18, 3) := by decide +kernel
theorem dX0_takeOff_56 : decode cX0_takeOff 56 = .ok (.arraylength, 1) := by decide +kernel
theorem dX0_takeOff_57 : decode cX0_takeOff 57 = .ok (.if_icmp .ge 23, 3) := by decide +kernel
theorem dX0_takeOff_60 : decode cX0_takeOff 60 = .ok (.aload_n 0, 1) := by decide +kernel
theorem dX0_takeOff_61 : decode cX0_takeOff 61 = .ok (.getfield 18, 3) := by decide +kernel
theorem dX0_takeOff_64 : decode cX0_takeOff 64 = .ok (.aload_n 0, 1) := by decide +kernel
theorem dX0_takeOff_65 : decode cX0_takeOff 65 = .ok (.getfield 46, 3) := by decide +kernel
theorem dX0_takeOff_68 : decode cX0_takeOff 68 = .ok (.iload_n 2, 1) := by decide +kernel
theorem dX0_takeOff_69 : decode cX0_takeOff 69 = .ok (.iastore, 1) := by decide +kernel
theorem dX0_takeOff_70 : decode cX0_takeOff 70 = .ok (.aload_n 0, 1) := by decide +kernel
theorem dX0_takeOff_71 : decode cX0_takeOff 71 = .ok (.dup, 1) := by decide +kernel
theorem dX0_takeOff_72 : decode cX0_takeOff 72 = .ok (.getfield 46, 3) := by decide +kernel
theorem dX0_takeOff_75 : decode cX0_takeOff 75 = .ok (.iconst 1, 1) := by decide +kernel
theorem dX0_takeOff_76 : decode cX0_takeOff 76 = .ok (.iadd, 1) := by decide +kernel
theorem dX0_takeOff_77 : decode cX0_takeOff 77 = .ok (.putfield 46, 3) := by decide +kernel
theorem dX0_takeOff_80 : decode cX0_takeOff 80 = .ok (.iinc 2 1, 3) := by decide +kernel
theorem dX0_takeOff_83 : decode cX0_takeOff 83 = .ok (.goto (-76), 3) := by decide +kernel
theorem dX0_takeOff_86 : decode cX0_takeOff 86 = .ok (.aload_n 0, 1) := by decide +kernel
theorem dX0_takeOff_87 : decode cX0_takeOff 87 = .ok (.getfield 46, 3) := by decide +kernel
theorem dX0_takeOff_90 : decode cX0_takeOff 90 = .ok (.ireturn, 1) := by decide +kernel
theorem dX0_spread_0 : decode cX0_spread 0 = .ok (.aload_n 0, 1) := by decide +kernel
theorem dX0_spread_1 : decode cX0_spread 1 = .ok (.iload_n 1, 1) := by decide +kernel
theorem dX0_spread_2 : decode cX0_spread 2 = .ok (.putfield 58, 3) := by decide +kernel
theorem dX0_spread_5 : decode cX0_spread 5 = .ok (.aload_n 0, 1) := by decide +kernel
theorem dX0_spread_6 : decode cX0_spread 6 = .ok (.iload_n 2, 1) := by decide +kernel
theorem dX0_spread_7 : decode cX0_spread 7 = .ok (.putfield 61, 3) := by decide +kernel
theorem dX0_spread_10 : decode cX0_spread 10 = .ok (.aload_n 0, 1) := by decide +kernel
theorem dX0_spread_11 : decode cX0_spread 11 = .ok (.iload_n 3, 1) := by decide +kernel
theorem dX0_spread_12 : decode cX0_spread 12 = .ok (.putfield 64, 3) := by decide +kernel
theorem dX0_spread_15 : decode cX0_spread 15 = .ok (.aload_n 0, 1) := by decide +kernel
theorem dX0_spread_16 : decode cX0_spread 16 = .ok (.ldc 67, 2) := by decide +kernel
theorem dX0_spread_18 : decode cX0_spread 18 = .ok (.putfield 68, 3) := by decide +kernel
theorem dX0_spread_21 : decode cX0_spread 21 = .ok (.aload_n 0, 1) := by decide +kernel
theorem dX0_spread_22 : decode cX0_spread 22 = .ok (.iconst 0, 1) := by decide +kernel
theorem dX0_spread_23 : decode cX0_spread 23 = .ok (.iconst 0, 1) := by decide +kernel
theorem dX0_spread_24 : decode cX0_spread 24 = .ok (.invokevirtual 71, 3) := by decide +kernel
theorem dX0_spread_27 : decode cX0_spread 27 = .ok (.aload_n 0, 1) := by decide +kernel
theorem dX0_spread_28 : decode cX0_spread 28 = .ok (.getfield 68, 3) := by decide +kernel
theorem dX0_spread_31 : decode cX0_spread 31 = .ok (.ldc 67, 2) := by decide +kernel
theorem dX0_spread_33 : decode cX0_spread 33 = .ok (.if_icmp .ge 7, 3) := by decide +kernel
theorem dX0_spread_36 : decode cX0_spread 36 = .ok (.iconst 1, 1) := by decide +kernel
theorem dX0_spread_37 : decode cX0_spread 37 = .ok (.goto 4, 3) := by decide +kernel
theorem dX0_spread_40 : decode cX0_spread 40 = .ok (.iconst 0, 1) := by decide +kernel
theorem dX0_spread_41 : decode cX0_spread 41 = .ok (.ireturn, 1) := by decide +kernel
theorem dX0_spreadFrom_0 : decode cX0_spreadFrom 0 = .ok (.iload_n 2, 1) := by decide +kernel
theorem dX0_spreadFrom_1 : decode cX0_spreadFrom 1 = .ok (.aload_n 0, 1) := by decide +kernel
theorem dX0_spreadFrom_2 : decode cX0_spreadFrom 2 = .ok (.getfield 46, 3) := by decide +kernel
theorem dX0_spreadFrom_5 : decode cX0_spreadFrom 5 = .ok (.iload_n 1, 1) := by decide +kernel
theorem dX0_spreadFrom_6 : decode cX0_spreadFrom 6 = .ok (.isub, 1) := by decide +kernel
theorem dX0_spreadFrom_7 : decode cX0_spreadFrom 7 = .ok (.aload_n 0, 1) := by decide +kernel
theorem dX0_spreadFrom_8 : decode cX0_spreadFrom 8 = .ok (.getfield 58, 3) := by decide +kernel
theorem dX0_spreadFrom_11 : decode cX0_spreadFrom 11 = .ok (.imul, 1) := by decide +kernel
theorem dX0_spreadFrom_12 : decode cX0_spreadFrom 12 = .ok (.iadd, 1) := by decide +kernel
theorem dX0_spreadFrom_13 : decode cX0_spreadFrom 13 = .ok (.aload_n 0, 1) := by decide +kernel
theorem dX0_spreadFrom_14 : decode cX0_spreadFrom 14 = .ok (.getfield 68, 3) := by decide +kernel
theorem dX0_spreadFrom_17 : decode cX0_spreadFrom 17 = .ok (.if_icmp .lt 4, 3) := by decide +kernel
theorem dX0_spreadFrom_20 : decode cX0_spreadFrom 20 = .ok (.return_, 1) := by decide +kernel
theorem dX0_spreadFrom_21 : decode cX0_spreadFrom 21 = .ok (.iload_n 1, 1) := by decide +kernel
theorem dX0_spreadFrom_22 : decode cX0_spreadFrom 22 = .ok (.aload_n 0, 1) := by decide +kernel
theorem dX0_spreadFrom_23 : decode cX0_spreadFrom 23 = .ok (.getfield 46, 3) := by decide +kernel
theorem dX0_spreadFrom_26 : decode cX0_spreadFrom 26 = .ok (.if_icmp .ge 12, 3) := by decide +kernel
theorem dX0_spreadFrom_29 : decode cX0_spreadFrom 29 = .ok (.iload_n 1, 1) := by decide +kernel
theorem dX0_spreadFrom_30 : decode cX0_spreadFrom 30 = .ok (.aload_n 0, 1) := by decide +kernel
theorem dX0_spreadFrom_31 : decode cX0_spreadFrom 31 = .ok (.getfield 18, 3) := by decide +kernel
theorem dX0_spreadFrom_34 : decode cX0_spreadFrom 34 = .ok (.arraylength, 1) := by decide +kernel
theorem dX0_spreadFrom_35 : decode cX0_spreadFrom 35 = .ok (.if_icmp .lt 27, 3) := by decide +kernel
theorem dX0_spreadFrom_38 : decode cX0_spreadFrom 38 = .ok (.aload_n 0, 1) := by decide +kernel
theorem dX0_spreadFrom_39 : decode cX0_spreadFrom 39 = .ok (.iload_n 2, 1) := by decide +kernel
theorem dX0_spreadFrom_40 : decode cX0_spreadFrom 40 = .ok (.putfield 68, 3) := by decide +kernel
theorem dX0_spreadFrom_43 : decode cX0_spreadFrom 43 = .ok (.aload_n 0, 1) := by decide +kernel
theorem dX0_spreadFrom_44 : decode cX0_spreadFrom 44 = .ok (.getfield 21, 3) := by decide +kernel
theorem dX0_spreadFrom_47 : decode cX0_spreadFrom 47 = .ok (.iconst 0, 1) := by decide +kernel
theorem dX0_spreadFrom_48 : decode cX0_spreadFrom 48 = .ok (.aload_n 0, 1) := by decide +kernel
theorem dX0_spreadFrom_49 : decode cX0_spreadFrom 49 = .ok (.getfield 24, 3) := by decide +kernel
theorem dX0_spreadFrom_52 : decode cX0_spreadFrom 52 = .ok (.iconst 0, 1) := by decide +kernel
theorem dX0_spreadFrom_53 : decode cX0_spreadFrom 53 = .ok (.aload_n 0, 1) := by decide +kernel
theorem dX0_spreadFrom_54 : decode cX0_spreadFrom 54 = .ok (.getfield 21, 3) := by decide +kernel
theorem dX0_spreadFrom_57 : decode cX0_spreadFrom 57 = .ok (.arraylength, 1) := by decide +kernel
theorem dX0_spreadFrom_58 : decode cX0_spreadFrom 58 = .ok (.invokestatic 75, 3) := by decide +kernel
theorem dX0_spreadFrom_61 : decode cX0_spreadFrom 61 = .ok (.return_, 1) := by decide +kernel
theorem dX0_spreadFrom_62 : decode cX0_spreadFrom 62 = .ok (.aload_n 0, 1) := by decide +kernel
theorem dX0_spreadFrom_63 : decode cX0_spreadFrom 63 = .ok (.iconst 1, 1) := by decide +kernel
theorem dX0_spreadFrom_64 : decode cX0_spreadFrom 64 = .ok (.aload_n 0, 1) := by decide +kernel
theorem dX0_spreadFrom_65 : decode cX0_spreadFrom 65 = .ok (.getfield 18, 3) := by decide +kernel
theorem dX0_spreadFrom_68 : decode cX0_spreadFrom 68 = .ok (.iload_n 1, 1) := by decide +kernel
theorem dX0_spreadFrom_69 : decode cX0_spreadFrom 69 = .ok (.iaload, 1) := by decide +kernel
theorem dX0_spreadFrom_70 : decode cX0_spreadFrom 70 = .ok (.ishl, 1) := by decide +kernel
theorem dX0_spreadFrom_71 : decode cX0_spreadFrom 71 = .ok (.invokevirtual 81, 3) := by decide +kernel
theorem dX0_spreadFrom_74 : decode cX0_spreadFrom 74 = .ok (.istore_n 3, 1) := by decide +kernel
theorem dX0_spreadFrom_75 : decode cX0_spreadFrom 75 = .ok (.iconst 0, 1) := by decide +kernel
theorem dX0_spreadFrom_76 : decode cX0_spreadFrom 76 = .ok (.aload_n 0, 1) := by decide +kernel
theorem dX0_spreadFrom_77 : decode cX0_spreadFrom 77 = .ok (.getfield 58, 3) := by decide +kernel
theorem dX0_spreadFrom_80 : decode cX0_spreadFrom 80 = .ok (.invokestatic 85, 3) := by decide +kernel
theorem dX0_spreadFrom_83 : decode cX0_spreadFrom 83 = .ok (.istore 4, 2) := by decide +kernel
theorem dX0_spreadFrom_85 : decode cX0_spreadFrom 85 = .ok (.iload 4, 2) := by decide +kernel
theorem dX0_spreadFrom_87 : decode cX0_spreadFrom 87 = .ok (.aload_n 0, 1) := by decide +kernel
theorem dX0_spreadFrom_88 : decode cX0_spreadFrom 88 = .ok (.getfield 61, 3) := by decide +kernel
theorem dX0_spreadFrom_91 : decode cX0_spreadFrom 91 = .ok (.if_icmp .gt 76, 3) := by decide +kernel
theorem dX0_spreadFrom_94 : decode cX0_spreadFrom 94 = .ok (.iload 4, 2) := by decide +kernel
theorem dX0_spreadFrom_96 : decode cX0_spreadFrom 96 = .ok (.aload_n 0, 1) := by decide +kernel
theorem dX0_spreadFrom_97 : decode cX0_spreadFrom 97 = .ok (.getfield 15, 3) := by decide +kernel
theorem dX0_spreadFrom_100 : decode cX0_spreadFrom 100 = .ok (.arraylength, 1) := by decide +kernel
theorem dX0_spreadFrom_101 : decode cX0_spreadFrom 101 = .ok (.if_icmp .ge 66, 3) := by decide +kernel
theorem dX0_spreadFrom_104 : decode cX0_spreadFrom 104 = .ok (.aload_n 0, 1) := by decide +kernel
theorem dX0_spreadFrom_105 : decode cX0_spreadFrom 105 = .ok (.getfield 15, 3) := by decide +kernel
theorem dX0_spreadFrom_108 : decode cX0_spreadFrom 108 = .ok (.iload 4, 2) := by decide +kernel
theorem dX0_spreadFrom_110 : decode cX0_spreadFrom 110 = .ok (.iaload, 1) := by decide +kernel
theorem dX0_spreadFrom_111 : decode cX0_spreadFrom 111 = .ok (.iload_n 3, 1) := by decide +kernel
theorem dX0_spreadFrom_112 : decode cX0_spreadFrom 112 = .ok (.iadd, 1) := by decide +kernel
theorem dX0_spreadFrom_113 : decode cX0_spreadFrom 113 = .ok (.aload_n 0, 1) := by decide +kernel
theorem dX0_spreadFrom_114 : decode cX0_spreadFrom 114 = .ok (.getfield 64, 3) := by decide +kernel
theorem dX0_spreadFrom_117 : decode cX0_spreadFrom 117 = .ok (.if_icmp .gt 44, 3) := by decide +kernel
theorem dX0_spreadFrom_120 : decode cX0_spreadFrom 120 = .ok (.aload_n 0, 1) := by decide +kernel
theorem dX0_spreadFrom_121 : decode cX0_spreadFrom 121 = .ok (.getfield 15, 3) := by decide +kernel
theorem dX0_spreadFrom_124 : decode cX0_spreadFrom 124 = .ok (.iload 4, 2) := by decide +kernel
theorem dX0_spreadFrom_126 : decode cX0_spreadFrom 126 = .ok (.dup2, 1) := by decide +kernel
theorem dX0_spreadFrom_127 : decode cX0_spreadFrom 127 = .ok (.iaload, 1) := by decide +kernel
theorem dX0_spreadFrom_128 : decode cX0_spreadFrom 128 = .ok (.iload_n 3, 1) := by decide +kernel
theorem dX0_spreadFrom_129 : decode cX0_spreadFrom 129 = .ok (.iadd, 1) := by decide +kernel
theorem dX0_spreadFrom_130 : decode cX0_spreadFrom 130 = .ok (.iastore, 1) := by decide +kernel
theorem dX0_spreadFrom_131 : decode cX0_spreadFrom 131 = .ok (.aload_n 0, 1) := by decide +kernel
theorem dX0_spreadFrom_132 : decode cX0_spreadFrom 132 = .ok (.getfield 21, 3) := by decide +kernel
theorem dX0_spreadFrom_135 : decode cX0_spreadFrom 135 = .ok (.iload_n 1, 1) := by decide +kernel
theorem dX0_spreadFrom_136 : decode cX0_spreadFrom 136 = .ok (.iload 4, 2) := by decide +kernel
theorem dX0_spreadFrom_138 : decode cX0_spreadFrom 138 = .ok (.iastore, 1) := by decide +kernel
theorem dX0_spreadFrom_139 : decode cX0_spreadFrom 139 = .ok (.aload_n 0, 1) := by decide +kernel
theorem dX0_spreadFrom_140 : decode cX0_spreadFrom 140 = .ok (.iload_n 1, 1) := by decide +kernel
theorem dX0_spreadFrom_141 : decode cX0_spreadFrom 141 = .ok (.iconst 1, 1) := by decide +kernel
theorem dX0_spreadFrom_142 : decode cX0_spreadFrom 142 = .ok (.iadd, 1) := by decide +kernel
theorem dX0_spreadFrom_143 : decode cX0_spreadFrom 143 = .ok (.iload_n 2, 1) := by decide +kernel
theorem dX0_spreadFrom_144 : decode cX0_spreadFrom 144 = .ok (.iload 4, 2) := by decide +kernel
theorem dX0_spreadFrom_146 : decode cX0_spreadFrom 146 = .ok (.iadd, 1) := by decide +kernel
theorem dX0_spreadFrom_147 : decode cX0_spreadFrom 147 = .ok (.invokevirtual 71, 3) := by decide +kernel
theorem dX0_spreadFrom_150 : decode cX0_spreadFrom 150 = .ok (.aload_n 0, 1) := by decide +kernel
theorem dX0_spreadFrom_151 : decode cX0_spreadFrom 151 = .ok (.getfield 15, 3) := by decide +kernel
theorem dX0_spreadFrom_154 : decode cX0_spreadFrom 154 = .ok (.iload 4, 2) := by decide +kernel
theorem dX0_spreadFrom_156 : decode cX0_spreadFrom 156 = .ok (.dup2, 1) := by decide +kernel
theorem dX0_spreadFrom_157 : decode cX0_spreadFrom 157 = .ok (.iaload, 1) := by decide +kernel
theorem dX0_spreadFrom_158 : decode cX0_spreadFrom 158 = .ok (.iload_n 3, 1) := by decide +kernel
theorem dX0_spreadFrom_159 : decode cX0_spreadFrom 159 = .ok (.isub, 1) := by decide +kernel
theorem dX0_spreadFrom_160 : decode cX0_spreadFrom 160 = .ok (.iastore, 1) := by decide +kernel
theorem dX0_spreadFrom_161 : decode cX0_spreadFrom 161 = .ok (.iinc 4 1, 3) := by decide +kernel
theorem dX0_spreadFrom_164 : decode cX0_spreadFrom 164 = .ok (.goto (-79), 3) := by decide +kernel
theorem dX0_spreadFrom_167 : decode cX0_spreadFrom 167 = .ok (.return_, 1) := by decide +kernel
theorem dX0_foundAt_0 : decode cX0_foundAt 0 = .ok (.iload_n 1, 1) := by decide +kernel
theorem dX0_foundAt_1 : decode cX0_foundAt 1 = .ok (.ifCond .lt 21, 3) := by decide +kernel
theorem dX0_foundAt_4 : decode cX0_foundAt 4 = .ok (.iload_n 1, 1) := by decide +kernel
theorem dX0_foundAt_5 : decode cX0_foundAt 5 = .ok (.aload_n 0, 1) := by decide +kernel
theorem dX0_foundAt_6 : decode cX0_foundAt 6 = .ok (.getfield 24, 3) := by decide +kernel
theorem dX0_foundAt_9 : decode cX0_foundAt 9 = .ok (.arraylength, 1) := by decide +kernel
theorem dX0_foundAt_10 : decode cX0_foundAt 10 = .ok (.if_icmp .ge 12, 3) := by decide +kernel
theorem dX0_foundAt_13 : decode cX0_foundAt 13 = .ok (.aload_n 0, 1) := by decide +kernel
theorem dX0_foundAt_14 : decode cX0_foundAt 14 = .ok (.getfield 24, 3) := by decide +kernel
theorem dX0_foundAt_17 : decode cX0_foundAt 17 = .ok (.iload_n 1, 1) := by decide +kernel
theorem dX0_foundAt_18 : decode cX0_foundAt 18 = .ok (.iaload, 1) := by decide +kernel
theorem dX0_foundAt_19 : decode cX0_foundAt 19 = .ok (.goto 4, 3) := by decide +kernel
theorem dX0_foundAt_22 : decode cX0_foundAt 22 = .ok (.iconst (-1), 1) := by decide +kernel
theorem dX0_foundAt_23 : decode cX0_foundAt 23 = .ok (.ireturn, 1) := by decide +kernel
theorem dX1_init_0 : decode cX1_init 0 = .ok (.aload_n 0, 1) := by decide +kernel
theorem dX1_init_1 : decode cX1_init 1 = .ok (.invokespecial 1, 3) := by decide +kernel
theorem dX1_init_4 : decode cX1_init 4 = .ok (.aload_n 0, 1) := by decide +kernel
theorem dX1_init_5 : decode cX1_init 5 = .ok (.bipush 15, 2) := by decide +kernel
theorem dX1_init_7 : decode cX1_init 7 = .ok (.anewarray 9, 3) := by decide +kernel
theorem dX1_init_10 : decode cX1_init 10 = .ok (.putfield 11, 3) := by decide +kernel
theorem dX1_init_13 : decode cX1_init 13 = .ok (.aload_n 0, 1) := by decide +kernel
theorem dX1_init_14 : decode cX1_init 14 = .ok (.new 9, 3) := by decide +kernel
theorem dX1_init_17 : decode cX1_init 17 = .ok (.dup, 1) := by decide +kernel
theorem dX1_init_18 : decode cX1_init 18 = .ok (.invokespecial 15, 3) := by decide +kernel
theorem dX1_init_21 : decode cX1_init 21 = .ok (.putfield 16, 3) := by decide +kernel
theorem dX1_init_24 : decode cX1_init 24 = .ok (.iconst 0, 1) := by decide +kernel
theorem dX1_init_25 : decode cX1_init 25 = .ok (.istore_n 1, 1) := by decide +kernel
theorem dX1_init_26 : decode cX1_init 26 = .ok (.iload_n 1, 1) := by decide +kernel
theorem dX1_init_27 : decode cX1_init 27 = .ok (.aload_n 0, 1) := by decide +kernel
theorem dX1_init_28 : decode cX1_init 28 = .ok (.getfield 11, 3) := by decide +kernel
theorem dX1_init_31 : decode cX1_init 31 = .ok (.arraylength, 1) := by decide +kernel
theorem dX1_init_32 : decode cX1_init 32 = .ok (.if_icmp .ge 22, 3) := by decide +kernel
theorem dX1_init_35 : decode cX1_init 35 = .ok (.aload_n 0, 1) := by decide +kernel
theorem dX1_init_36 : decode cX1_init 36 = .ok (.getfield 11, 3) := by decide +kernel
theorem dX1_init_39 : decode cX1_init 39 = .ok (.iload_n 1, 1) := by decide +kernel
theorem dX1_init_40 : decode cX1_init 40 = .ok (.new 9, 3) := by decide +kernel
theorem dX1_init_43 : decode cX1_init 43 = .ok (.dup, 1) := by decide +kernel
theorem dX1_init_44 : decode cX1_init 44 = .ok (.invokespecial 15, 3) := by decide +kernel
theorem dX1_init_47 : decode cX1_init 47 = .ok (.aastore, 1) := by decide +kernel
theorem dX1_init_48 : decode cX1_init 48 = .ok (.iinc 1 1, 3) := by decide +kernel
theorem dX1_init_51 : decode cX1_init 51 = .ok (.goto (-25), 3) := by decide +kernel
theorem dX1_init_54 : decode cX1_init 54 = .ok (.return_, 1) := by decide +kernel
theorem dX1_note_0 : decode cX1_note 0 = .ok (.aload_n 0, 1) := by decide +kernel
theorem dX1_note_1 : decode cX1_note 1 = .ok (.getfield 16, 3) := by decide +kernel
theorem dX1_note_4 : decode cX1_note 4 = .ok (.aload_n 1, 1) := by decide +kernel
theorem dX1_note_5 : decode cX1_note 5 = .ok (.invokevirtual 20, 3) := by decide +kernel
theorem dX1_note_8 : decode cX1_note 8 = .ok (.return_, 1) := by decide +kernel
theorem dX1_push_0 : decode cX1_push 0 = .ok (.aload_n 0, 1) := by decide +kernel
theorem dX1_push_1 : decode cX1_push 1 = .ok (.getfield 24, 3) := by decide +kernel
theorem dX1_push_4 : decode cX1_push 4 = .ok (.bipush 15, 2) := by decide +kernel
theorem dX1_push_6 : decode cX1_push 6 = .ok (.if_icmp .lt 7, 3) := by decide +kernel
theorem dX1_push_9 : decode cX1_push 9 = .ok (.aload_n 0, 1) := by decide +kernel
theorem dX1_push_10 : decode cX1_push 10 = .ok (.invokevirtual 28, 3) := by decide +kernel
theorem dX1_push_13 : decode cX1_push 13 = .ok (.aload_n 0, 1) := by decide +kernel
theorem dX1_push_14 : decode cX1_push 14 = .ok (.getfield 24, 3) := by decide +kernel
theorem dX1_push_17 : decode cX1_push 17 = .ok (.ifCond .lt 41, 3) := by decide +kernel
theorem dX1_push_20 : decode cX1_push 20 = .ok (.aload_n 0, 1) := by decide +kernel
theorem dX1_push_21 : decode cX1_push 21 = .ok (.getfield 24, 3) := by decide +kernel
theorem dX1_push_24 : decode cX1_push 24 = .ok (.aload_n 0, 1) := by decide +kernel
theorem dX1_push_25 : decode cX1_push 25 = .ok (.getfield 11, 3) := by decide +kernel
theorem dX1_push_28 : decode cX1_push 28 = .ok (.arraylength, 1) := by decide +kernel
theorem dX1_push_29 : decode cX1_push 29 = .ok (.if_icmp .ge 29, 3) := by decide +kernel
theorem dX1_push_32 : decode cX1_push 32 = .ok (.aload_n 0, 1) := by decide +kernel
theorem dX1_push_33 : decode cX1_push 33 = .ok (.getfield 11, 3) := by decide +kernel
theorem dX1_push_36 : decode cX1_push 36 = .ok (.aload_n 0, 1) := by decide +kernel
theorem dX1_push_37 : decode cX1_push 37 = .ok (.getfield 24, 3) := by decide +kernel
theorem dX1_push_40 : decode cX1_push 40 = .ok (.aaload, 1) := by decide +kernel
theorem dX1_push_41 : decode cX1_push 41 = .ok (.aload_n 0, 1) := by decide +kernel
theorem dX1_push_42 : decode cX1_push 42 = .ok (.getfield 16, 3) := by decide +kernel
theorem dX1_push_45 : decode cX1_push 45 = .ok (.invokevirtual 20, 3) := by decide +kernel
theorem dX1_push_48 : decode cX1_push 48 = .ok (.aload_n 0, 1) := by decide +kernel
theorem dX1_push_49 : decode cX1_push 49 = .ok (.dup, 1) := by decide +kernel
theorem dX1_push_50 : decode cX1_push 50 = .ok (.getfield 24, 3) := by decide +kernel
theorem dX1_push_53 : decode cX1_push 53 = .ok (.iconst 1, 1) := by decide +kernel
theorem dX1_push_54 : decode cX1_push 54 = .ok (.iadd, 1) := by decide +kernel
theorem dX1_push_55 : decode cX1_push 55 = .ok (.putfield 24, 3) := by decide +kernel
theorem dX1_push_58 : decode cX1_push 58 = .ok (.return_, 1) := by decide +kernel
theorem dX1_back_0 : decode cX1_back 0 = .ok (.aload_n 0, 1) := by decide +kernel
theorem dX1_back_1 : decode cX1_back 1 = .ok (.getfield 24, 3) := by decide +kernel
theorem dX1_back_4 : decode cX1_back 4 = .ok (.iconst 1, 1) := by decide +kernel
theorem dX1_back_5 : decode cX1_back 5 = .ok (.if_icmp .lt 15, 3) := by decide +kernel
theorem dX1_back_8 : decode cX1_back 8 = .ok (.aload_n 0, 1) := by decide +kernel
theorem dX1_back_9 : decode cX1_back 9 = .ok (.getfield 24, 3) := by decide +kernel
theorem dX1_back_12 : decode cX1_back 12 = .ok (.aload_n 0, 1) := by decide +kernel
theorem dX1_back_13 : decode cX1_back 13 = .ok (.getfield 11, 3) := by decide +kernel
theorem dX1_back_16 : decode cX1_back 16 = .ok (.arraylength, 1) := by decide +kernel
theorem dX1_back_17 : decode cX1_back 17 = .ok (.if_icmp .le 5, 3) := by decide +kernel
theorem dX1_back_20 : decode cX1_back 20 = .ok (.iconst 0, 1) := by decide +kernel
theorem dX1_back_21 : decode cX1_back 21 = .ok (.ireturn, 1) := by decide +kernel
theorem dX1_back_22 : decode cX1_back 22 = .ok (.aload_n 0, 1) := by decide +kernel
theorem dX1_back_23 : decode cX1_back 23 = .ok (.dup, 1) := by decide +kernel
theorem dX1_back_24 : decode cX1_back 24 = .ok (.getfield 24, 3) := by decide +kernel
theorem dX1_back_27 : decode cX1_back 27 = .ok (.iconst 1, 1) := by decide +kernel
theorem dX1_back_28 : decode cX1_back 28 = .ok (.isub, 1) := by decide +kernel
theorem dX1_back_29 : decode cX1_back 29 = .ok (.putfield 24, 3) := by decide +kernel
theorem dX1_back_32 : decode cX1_back 32 = .ok (.aload_n 1, 1) := by decide +kernel
theorem dX1_back_33 : decode cX1_back 33 = .ok (.aload_n 0, 1) := by decide +kernel
theorem dX1_back_34 : decode cX1_back 34 = .ok (.getfield 11, 3) := by decide +kernel
theorem dX1_back_37 : decode cX1_back 37 = .ok (.aload_n 0, 1) := by decide +kernel
theorem dX1_back_38 : decode cX1_back 38 = .ok (.getfield 24, 3) := by decide +kernel
theorem dX1_back_41 : decode cX1_back 41 = .ok (.aaload, 1) := by decide +kernel
theorem dX1_back_42 : decode cX1_back 42 = .ok (.invokevirtual 20, 3) := by decide +kernel
theorem dX1_back_45 : decode cX1_back 45 = .ok (.iconst 1, 1) := by decide +kernel
theorem dX1_back_46 : decode cX1_back 46 = .ok (.ireturn, 1) := by decide +kernel
theorem dX1_clear_0 : decode cX1_clear 0 = .ok (.aload_n 0, 1) := by decide +kernel
theorem dX1_clear_1 : decode cX1_clear 1 = .ok (.iconst 0, 1) := by decide +kernel
theorem dX1_clear_2 : decode cX1_clear 2 = .ok (.putfield 24, 3) := by decide +kernel
theorem dX1_clear_5 : decode cX1_clear 5 = .ok (.return_, 1) := by decide +kernel
theorem dX1_dropOldest_0 : decode cX1_dropOldest 0 = .ok (.aload_n 0, 1) := by decide +kernel
theorem dX1_dropOldest_1 : decode cX1_dropOldest 1 = .ok (.getfield 11, 3) := by decide +kernel
theorem dX1_dropOldest_4 : decode cX1_dropOldest 4 = .ok (.iconst 0, 1) := by decide +kernel
theorem dX1_dropOldest_5 : decode cX1_dropOldest 5 = .ok (.aaload, 1) := by decide +kernel
theorem dX1_dropOldest_6 : decode cX1_dropOldest 6 = .ok (.astore_n 1, 1) := by decide +kernel
theorem dX1_dropOldest_7 : decode cX1_dropOldest 7 = .ok (.iconst 1, 1) := by decide +kernel
theorem dX1_dropOldest_8 : decode cX1_dropOldest 8 = .ok (.istore_n 2, 1) := by decide +kernel
theorem dX1_dropOldest_9 : decode cX1_dropOldest 9 = .ok (.iload_n 2, 1) := by decide +kernel
theorem dX1_dropOldest_10 : decode cX1_dropOldest 10 = .ok (.aload_n 0, 1) := by decide +kernel
theorem dX1_dropOldest_11 : decode cX1_dropOldest 11 = .ok (.getfield 11, 3) := by decide +kernel
theorem dX1_dropOldest_14 : decode cX1_dropOldest 14 = .ok (.arraylength, 1) := by decide +kernel
theorem dX1_dropOldest_15 : decode cX1_dropOldest 15 = .ok (.if_icmp .ge 23, 3) := by decide +kernel
theorem dX1_dropOldest_18 : decode cX1_dropOldest 18 = .ok (.aload_n 0, 1) := by decide +kernel
theorem dX1_dropOldest_19 : decode cX1_dropOldest 19 = .ok (.getfield 11, 3) := by decide +kernel
theorem dX1_dropOldest_22 : decode cX1_dropOldest 22 = .ok (.iload_n 2, 1) := by decide +kernel
theorem dX1_dropOldest_23 : decode cX1_dropOldest 23 = .ok (.iconst 1, 1) := by decide +kernel
theorem dX1_dropOldest_24 : decode cX1_dropOldest 24 = .ok (.isub, 1) := by decide +kernel
theorem dX1_dropOldest_25 : decode cX1_dropOldest 25 = .ok (.aload_n 0, 1) := by decide +kernel
theorem dX1_dropOldest_26 : decode cX1_dropOldest 26 = .ok (.getfield 11, 3) := by decide +kernel
theorem dX1_dropOldest_29 : decode cX1_dropOldest 29 = .ok (.iload_n 2, 1) := by decide +kernel
theorem dX1_dropOldest_30 : decode cX1_dropOldest 30 = .ok (.aaload, 1) := by decide +kernel
theorem dX1_dropOldest_31 : decode cX1_dropOldest 31 = .ok (.aastore, 1) := by decide +kernel
theorem dX1_dropOldest_32 : decode cX1_dropOldest 32 = .ok (.iinc 2 1, 3) := by decide +kernel
theorem dX1_dropOldest_35 : decode cX1_dropOldest 35 = .ok (.goto (-26), 3) := by decide +kernel
theorem dX1_dropOldest_38 : decode cX1_dropOldest 38 = .ok (.aload_n 0, 1) := by decide +kernel
theorem dX1_dropOldest_39 : decode cX1_dropOldest 39 = .ok (.getfield 11, 3) := by decide +kernel
theorem dX1_dropOldest_42 : decode cX1_dropOldest 42 = .ok (.aload_n 0, 1) := by decide +kernel
theorem dX1_dropOldest_43 : decode cX1_dropOldest 43 = .ok (.getfield 11, 3) := by decide +kernel
theorem dX1_dropOldest_46 : decode cX1_dropOldest 46 = .ok (.arraylength, 1) := by decide +kernel
theorem dX1_dropOldest_47 : decode cX1_dropOldest 47 = .ok (.iconst 1, 1) := by decide +kernel
theorem dX1_dropOldest_48 : decode cX1_dropOldest 48 = .ok (.isub, 1) := by decide +kernel
theorem dX1_dropOldest_49 : decode cX1_dropOldest 49 = .ok (.aload_n 1, 1) := by decide +kernel
theorem dX1_dropOldest_50 : decode cX1_dropOldest 50 = .ok (.aastore, 1) := by decide +kernel
theorem dX1_dropOldest_51 : decode cX1_dropOldest 51 = .ok (.aload_n 0, 1) := by decide +kernel
theorem dX1_dropOldest_52 : decode cX1_dropOldest 52 = .ok (.bipush 14, 2) := by decide +kernel
theorem dX1_dropOldest_54 : decode cX1_dropOldest 54 = .ok (.putfield 24, 3) := by decide +kernel
theorem dX1_dropOldest_57 : decode cX1_dropOldest 57 = .ok (.return_, 1) := by decide +kernel
theorem dX2_init_0 : decode cX2_init 0 = .ok (.aload_n 0, 1) := by decide +kernel
theorem dX2_init_1 : decode cX2_init 1 = .ok (.invokespecial 3, 3) := by decide +kernel
theorem dX2_init_4 : decode cX2_init 4 = .ok (.aload_n 0, 1) := by decide +kernel
theorem dX2_init_5 : decode cX2_init 5 = .ok (.bipush 8, 2) := by decide +kernel
theorem dX2_init_7 : decode cX2_init 7 = .ok (.newarray .int, 2) := by decide +kernel
theorem dX2_init_9 : decode cX2_init 9 = .ok (.putfield 11, 3) := by decide +kernel
theorem dX2_init_12 : decode cX2_init 12 = .ok (.aload_n 0, 1) := by decide +kernel
theorem dX2_init_13 : decode cX2_init 13 = .ok (.bipush 16, 2) := by decide +kernel
theorem dX2_init_15 : decode cX2_init 15 = .ok (.newarray .int, 2) := by decide +kernel
theorem dX2_init_17 : decode cX2_init 17 = .ok (.putfield 15, 3) := by decide +kernel
theorem dX2_init_20 : decode cX2_init 20 = .ok (.aload_n 0, 1) := by decide +kernel
theorem dX2_init_21 : decode cX2_init 21 = .ok (.bipush 16, 2) := by decide +kernel
theorem dX2_init_23 : decode cX2_init 23 = .ok (.newarray .int, 2) := by decide +kernel
theorem dX2_init_25 : decode cX2_init 25 = .ok (.putfield 18, 3) := by decide +kernel
theorem dX2_init_28 : decode cX2_init 28 = .ok (.aload_n 0, 1) := by decide +kernel
theorem dX2_init_29 : decode cX2_init 29 = .ok (.bipush 16, 2) := by decide +kernel
theorem dX2_init_31 : decode cX2_init 31 = .ok (.newarray .int, 2) := by decide +kernel
theorem dX2_init_33 : decode cX2_init 33 = .ok (.putfield 21, 3) := by decide +kernel
theorem dX2_init_36 : decode cX2_init 36 = .ok (.aload_n 0, 1) := by decide +kernel
theorem dX2_init_37 : decode cX2_init 37 = .ok (.iconst 3, 1) := by decide +kernel
theorem dX2_init_38 : decode cX2_init 38 = .ok (.newarray .int, 2) := by decide +kernel
theorem dX2_init_40 : decode cX2_init 40 = .ok (.putfield 24, 3) := by decide +kernel
theorem dX2_init_43 : decode cX2_init 43 = .ok (.aload_n 0, 1) := by decide +kernel
theorem dX2_init_44 : decode cX2_init 44 = .ok (.iconst 1, 1) := by decide +kernel
theorem dX2_init_45 : decode cX2_init 45 = .ok (.putfield 27, 3) := by decide +kernel
theorem dX2_init_48 : decode cX2_init 48 = .ok (.aload_n 0, 1) := by decide +kernel
theorem dX2_init_49 : decode cX2_init 49 = .ok (.aload_n 1, 1) := by decide +kernel
theorem dX2_init_50 : decode cX2_init 50 = .ok (.putfield 31, 3) := by decide +kernel
theorem dX2_init_53 : decode cX2_init 53 = .ok (.aload_n 0, 1) := by decide +kernel
theorem dX2_init_54 : decode cX2_init 54 = .ok (.aload_n 2, 1) := by decide +kernel
theorem dX2_init_55 : decode cX2_init 55 = .ok (.putfield 35, 3) := by decide +kernel
theorem dX2_init_58 : decode cX2_init 58 = .ok (.return_, 1) := by decide +kernel
theorem dX2_think_0 : decode cX2_think 0 = .ok (.aload_n 0, 1) := by decide +kernel
theorem dX2_think_1 : decode cX2_think 1 = .ok (.iconst 1, 1) := by decide +kernel
theorem dX2_think_2 : decode cX2_think 2 = .ok (.iload_n 1, 1) := by decide +kernel
theorem dX2_think_3 : decode cX2_think 3 = .ok (.invokestatic 39, 3) := by decide +kernel
theorem dX2_think_6 : decode cX2_think 6 = .ok (.putfield 27, 3) := by decide +kernel
theorem dX2_think_9 : decode cX2_think 9 = .ok (.aload_n 0, 1) := by decide +kernel
theorem dX2_think_10 : decode cX2_think 10 = .ok (.iload_n 2, 1) := by decide +kernel
theorem dX2_think_11 : decode cX2_think 11 = .ok (.putfield 45, 3) := by decide +kernel
theorem dX2_think_14 : decode cX2_think 14 = .ok (.return_, 1) := by decide +kernel
theorem dX2_lay_0 : decode cX2_lay 0 = .ok (.aload_n 0, 1) := by decide +kernel
theorem dX2_lay_1 : decode cX2_lay 1 = .ok (.iconst 0, 1) := by decide +kernel
theorem dX2_lay_2 : decode cX2_lay 2 = .ok (.putfield 48, 3) := by decide +kernel
theorem dX2_lay_5 : decode cX2_lay 5 = .ok (.aload_n 0, 1) := by decide +kernel
theorem dX2_lay_6 : decode cX2_lay 6 = .ok (.iconst 0, 1) := by decide +kernel
theorem dX2_lay_7 : decode cX2_lay 7 = .ok (.putfield 51, 3) := by decide +kernel
theorem dX2_lay_10 : decode cX2_lay 10 = .ok (.aload_n 0, 1) := by decide +kernel
theorem dX2_lay_11 : decode cX2_lay 11 = .ok (.aload_n 0, 1) := by decide +kernel
theorem dX2_lay_12 : decode cX2_lay 12 = .ok (.getfield 31, 3) := by decide +kernel
theorem dX2_lay_15 : decode cX2_lay 15 = .ok (.iconst 4, 1) := by decide +kernel
theorem dX2_lay_16 : decode cX2_lay 16 = .ok (.invokevirtual 54, 3) := by decide +kernel
theorem dX2_lay_19 : decode cX2_lay 19 = .ok (.putfield 60, 3) := by decide +kernel
theorem dX2_lay_22 : decode cX2_lay 22 = .ok (.iconst 0, 1) := by decide +kernel
theorem dX2_lay_23 : decode cX2_lay 23 = .ok (.istore 4, 2) := by decide +kernel
theorem dX2_lay_25 : decode cX2_lay 25 = .ok (.iload 4, 2) := by decide +kernel
theorem dX2_lay_27 : decode cX2_lay 27 = .ok (.bipush 16, 2) := by decide +kernel
theorem dX2_lay_29 : decode cX2_lay 29 = .ok (.if_icmp .ge 197, 3) := by decide +kernel
theorem dX2_lay_32 : decode cX2_lay 32 = .ok (.aload_n 1, 1) := by decide +kernel
theorem dX2_lay_33 : decode cX2_lay 33 = .ok (.iload_n 2, 1) := by decide +kernel
theorem dX2_lay_34 : decode cX2_lay 34 = .ok (.iload 4, 2) := by decide +kernel
theorem dX2_lay_36 : decode cX2_lay 36 = .ok (.invokestatic 63, 3) := by decide +kernel
theorem dX2_lay_39 : decode cX2_lay 39 = .ok (.istore 5, 2) := by decide +kernel
theorem dX2_lay_41 : decode cX2_lay 41 = .ok (.iload 5, 2) := by decide +kernel
theorem dX2_lay_43 : decode cX2_lay 43 = .ok (.ifCond .lt 177, 3) := by decide +kernel
theorem dX2_lay_46 : decode cX2_lay 46 = .ok (.iload_n 3, 1) := by decide +kernel
theorem dX2_lay_47 : decode cX2_lay 47 = .ok (.iload 5, 2) := by decide +kernel
theorem dX2_lay_49 : decode cX2_lay 49 = .ok (.ishr, 1) := by decide +kernel
theorem dX2_lay_50 : decode cX2_lay 50 = .ok (.iconst 1, 1) := by decide +kernel
theorem dX2_lay_51 : decode cX2_lay 51 = .ok (.iand, 1) := by decide +kernel
theorem dX2_lay_52 : decode cX2_lay 52 = .ok (.ifCond .eq 168, 3) := by decide +kernel
theorem dX2_lay_55 : decode cX2_lay 55 = .ok (.aload_n 0, 1) := by decide +kernel
theorem dX2_lay_56 : decode cX2_lay 56 = .ok (.getfield 48, 3) := by decide +kernel
theorem dX2_lay_59 : decode cX2_lay 59 = .ok (.bipush 16, 2) := by decide +kernel
theorem dX2_lay_61 : decode cX2_lay 61 = .ok (.if_icmp .ge 159, 3) := by decide +kernel
theorem dX2_lay_64 : decode cX2_lay 64 = .ok (.aload_n 0, 1) := by decide +kernel
theorem dX2_lay_65 : decode cX2_lay 65 = .ok (.getfield 31, 3) := by decide +kernel
theorem dX2_lay_68 : decode cX2_lay 68 = .ok (.aload_n 1, 1) := by decide +kernel
theorem dX2_lay_69 : decode cX2_lay 69 = .ok (.iload 5, 2) := by decide +kernel
theorem dX2_lay_71 : decode cX2_lay 71 = .ok (.invokevirtual 67, 3) := by decide +kernel
theorem dX2_lay_74 : decode cX2_lay 74 = .ok (.aload_n 0, 1) := by decide +kernel
theorem dX2_lay_75 : decode cX2_lay 75 = .ok (.getfield 31, 3) := by decide +kernel
theorem dX2_lay_78 : decode cX2_lay 78 = .ok (.iconst 2, 1) := by decide +kernel
theorem dX2_lay_79 : decode cX2_lay 79 = .ok (.invokevirtual 54, 3) := by decide +kernel
theorem dX2_lay_82 : decode cX2_lay 82 = .ok (.invokevirtual 72, 3) := by decide +kernel
theorem dX2_lay_85 : decode cX2_lay 85 = .ok (.istore 6, 2) := by decide +kernel
theorem dX2_lay_87 : decode cX2_lay 87 = .ok (.iload_n 2, 1) := by decide +kernel
theorem dX2_lay_88 : decode cX2_lay 88 = .ok (.iconst 2, 1) := by decide +kernel
theorem dX2_lay_89 : decode cX2_lay 89 = .ok (.if_icmp .ne 13, 3) := by decide +kernel
theorem dX2_lay_92 : decode cX2_lay 92 = .ok (.iload 5, 2) := by decide +kernel
theorem dX2_lay_94 : decode cX2_lay 94 = .ok (.bipush 8, 2) := by decide +kernel
theorem dX2_lay_96 : decode cX2_lay 96 = .ok (.irem, 1) := by decide +kernel
theorem dX2_lay_97 : decode cX2_lay 97 = .ok (.iconst 1, 1) := by decide +kernel
theorem dX2_lay_98 : decode cX2_lay 98 = .ok (.iadd, 1) := by decide +kernel
theorem dX2_lay_99 : decode cX2_lay 99 = .ok (.goto 4, 3) := by decide +kernel
theorem dX2_lay_102 : decode cX2_lay 102 = .ok (.iconst 0, 1) := by decide +kernel
theorem dX2_lay_103 : decode cX2_lay 103 = .ok (.istore 7, 2) := by decide +kernel
theorem dX2_lay_105 : decode cX2_lay 105 = .ok (.iload_n 2, 1) := by decide +kernel
theorem dX2_lay_106 : decode cX2_lay 106 = .ok (.iconst 1, 1) := by decide +kernel
theorem dX2_lay_107 : decode cX2_lay 107 = .ok (.if_icmp .ne 15, 3) := by decide +kernel
theorem dX2_lay_110 : decode cX2_lay 110 = .ok (.iload 5, 2) := by decide +kernel
theorem dX2_lay_112 : decode cX2_lay 112 = .ok (.bipush 8, 2) := by decide +kernel
theorem dX2_lay_114 : decode cX2_lay 114 = .ok (.if_icmp .lt 8, 3) := by decide +kernel
theorem dX2_lay_117 : decode cX2_lay 117 = .ok (.bipush 11, 2) := by decide +kernel
theorem dX2_lay_119 : decode cX2_lay 119 = .ok (.goto 4, 3) := by decide +kernel
theorem dX2_lay_122 : decode cX2_lay 122 = .ok (.iconst 0, 1) := by decide +kernel
theorem dX2_lay_123 : decode cX2_lay 123 = .ok (.istore 8, 2) := by decide +kernel
theorem dX2_lay_125 : decode cX2_lay 125 = .ok (.aload_n 0, 1) := by decide +kernel
theorem dX2_lay_126 : decode cX2_lay 126 = .ok (.getfield 15, 3) := by decide +kernel
theorem dX2_lay_129 : decode cX2_lay 129 = .ok (.aload_n 0, 1) := by decide +kernel
theorem dX2_lay_130 : decode cX2_lay 130 = .ok (.getfield 48, 3) := by decide +kernel
theorem dX2_lay_133 : decode cX2_lay 133 = .ok (.iload 5, 2) := by decide +kernel
theorem dX2_lay_135 : decode cX2_lay 135 = .ok (.iastore, 1) := by decide +kernel
theorem dX2_lay_136 : decode cX2_lay 136 = .ok (.aload_n 0, 1) := by decide +kernel
theorem dX2_lay_137 : decode cX2_lay 137 = .ok (.getfield 18, 3) := by decide +kernel
theorem dX2_lay_140 : decode cX2_lay 140 = .ok (.aload_n 0, 1) := by decide +kernel
theorem dX2_lay_141 : decode cX2_lay 141 = .ok (.getfield 48, 3) := by decide +kernel
theorem dX2_lay_144 : decode cX2_lay 144 = .ok (.iload 6, 2) := by decide +kernel
theorem dX2_lay_146 : decode cX2_lay 146 = .ok (.iastore, 1) := by decide +kernel
theorem dX2_lay_147 : decode cX2_lay 147 = .ok (.aload_n 0, 1) := by decide +kernel
theorem dX2_lay_148 : decode cX2_lay 148 = .ok (.getfield 21, 3) := by decide +kernel
theorem dX2_lay_151 : decode cX2_lay 151 = .ok (.aload_n 0, 1) := by decide +kernel
theorem dX2_lay_152 : decode cX2_lay 152 = .ok (.getfield 48, 3) := by decide +kernel
theorem dX2_lay_155 : decode cX2_lay 155 = .ok (.iload 6, 2) := by decide +kernel
theorem dX2_lay_157 : decode cX2_lay 157 = .ok (.aload_n 0, 1) := by decide +kernel
theorem dX2_lay_158 : decode cX2_lay 158 = .ok (.getfield 60, 3) := by decide +kernel
theorem dX2_lay_161 : decode cX2_lay 161 = .ok (.if_icmp .le 7, 3) := by decide +kernel
theorem dX2_lay_164 : decode cX2_lay 164 = .ok (.iconst 3, 1) := by decide +kernel
theorem dX2_lay_165 : decode cX2_lay 165 = .ok (.goto 20, 3) := by decide +kernel
theorem dX2_lay_168 : decode cX2_lay 168 = .ok (.aload_n 0, 1) := by decide +kernel
theorem dX2_lay_169 : decode cX2_lay 169 = .ok (.aload_n 1, 1) := by decide +kernel
theorem dX2_lay_170 : decode cX2_lay 170 = .ok (.iload 5, 2) := by decide +kernel
theorem dX2_lay_172 : decode cX2_lay 172 = .ok (.iload 7, 2) := by decide +kernel
theorem dX2_lay_174 : decode cX2_lay 174 = .ok (.invokevirtual 75, 3) := by decide +kernel
theorem dX2_lay_177 : decode cX2_lay 177 = .ok (.iconst 4, 1) := by decide +kernel
theorem dX2_lay_178 : decode cX2_lay 178 = .ok (.iload 7, 2) := by decide +kernel
theorem dX2_lay_180 : decode cX2_lay 180 = .ok (.imul, 1) := by decide +kernel
theorem dX2_lay_181 : decode cX2_lay 181 = .ok (.iadd, 1) := by decide +kernel
theorem dX2_lay_182 : decode cX2_lay 182 = .ok (.iload 8, 2) := by decide +kernel
theorem dX2_lay_184 : decode cX2_lay 184 = .ok (.iadd, 1) := by decide +kernel
theorem dX2_lay_185 : decode cX2_lay 185 = .ok (.iastore, 1) := by decide +kernel
theorem dX2_lay_186 : decode cX2_lay 186 = .ok (.aload_n 0, 1) := by decide +kernel
theorem dX2_lay_187 : decode cX2_lay 187 = .ok (.dup, 1) := by decide +kernel
theorem dX2_lay_188 : decode cX2_lay 188 = .ok (.getfield 51, 3) := by decide +kernel
theorem dX2_lay_191 : decode cX2_lay 191 = .ok (.iload 6, 2) := by decide +kernel
theorem dX2_lay_193 : decode cX2_lay 193 = .ok (.aload_n 0, 1) := by decide +kernel
theorem dX2_lay_194 : decode cX2_lay 194 = .ok (.getfield 60, 3) := by decide +kernel
theorem dX2_lay_197 : decode cX2_lay 197 = .ok (.if_icmp .le 7, 3) := by decide +kernel
theorem dX2_lay_200 : decode cX2_lay 200 = .ok (.iconst 0, 1) := by decide +kernel
theorem dX2_lay_201 : decode cX2_lay 201 = .ok (.goto 5, 3) := by decide +kernel
theorem dX2_lay_204 : decode cX2_lay 204 = .ok (.iload 6, 2) := by decide +kernel
theorem dX2_lay_206 : decode cX2_lay 206 = .ok (.iadd, 1) := by decide +kernel
theorem dX2_lay_207 : decode cX2_lay 207 = .ok (.putfield 51, 3) := by decide +kernel
theorem dX2_lay_210 : decode cX2_lay 210 = .ok (.aload_n 0, 1) := by decide +kernel
theorem dX2_lay_211 : decode cX2_lay 211 = .ok (.dup, 1) := by decide +kernel
theorem dX2_lay_212 : decode cX2_lay 212 = .ok (.getfield 48, 3) := by decide +kernel
theorem dX2_lay_215 : decode cX2_lay 215 = .ok (.iconst 1, 1) := by decide +kernel
theorem dX2_lay_216 : decode cX2_lay 216 = .ok (.iadd, 1) := by decide +kernel
theorem dX2_lay_217 : decode cX2_lay 217 = .ok (.putfield 48, 3) := by decide +kernel
theorem dX2_lay_220 : decode cX2_lay 220 = .ok (.iinc 4 1, 3) := by decide +kernel
theorem dX2_lay_223 : decode cX2_lay 223 = .ok (.goto (-198), 3) := by decide +kernel
theorem dX2_lay_226 : decode cX2_lay 226 = .ok (.aload_n 0, 1) := by decide +kernel
theorem dX2_lay_227 : decode cX2_lay 227 = .ok (.aload_n 1, 1) := by decide +kernel
theorem dX2_lay_228 : decode cX2_lay 228 = .ok (.iload_n 2, 1) := by decide +kernel
theorem dX2_lay_229 : decode cX2_lay 229 = .ok (.invokestatic 78, 3) := by decide +kernel
theorem dX2_lay_232 : decode cX2_lay 232 = .ok (.putfield 82, 3) := by decide +kernel
theorem dX2_lay_235 : decode cX2_lay 235 = .ok (.return_, 1) := by decide +kernel
theorem dX2_houseAt_0 : decode cX2_houseAt 0 = .ok (.iconst 2, 1) := by decide +kernel
theorem dX2_houseAt_1 : decode cX2_houseAt 1 = .ok (.aload_n 0, 1) := by decide +kernel
theorem dX2_houseAt_2 : decode cX2_houseAt 2 = .ok (.getfield 85, 3) := by decide +kernel
theorem dX2_houseAt_5 : decode cX2_houseAt 5 = .ok (.imul, 1) := by decide +kernel
theorem dX2_houseAt_6 : decode cX2_houseAt 6 = .ok (.iconst 1, 1) := by decide +kernel
theorem dX2_houseAt_7 : decode cX2_houseAt 7 = .ok (.isub, 1) := by decide +kernel
theorem dX2_houseAt_8 : decode cX2_houseAt 8 = .ok (.istore_n 3, 1) := by decide +kernel
theorem dX2_houseAt_9 : decode cX2_houseAt 9 = .ok (.iload_n 2, 1) := by decide +kernel
theorem dX2_houseAt_10 : decode cX2_houseAt 10 = .ok (.iload_n 3, 1) := by decide +kernel
theorem dX2_houseAt_11 : decode cX2_houseAt 11 = .ok (.if_icmp .le 5, 3) := by decide +kernel
theorem dX2_houseAt_14 : decode cX2_houseAt 14 = .ok (.iconst (-1), 1) := by decide +kernel
theorem dX2_houseAt_15 : decode cX2_houseAt 15 = .ok (.ireturn, 1) := by decide +kernel
theorem dX2_houseAt_16 : decode cX2_houseAt 16 = .ok (.iload_n 1, 1) := by decide +kernel
theorem dX2_houseAt_17 : decode cX2_houseAt 17 = .ok (.ifCond .eq 14, 3) := by decide +kernel
theorem dX2_houseAt_20 : decode cX2_houseAt 20 = .ok (.iload_n 2, 1) := by decide +kernel
theorem dX2_houseAt_21 : decode cX2_houseAt 21 = .ok (.iconst 2, 1) := by decide +kernel
theorem dX2_houseAt_22 : decode cX2_houseAt 22 = .ok (.irem, 1) := by decide +kernel
theorem dX2_houseAt_23 : decode cX2_houseAt 23 = .ok (.bipush 8, 2) := by decide +kernel
theorem dX2_houseAt_25 : decode cX2_houseAt 25 = .ok (.imul, 1) := by decide +kernel
theorem dX2_houseAt_26 : decode cX2_houseAt 26 = .ok (.iload_n 2, 1) := by decide +kernel
theorem dX2_houseAt_27 : decode cX2_houseAt 27 = .ok (.iconst 2, 1) := by decide +kernel
theorem dX2_houseAt_28 : decode cX2_houseAt 28 = .ok (.idiv, 1) := by decide +kernel
theorem dX2_houseAt_29 : decode cX2_houseAt 29 = .ok (.iadd, 1) := by decide +kernel
theorem dX2_houseAt_30 : decode cX2_houseAt 30 = .ok (.ireturn, 1) := by decide +kernel
theorem dX2_houseAt_31 : decode cX2_houseAt 31 = .ok (.iload_n 2, 1) := by decide +kernel
theorem dX2_houseAt_32 : decode cX2_houseAt 32 = .ok (.aload_n 0, 1) := by decide +kernel
theorem dX2_houseAt_33 : decode cX2_houseAt 33 = .ok (.getfield 85, 3) := by decide +kernel
theorem dX2_houseAt_36 : decode cX2_houseAt 36 = .ok (.if_icmp .ge 7, 3) := by decide +kernel
theorem dX2_houseAt_39 : decode cX2_houseAt 39 = .ok (.iload_n 2, 1) := by decide +kernel
theorem dX2_houseAt_40 : decode cX2_houseAt 40 = .ok (.goto 9, 3) := by decide +kernel
theorem dX2_houseAt_43 : decode cX2_houseAt 43 = .ok (.bipush 8, 2) := by decide +kernel
theorem dX2_houseAt_45 : decode cX2_houseAt 45 = .ok (.iload_n 3, 1) := by decide +kernel
theorem dX2_houseAt_46 : decode cX2_houseAt 46 = .ok (.iadd, 1) := by decide +kernel
theorem dX2_houseAt_47 : decode cX2_houseAt 47 = .ok (.iload_n 2, 1) := by decide +kernel
theorem dX2_houseAt_48 : decode cX2_houseAt 48 = .ok (.isub, 1) := by decide +kernel
theorem dX2_houseAt_49 : decode cX2_houseAt 49 = .ok (.ireturn, 1) := by decide +kernel
theorem dX2_byHand_0 : decode cX2_byHand 0 = .ok (.aload_n 0, 1) := by decide +kernel
theorem dX2_byHand_1 : decode cX2_byHand 1 = .ok (.getfield 11, 3) := by decide +kernel
theorem dX2_byHand_4 : decode cX2_byHand 4 = .ok (.iconst 0, 1) := by decide +kernel
theorem dX2_byHand_5 : decode cX2_byHand 5 = .ok (.aload_n 0, 1) := by decide +kernel
theorem dX2_byHand_6 : decode cX2_byHand 6 = .ok (.getfield 31, 3) := by decide +kernel
theorem dX2_byHand_9 : decode cX2_byHand 9 = .ok (.aload_n 1, 1) := by decide +kernel
theorem dX2_byHand_10 : decode cX2_byHand 10 = .ok (.iload_n 2, 1) := by decide +kernel
theorem dX2_byHand_11 : decode cX2_byHand 11 = .ok (.invokevirtual 67, 3) := by decide +kernel
theorem dX2_byHand_14 : decode cX2_byHand 14 = .ok (.aload_n 0, 1) := by decide +kernel
theorem dX2_byHand_15 : decode cX2_byHand 15 = .ok (.getfield 31, 3) := by decide +kernel
theorem dX2_byHand_18 : decode cX2_byHand 18 = .ok (.iconst 2, 1) := by decide +kernel
theorem dX2_byHand_19 : decode cX2_byHand 19 = .ok (.invokevirtual 54, 3) := by decide +kernel
theorem dX2_byHand_22 : decode cX2_byHand 22 = .ok (.invokevirtual 72, 3) := by decide +kernel
theorem dX2_byHand_25 : decode cX2_byHand 25 = .ok (.iastore, 1) := by decide +kernel
theorem dX2_byHand_26 : decode cX2_byHand 26 = .ok (.aload_n 0, 1) := by decide +kernel
theorem dX2_byHand_27 : decode cX2_byHand 27 = .ok (.getfield 11, 3) := by decide +kernel
theorem dX2_byHand_30 : decode cX2_byHand 30 = .ok (.iconst 1, 1) := by decide +kernel
theorem dX2_byHand_31 : decode cX2_byHand 31 = .ok (.iload_n 2, 1) := by decide +kernel
theorem dX2_byHand_32 : decode cX2_byHand 32 = .ok (.bipush 8, 2) := by decide +kernel
theorem dX2_byHand_34 : decode cX2_byHand 34 = .ok (.irem, 1) := by decide +kernel
theorem dX2_byHand_35 : decode cX2_byHand 35 = .ok (.iastore, 1) := by decide +kernel
theorem dX2_byHand_36 : decode cX2_byHand 36 = .ok (.aload_n 0, 1) := by decide +kernel
theorem dX2_byHand_37 : decode cX2_byHand 37 = .ok (.getfield 11, 3) := by decide +kernel
theorem dX2_byHand_40 : decode cX2_byHand 40 = .ok (.iconst 2, 1) := by decide +kernel
theorem dX2_byHand_41 : decode cX2_byHand 41 = .ok (.iload_n 2, 1) := by decide +kernel
theorem dX2_byHand_42 : decode cX2_byHand 42 = .ok (.bipush 8, 2) := by decide +kernel
theorem dX2_byHand_44 : decode cX2_byHand 44 = .ok (.idiv, 1) := by decide +kernel
theorem dX2_byHand_45 : decode cX2_byHand 45 = .ok (.iastore, 1) := by decide +kernel
theorem dX2_byHand_46 : decode cX2_byHand 46 = .ok (.aload_n 0, 1) := by decide +kernel
theorem dX2_byHand_47 : decode cX2_byHand 47 = .ok (.getfield 11, 3) := by decide +kernel
theorem dX2_byHand_50 : decode cX2_byHand 50 = .ok (.iconst 3, 1) := by decide +kernel
theorem dX2_byHand_51 : decode cX2_byHand 51 = .ok (.aload_n 0, 1) := by decide +kernel
theorem dX2_byHand_52 : decode cX2_byHand 52 = .ok (.getfield 45, 3) := by decide +kernel
theorem dX2_byHand_55 : decode cX2_byHand 55 = .ok (.iastore, 1) := by decide +kernel
theorem dX2_byHand_56 : decode cX2_byHand 56 = .ok (.aload_n 0, 1) := by decide +kernel
theorem dX2_byHand_57 : decode cX2_byHand 57 = .ok (.getfield 11, 3) := by decide +kernel
theorem dX2_byHand_60 : decode cX2_byHand 60 = .ok (.iconst 4, 1) := by decide +kernel
theorem dX2_byHand_61 : decode cX2_byHand 61 = .ok (.aload_n 0, 1) := by decide +kernel
theorem dX2_byHand_62 : decode cX2_byHand 62 = .ok (.getfield 27, 3) := by decide +kernel
theorem dX2_byHand_65 : decode cX2_byHand 65 = .ok (.iastore, 1) := by decide +kernel
theorem dX2_byHand_66 : decode cX2_byHand 66 = .ok (.aload_n 0, 1) := by decide +kernel
theorem dX2_byHand_67 : decode cX2_byHand 67 = .ok (.getfield 11, 3) := by decide +kernel
theorem dX2_byHand_70 : decode cX2_byHand 70 = .ok (.iconst 5, 1) := by decide +kernel
theorem dX2_byHand_71 : decode cX2_byHand 71 = .ok (.aload_n 0, 1) := by decide +kernel
theorem dX2_byHand_72 : decode cX2_byHand 72 = .ok (.getfield 31, 3) := by decide +kernel
theorem dX2_byHand_75 : decode cX2_byHand 75 = .ok (.iconst 2, 1) := by decide +kernel
theorem dX2_byHand_76 : decode cX2_byHand 76 = .ok (.invokevirtual 54, 3) := by decide +kernel
theorem dX2_byHand_79 : decode cX2_byHand 79 = .ok (.iastore, 1) := by decide +kernel
theorem dX2_byHand_80 : decode cX2_byHand 80 = .ok (.aload_n 0, 1) := by decide +kernel
theorem dX2_byHand_81 : decode cX2_byHand 81 = .ok (.getfield 11, 3) := by decide +kernel
theorem dX2_byHand_84 : decode cX2_byHand 84 = .ok (.bipush 6, 2) := by decide +kernel
theorem dX2_byHand_86 : decode cX2_byHand 86 = .ok (.iload_n 3, 1) := by decide +kernel
theorem dX2_byHand_87 : decode cX2_byHand 87 = .ok (.iastore, 1) := by decide +kernel
theorem dX2_byHand_88 : decode cX2_byHand 88 = .ok (.aload_n 0, 1) := by decide +kernel
theorem dX2_byHand_89 : decode cX2_byHand 89 = .ok (.getfield 11, 3) := by decide +kernel
theorem dX2_byHand_92 : decode cX2_byHand 92 = .ok (.bipush 7, 2) := by decide +kernel
theorem dX2_byHand_94 : decode cX2_byHand 94 = .ok (.aload_n 1, 1) := by decide +kernel
theorem dX2_byHand_95 : decode cX2_byHand 95 = .ok (.getfield 88, 3) := by decide +kernel
theorem dX2_byHand_98 : decode cX2_byHand 98 = .ok (.iastore, 1) := by decide +kernel
theorem dX2_byHand_99 : decode cX2_byHand 99 = .ok (.aload_n 0, 1) := by decide +kernel
theorem dX2_byHand_100 : decode cX2_byHand 100 = .ok (.getfield 35, 3) := by decide +kernel
theorem dX2_byHand_103 : decode cX2_byHand 103 = .ok (.aload_n 0, 1) := by decide +kernel
theorem dX2_byHand_104 : decode cX2_byHand 104 = .ok (.getfield 11, 3) := by decide +kernel
theorem dX2_byHand_107 : decode cX2_byHand 107 = .ok (.invokevirtual 91, 3) := by decide +kernel
theorem dX2_byHand_110 : decode cX2_byHand 110 = .ok (.ireturn, 1) := by decide +kernel
theorem dX2_movesOf_0 : decode cX2_movesOf 0 = .ok (.iload_n 1, 1) := by decide +kernel
theorem dX2_movesOf_1 : decode cX2_movesOf 1 = .ok (.ifCond .ne 11, 3) := by decide +kernel
theorem dX2_movesOf_4 : decode cX2_movesOf 4 = .ok (.bipush 10, 2) := by decide +kernel
theorem dX2_movesOf_6 : decode cX2_movesOf 6 = .ok (.aload_n 0, 1) := by decide +kernel
theorem dX2_movesOf_7 : decode cX2_movesOf 7 = .ok (.getfield 85, 3) := by decide +kernel
theorem dX2_movesOf_10 : decode cX2_movesOf 10 = .ok (.imul, 1) := by decide +kernel
theorem dX2_movesOf_11 : decode cX2_movesOf 11 = .ok (.ireturn, 1) := by decide +kernel
theorem dX2_movesOf_12 : decode cX2_movesOf 12 = .ok (.iload_n 1, 1) := by decide +kernel
theorem dX2_movesOf_13 : decode cX2_movesOf 13 = .ok (.iconst 1, 1) := by decide +kernel
theorem dX2_movesOf_14 : decode cX2_movesOf 14 = .ok (.if_icmp .ne 24, 3) := by decide +kernel
theorem dX2_movesOf_17 : decode cX2_movesOf 17 = .ok (.iconst 5, 1) := by decide +kernel
theorem dX2_movesOf_18 : decode cX2_movesOf 18 = .ok (.aload_n 0, 1) := by decide +kernel
theorem dX2_movesOf_19 : decode cX2_movesOf 19 = .ok (.getfield 97, 3) := by decide +kernel
theorem dX2_movesOf_22 : decode cX2_movesOf 22 = .ok (.ifCond .eq 8, 3) := by decide +kernel
theorem dX2_movesOf_25 : decode cX2_movesOf 25 = .ok (.bipush 9, 2) := by decide +kernel
theorem dX2_movesOf_27 : decode cX2_movesOf 27 = .ok (.goto 4, 3) := by decide +kernel
theorem dX2_movesOf_30 : decode cX2_movesOf 30 = .ok (.iconst 0, 1) := by decide +kernel
theorem dX2_movesOf_31 : decode cX2_movesOf 31 = .ok (.iadd, 1) := by decide +kernel
theorem dX2_movesOf_32 : decode cX2_movesOf 32 = .ok (.aload_n 0, 1) := by decide +kernel
theorem dX2_movesOf_33 : decode cX2_movesOf 33 = .ok (.getfield 85, 3) := by decide +kernel
theorem dX2_movesOf_36 : decode cX2_movesOf 36 = .ok (.imul, 1) := by decide +kernel
theorem dX2_movesOf_37 : decode cX2_movesOf 37 = .ok (.ireturn, 1) := by decide +kernel
theorem dX2_movesOf_38 : decode cX2_movesOf 38 = .ok (.iconst 0, 1) := by decide +kernel
theorem dX2_movesOf_39 : decode cX2_movesOf 39 = .ok (.ireturn, 1) := by decide +kernel
theorem dX2_go_0 : decode cX2_go 0 = .ok (.aload_n 0, 1) := by decide +kernel
theorem dX2_go_1 : decode cX2_go 1 = .ok (.iconst 0, 1) := by decide +kernel
theorem dX2_go_2 : decode cX2_go 2 = .ok (.putfield 101, 3) := by decide +kernel
theorem dX2_go_5 : decode cX2_go 5 = .ok (.aload_n 0, 1) := by decide +kernel
theorem dX2_go_6 : decode cX2_go 6 = .ok (.iconst 0, 1) := by decide +kernel
theorem dX2_go_7 : decode cX2_go 7 = .ok (.putfield 104, 3) := by decide +kernel
theorem dX2_go_10 : decode cX2_go 10 = .ok (.aload_n 0, 1) := by decide +kernel
theorem dX2_go_11 : decode cX2_go 11 = .ok (.iconst 0, 1) := by decide +kernel
theorem dX2_go_12 : decode cX2_go 12 = .ok (.putfield 107, 3) := by decide +kernel
theorem dX2_go_15 : decode cX2_go 15 = .ok (.iconst 0, 1) := by decide +kernel
theorem dX2_go_16 : decode cX2_go 16 = .ok (.istore_n 3, 1) := by decide +kernel
theorem dX2_go_17 : decode cX2_go 17 = .ok (.iconst 0, 1) := by decide +kernel
theorem dX2_go_18 : decode cX2_go 18 = .ok (.istore 4, 2) := by decide +kernel
theorem dX2_go_20 : decode cX2_go 20 = .ok (.iconst 0, 1) := by decide +kernel
theorem dX2_go_21 : decode cX2_go 21 = .ok (.istore 5, 2) := by decide +kernel
theorem dX2_go_23 : decode cX2_go 23 = .ok (.iload 5, 2) := by decide +kernel
theorem dX2_go_25 : decode cX2_go 25 = .ok (.aload_n 0, 1) := by decide +kernel
theorem dX2_go_26 : decode cX2_go 26 = .ok (.getfield 48, 3) := by decide +kernel
theorem dX2_go_29 : decode cX2_go 29 = .ok (.if_icmp .ge 139, 3) := by decide +kernel
theorem dX2_go_32 : decode cX2_go 32 = .ok (.iload 5, 2) := by decide +kernel
theorem dX2_go_34 : decode cX2_go 34 = .ok (.aload_n 0, 1) := by decide +kernel
theorem dX2_go_35 : decode cX2_go 35 = .ok (.getfield 15, 3) := by decide +kernel
theorem dX2_go_38 : decode cX2_go 38 = .ok (.arraylength, 1) := by decide +kernel
theorem dX2_go_39 : decode cX2_go 39 = .ok (.if_icmp .ge 129, 3) := by decide +kernel
theorem dX2_go_42 : decode cX2_go 42 = .ok (.aload_n 0, 1) := by decide +kernel
theorem dX2_go_43 : decode cX2_go 43 = .ok (.getfield 18, 3) := by decide +kernel
theorem dX2_go_46 : decode cX2_go 46 = .ok (.iload 5, 2) := by decide +kernel
theorem dX2_go_48 : decode cX2_go 48 = .ok (.iaload, 1) := by decide +kernel
theorem dX2_go_49 : decode cX2_go 49 = .ok (.aload_n 0, 1) := by decide +kernel
theorem dX2_go_50 : decode cX2_go 50 = .ok (.getfield 60, 3) := by decide +kernel
theorem dX2_go_53 : decode cX2_go 53 = .ok (.if_icmp .le 7, 3) := by decide +kernel
theorem dX2_go_56 : decode cX2_go 56 = .ok (.iconst 1, 1) := by decide +kernel
theorem dX2_go_57 : decode cX2_go 57 = .ok (.goto 4, 3) := by decide +kernel
theorem dX2_go_60 : decode cX2_go 60 = .ok (.iconst 0, 1) := by decide +kernel
theorem dX2_go_61 : decode cX2_go 61 = .ok (.istore 6, 2) := by decide +kernel
theorem dX2_go_63 : decode cX2_go 63 = .ok (.iload 6, 2) := by decide +kernel
theorem dX2_go_65 : decode cX2_go 65 = .ok (.ifCond .ne 24, 3) := by decide +kernel
theorem dX2_go_68 : decode cX2_go 68 = .ok (.iload_n 1, 1) := by decide +kernel
theorem dX2_go_69 : decode cX2_go 69 = .ok (.aload_n 0, 1) := by decide +kernel
theorem dX2_go_70 : decode cX2_go 70 = .ok (.getfield 107, 3) := by decide +kernel
theorem dX2_go_73 : decode cX2_go 73 = .ok (.iadd, 1) := by decide +kernel
theorem dX2_go_74 : decode cX2_go 74 = .ok (.aload_n 0, 1) := by decide +kernel
theorem dX2_go_75 : decode cX2_go 75 = .ok (.getfield 18, 3) := by decide +kernel
theorem dX2_go_78 : decode cX2_go 78 = .ok (.iload 5, 2) := by decide +kernel
theorem dX2_go_80 : decode cX2_go 80 = .ok (.iaload, 1) := by decide +kernel
theorem dX2_go_81 : decode cX2_go 81 = .ok (.iadd, 1) := by decide +kernel
theorem dX2_go_82 : decode cX2_go 82 = .ok (.iload_n 2, 1) := by decide +kernel
theorem dX2_go_83 : decode cX2_go 83 = .ok (.if_icmp .le 6, 3) := by decide +kernel
theorem dX2_go_86 : decode cX2_go 86 = .ok (.goto 82, 3) := by decide +kernel
theorem dX2_go_89 : decode cX2_go 89 = .ok (.iload 6, 2) := by decide +kernel
theorem dX2_go_91 : decode cX2_go 91 = .ok (.ifCond .eq 24, 3) := by decide +kernel
theorem dX2_go_94 : decode cX2_go 94 = .ok (.aload_n 0, 1) := by decide +kernel
theorem dX2_go_95 : decode cX2_go 95 = .ok (.dup, 1) := by decide +kernel
theorem dX2_go_96 : decode cX2_go 96 = .ok (.getfield 104, 3) := by decide +kernel
theorem dX2_go_99 : decode cX2_go 99 = .ok (.iconst 1, 1) := by decide +kernel
theorem dX2_go_100 : decode cX2_go 100 = .ok (.aload_n 0, 1) := by decide +kernel
theorem dX2_go_101 : decode cX2_go 101 = .ok (.getfield 15, 3) := by decide +kernel
theorem dX2_go_104 : decode cX2_go 104 = .ok (.iload 5, 2) := by decide +kernel
theorem dX2_go_106 : decode cX2_go 106 = .ok (.iaload, 1) := by decide +kernel
theorem dX2_go_107 : decode cX2_go 107 = .ok (.ishl, 1) := by decide +kernel
theorem dX2_go_108 : decode cX2_go 108 = .ok (.ior, 1) := by decide +kernel
theorem dX2_go_109 : decode cX2_go 109 = .ok (.putfield 104, 3) := by decide +kernel
theorem dX2_go_112 : decode cX2_go 112 = .ok (.goto 37, 3) := by decide +kernel
theorem dX2_go_115 : decode cX2_go 115 = .ok (.aload_n 0, 1) := by decide +kernel
theorem dX2_go_116 : decode cX2_go 116 = .ok (.dup, 1) := by decide +kernel
theorem dX2_go_117 : decode cX2_go 117 = .ok (.getfield 101, 3) := by decide +kernel
theorem dX2_go_120 : decode cX2_go 120 = .ok (.iconst 1, 1) := by decide +kernel
theorem dX2_go_121 : decode cX2_go 121 = .ok (.aload_n 0, 1) := by decide +kernel
theorem dX2_go_122 : decode cX2_go 122 = .ok (.getfield 15, 3) := by decide +kernel
theorem dX2_go_125 : decode cX2_go 125 = .ok (.iload 5, 2) := by decide +kernel
theorem dX2_go_127 : decode cX2_go 127 = .ok (.iaload, 1) := by decide +kernel
theorem dX2_go_128 : decode cX2_go 128 = .ok (.ishl, 1) := by decide +kernel
theorem dX2_go_129 : decode cX2_go 129 = .ok (.ior, 1) := by decide +kernel
theorem dX2_go_130 : decode cX2_go 130 = .ok (.putfield 101, 3) := by decide +kernel
theorem dX2_go_133 : decode cX2_go 133 = .ok (.aload_n 0, 1) := by decide +kernel
theorem dX2_go_134 : decode cX2_go 134 = .ok (.dup, 1) := by decide +kernel
theorem dX2_go_135 : decode cX2_go 135 = .ok (.getfield 107, 3) := by decide +kernel
theorem dX2_go_138 : decode cX2_go 138 = .ok (.aload_n 0, 1) := by decide +kernel
theorem dX2_go_139 : decode cX2_go 139 = .ok (.getfield 18, 3) := by decide +kernel
theorem dX2_go_142 : decode cX2_go 142 = .ok (.iload 5, 2) := by decide +kernel
theorem dX2_go_144 : decode cX2_go 144 = .ok (.iaload, 1) := by decide +kernel
theorem dX2_go_145 : decode cX2_go 145 = .ok (.iadd, 1) := by decide +kernel
theorem dX2_go_146 : decode cX2_go 146 = .ok (.putfield 107, 3) := by decide +kernel
theorem dX2_go_149 : decode cX2_go 149 = .ok (.iload_n 3, 1) := by decide +kernel
theorem dX2_go_150 : decode cX2_go 150 = .ok (.aload_n 0, 1) := by decide +kernel
theorem dX2_go_151 : decode cX2_go 151 = .ok (.getfield 21, 3) := by decide +kernel
theorem dX2_go_154 : decode cX2_go 154 = .ok (.iload 5, 2) := by decide +kernel
theorem dX2_go_156 : decode cX2_go 156 = .ok (.iaload, 1) := by decide +kernel
theorem dX2_go_157 : decode cX2_go 157 = .ok (.iadd, 1) := by decide +kernel
theorem dX2_go_158 : decode cX2_go 158 = .ok (.istore_n 3, 1) := by decide +kernel
theorem dX2_go_159 : decode cX2_go 159 = .ok (.iinc 4 1, 3) := by decide +kernel
theorem dX2_go_162 : decode cX2_go 162 = .ok (.iinc 5 1, 3) := by decide +kernel
theorem dX2_go_165 : decode cX2_go 165 = .ok (.goto (-142), 3) := by decide +kernel
theorem dX2_go_168 : decode cX2_go 168 = .ok (.aload_n 0, 1) := by decide +kernel
theorem dX2_go_169 : decode cX2_go 169 = .ok (.aload_n 0, 1) := by decide +kernel
theorem dX2_go_170 : decode cX2_go 170 = .ok (.getfield 48, 3) := by decide +kernel
theorem dX2_go_173 : decode cX2_go 173 = .ok (.iload 4, 2) := by decide +kernel
theorem dX2_go_175 : decode cX2_go 175 = .ok (.isub, 1) := by decide +kernel
theorem dX2_go_176 : decode cX2_go 176 = .ok (.putfield 110, 3) := by decide +kernel
theorem dX2_go_179 : decode cX2_go 179 = .ok (.aload_n 0, 1) := by decide +kernel
theorem dX2_go_180 : decode cX2_go 180 = .ok (.aload_n 0, 1) := by decide +kernel
theorem dX2_go_181 : decode cX2_go 181 = .ok (.getfield 27, 3) := by decide +kernel
theorem dX2_go_184 : decode cX2_go 184 = .ok (.iconst 1, 1) := by decide +kernel
theorem dX2_go_185 : decode cX2_go 185 = .ok (.if_icmp .ge 7, 3) := by decide +kernel
theorem dX2_go_188 : decode cX2_go 188 = .ok (.iload_n 3, 1) := by decide +kernel
theorem dX2_go_189 : decode cX2_go 189 = .ok (.goto 16, 3) := by decide +kernel
theorem dX2_go_192 : decode cX2_go 192 = .ok (.iload_n 3, 1) := by decide +kernel
theorem dX2_go_193 : decode cX2_go 193 = .ok (.aload_n 0, 1) := by decide +kernel
theorem dX2_go_194 : decode cX2_go 194 = .ok (.getfield 27, 3) := by decide +kernel
theorem dX2_go_197 : decode cX2_go 197 = .ok (.iadd, 1) := by decide +kernel
theorem dX2_go_198 : decode cX2_go 198 = .ok (.iconst 1, 1) := by decide +kernel
theorem dX2_go_199 : decode cX2_go 199 = .ok (.isub, 1) := by decide +kernel
theorem dX2_go_200 : decode cX2_go 200 = .ok (.aload_n 0, 1) := by decide +kernel
theorem dX2_go_201 : decode cX2_go 201 = .ok (.getfield 27, 3) := by decide +kernel
theorem dX2_go_204 : decode cX2_go 204 = .ok (.idiv, 1) := by decide +kernel
theorem dX2_go_205 : decode cX2_go 205 = .ok (.putfield 113, 3) := by decide +kernel
theorem dX2_go_208 : decode cX2_go 208 = .ok (.return_, 1) := by decide +kernel
theorem dX2_seconds_0 : decode cX2_seconds 0 = .ok (.aload_n 0, 1) := by decide +kernel
theorem dX2_seconds_1 : decode cX2_seconds 1 = .ok (.getfield 113, 3) := by decide +kernel
theorem dX2_seconds_4 : decode cX2_seconds 4 = .ok (.aload_n 0, 1) := by decide +kernel
theorem dX2_seconds_5 : decode cX2_seconds 5 = .ok (.getfield 82, 3) := by decide +kernel
theorem dX2_seconds_8 : decode cX2_seconds 8 = .ok (.iadd, 1) := by decide +kernel
theorem dX2_seconds_9 : decode cX2_seconds 9 = .ok (.ireturn, 1) := by decide +kernel
theorem dX2_chooseHow_0 : decode cX2_chooseHow 0 = .ok (.aload_n 0, 1) := by decide +kernel
theorem dX2_chooseHow_1 : decode cX2_chooseHow 1 = .ok (.iconst 0, 1) := by decide +kernel
theorem dX2_chooseHow_2 : decode cX2_chooseHow 2 = .ok (.putfield 116, 3) := by decide +kernel
theorem dX2_chooseHow_5 : decode cX2_chooseHow 5 = .ok (.iconst 0, 1) := by decide +kernel
theorem dX2_chooseHow_6 : decode cX2_chooseHow 6 = .ok (.istore_n 3, 1) := by decide +kernel
theorem dX2_chooseHow_7 : decode cX2_chooseHow 7 = .ok (.iload_n 3, 1) := by decide +kernel
theorem dX2_chooseHow_8 : decode cX2_chooseHow 8 = .ok (.aload_n 0, 1) := by decide +kernel
theorem dX2_chooseHow_9 : decode cX2_chooseHow 9 = .ok (.getfield 24, 3) := by decide +kernel
theorem dX2_chooseHow_12 : decode cX2_chooseHow 12 = .ok (.arraylength, 1) := by decide +kernel
theorem dX2_chooseHow_13 : decode cX2_chooseHow 13 = .ok (.if_icmp .ge 56, 3) := by decide +kernel
theorem dX2_chooseHow_16 : decode cX2_chooseHow 16 = .ok (.aload_n 0, 1) := by decide +kernel
theorem dX2_chooseHow_17 : decode cX2_chooseHow 17 = .ok (.aload_n 1, 1) := by decide +kernel
theorem dX2_chooseHow_18 : decode cX2_chooseHow 18 = .ok (.iload_n 3, 1) := by decide +kernel
theorem dX2_chooseHow_19 : decode cX2_chooseHow 19 = .ok (.iload_n 2, 1) := by decide +kernel
theorem dX2_chooseHow_20 : decode cX2_chooseHow 20 = .ok (.invokevirtual 119, 3) := by decide +kernel
theorem dX2_chooseHow_23 : decode cX2_chooseHow 23 = .ok (.aload_n 0, 1) := by decide +kernel
theorem dX2_chooseHow_24 : decode cX2_chooseHow 24 = .ok (.iconst 0, 1) := by decide +kernel
theorem dX2_chooseHow_25 : decode cX2_chooseHow 25 = .ok (.ldc 123, 2) := by decide +kernel
theorem dX2_chooseHow_27 : decode cX2_chooseHow 27 = .ok (.invokevirtual 124, 3) := by decide +kernel
theorem dX2_chooseHow_30 : decode cX2_chooseHow 30 = .ok (.aload_n 0, 1) := by decide +kernel
theorem dX2_chooseHow_31 : decode cX2_chooseHow 31 = .ok (.getfield 24, 3) := by decide +kernel
theorem dX2_chooseHow_34 : decode cX2_chooseHow 34 = .ok (.iload_n 3, 1) := by decide +kernel
theorem dX2_chooseHow_35 : decode cX2_chooseHow 35 = .ok (.aload_n 0, 1) := by decide +kernel
theorem dX2_chooseHow_36 : decode cX2_chooseHow 36 = .ok (.invokevirtual 128, 3) := by decide +kernel
theorem dX2_chooseHow_39 : decode cX2_chooseHow 39 = .ok (.iastore, 1) := by decide +kernel
theorem dX2_chooseHow_40 : decode cX2_chooseHow 40 = .ok (.aload_n 0, 1) := by decide +kernel
theorem dX2_chooseHow_41 : decode cX2_chooseHow 41 = .ok (.getfield 24, 3) := by decide +kernel
theorem dX2_chooseHow_44 : decode cX2_chooseHow 44 = .ok (.iload_n 3, 1) := by decide +kernel
theorem dX2_chooseHow_45 : decode cX2_chooseHow 45 = .ok (.iaload, 1) := by decide +kernel
theorem dX2_chooseHow_46 : decode cX2_chooseHow 46 = .ok (.aload_n 0, 1) := by decide +kernel
theorem dX2_chooseHow_47 : decode cX2_chooseHow 47 = .ok (.getfield 24, 3) := by decide +kernel
theorem dX2_chooseHow_50 : decode cX2_chooseHow 50 = .ok (.aload_n 0, 1) := by decide +kernel
theorem dX2_chooseHow_51 : decode cX2_chooseHow 51 = .ok (.getfield 116, 3) := by decide +kernel
theorem dX2_chooseHow_54 : decode cX2_chooseHow 54 = .ok (.iaload, 1) := by decide +kernel
theorem dX2_chooseHow_55 : decode cX2_chooseHow 55 = .ok (.if_icmp .ge 8, 3) := by decide +kernel
theorem dX2_chooseHow_58 : decode cX2_chooseHow 58 = .ok (.aload_n 0, 1) := by decide +kernel
theorem dX2_chooseHow_59 : decode cX2_chooseHow 59 = .ok (.iload_n 3, 1) := by decide +kernel
theorem dX2_chooseHow_60 : decode cX2_chooseHow 60 = .ok (.putfield 116, 3) := by decide +kernel
theorem dX2_chooseHow_63 : decode cX2_chooseHow 63 = .ok (.iinc 3 1, 3) := by decide +kernel
theorem dX2_chooseHow_66 : decode cX2_chooseHow 66 = .ok (.goto (-59), 3) := by decide +kernel
theorem dX2_chooseHow_69 : decode cX2_chooseHow 69 = .ok (.aload_n 0, 1) := by decide +kernel
theorem dX2_chooseHow_70 : decode cX2_chooseHow 70 = .ok (.getfield 116, 3) := by decide +kernel
theorem dX2_chooseHow_73 : decode cX2_chooseHow 73 = .ok (.ireturn, 1) := by decide +kernel
theorem dX2_secondsOf_0 : decode cX2_secondsOf 0 = .ok (.iload_n 1, 1) := by decide +kernel
theorem dX2_secondsOf_1 : decode cX2_secondsOf 1 = .ok (.ifCond .lt 21, 3) := by decide +kernel
theorem dX2_secondsOf_4 : decode cX2_secondsOf 4 = .ok (.iload_n 1, 1) := by decide +kernel
theorem dX2_secondsOf_5 : decode cX2_secondsOf 5 = .ok (.aload_n 0, 1) := by decide +kernel
theorem dX2_secondsOf_6 : decode cX2_secondsOf 6 = .ok (.getfield 24, 3) := by decide +kernel
theorem dX2_secondsOf_9 : decode cX2_secondsOf 9 = .ok (.arraylength, 1) := by decide +kernel
theorem dX2_secondsOf_10 : decode cX2_secondsOf 10 = .ok (.if_icmp .ge 12, 3) := by decide +kernel
theorem dX2_secondsOf_13 : decode cX2_secondsOf 13 = .ok (.aload_n 0, 1) := by decide +kernel
theorem dX2_secondsOf_14 : decode cX2_secondsOf 14 = .ok (.getfield 24, 3) := by decide +kernel
theorem dX2_secondsOf_17 : decode cX2_secondsOf 17 = .ok (.iload_n 1, 1) := by decide +kernel
theorem dX2_secondsOf_18 : decode cX2_secondsOf 18 = .ok (.iaload, 1) := by decide +kernel
theorem dX2_secondsOf_19 : decode cX2_secondsOf 19 = .ok (.goto 4, 3) := by decide +kernel
theorem dX2_secondsOf_22 : decode cX2_secondsOf 22 = .ok (.iconst 0, 1) := by decide +kernel
theorem dX2_secondsOf_23 : decode cX2_secondsOf 23 = .ok (.ireturn, 1) := by decide +kernel
theorem dX3_init_0 : decode cX3_init 0 = .ok (.aload_n 0, 1) := by decide +kernel
theorem dX3_init_1 : decode cX3_init 1 = .ok (.invokespecial 3, 3) := by decide +kernel
theorem dX3_init_4 : decode cX3_init 4 = .ok (.aload_n 0, 1) := by decide +kernel
theorem dX3_init_5 : decode cX3_init 5 = .ok (.bipush 10, 2) := by decide +kernel
theorem dX3_init_7 : decode cX3_init 7 = .ok (.newarray .int, 2) := by decide +kernel
theorem dX3_init_9 : decode cX3_init 9 = .ok (.putfield 11, 3) := by decide +kernel
theorem dX3_init_12 : decode cX3_init 12 = .ok (.aload_n 0, 1) := by decide +kernel
theorem dX3_init_13 : decode cX3_init 13 = .ok (.bipush 10, 2) := by decide +kernel
theorem dX3_init_15 : decode cX3_init 15 = .ok (.newarray .int, 2) := by decide +kernel
theorem dX3_init_17 : decode cX3_init 17 = .ok (.putfield 15, 3) := by decide +kernel
theorem dX3_init_20 : decode cX3_init 20 = .ok (.aload_n 0, 1) := by decide +kernel
theorem dX3_init_21 : decode cX3_init 21 = .ok (.bipush 6, 2) := by decide +kernel
theorem dX3_init_23 : decode cX3_init 23 = .ok (.newarray .int, 2) := by decide +kernel
theorem dX3_init_25 : decode cX3_init 25 = .ok (.putfield 18, 3) := by decide +kernel
theorem dX3_init_28 : decode cX3_init 28 = .ok (.aload_n 0, 1) := by decide +kernel
theorem dX3_init_29 : decode cX3_init 29 = .ok (.bipush 10, 2) := by decide +kernel
theorem dX3_init_31 : decode cX3_init 31 = .ok (.newarray .int, 2) := by decide +kernel
theorem dX3_init_33 : decode cX3_init 33 = .ok (.putfield 21, 3) := by decide +kernel
theorem dX3_init_36 : decode cX3_init 36 = .ok (.aload_n 0, 1) := by decide +kernel
theorem dX3_init_37 : decode cX3_init 37 = .ok (.bipush 6, 2) := by decide +kernel
theorem dX3_init_39 : decode cX3_init 39 = .ok (.newarray .int, 2) := by decide +kernel
theorem dX3_init_41 : decode cX3_init 41 = .ok (.putfield 24, 3) := by decide +kernel
theorem dX3_init_44 : decode cX3_init 44 = .ok (.aload_n 0, 1) := by decide +kernel
theorem dX3_init_45 : decode cX3_init 45 = .ok (.bipush 6, 2) := by decide +kernel
theorem dX3_init_47 : decode cX3_init 47 = .ok (.newarray .int, 2) := by decide +kernel
theorem dX3_init_49 : decode cX3_init 49 = .ok (.putfield 27, 3) := by decide +kernel
theorem dX3_init_52 : decode cX3_init 52 = .ok (.aload_n 0, 1) := by decide +kernel
theorem dX3_init_53 : decode cX3_init 53 = .ok (.aload_n 1, 1) := by decide +kernel
theorem dX3_init_54 : decode cX3_init 54 = .ok (.putfield 30, 3) := by decide +kernel
theorem dX3_init_57 : decode cX3_init 57 = .ok (.aload_n 0, 1) := by decide +kernel
theorem dX3_init_58 : decode cX3_init 58 = .ok (.aload_n 2, 1) := by decide +kernel
theorem dX3_init_59 : decode cX3_init 59 = .ok (.putfield 34, 3) := by decide +kernel
theorem dX3_init_62 : decode cX3_init 62 = .ok (.return_, 1) := by decide +kernel
theorem dX3_add_0 : decode cX3_add 0 = .ok (.aload_n 0, 1) := by decide +kernel
theorem dX3_add_1 : decode cX3_add 1 = .ok (.getfield 38, 3) := by decide +kernel
theorem dX3_add_4 : decode cX3_add 4 = .ok (.ifCond .lt 12, 3) := by decide +kernel
theorem dX3_add_7 : decode cX3_add 7 = .ok (.aload_n 0, 1) := by decide +kernel
theorem dX3_add_8 : decode cX3_add 8 = .ok (.getfield 38, 3) := by decide +kernel
theorem dX3_add_11 : decode cX3_add 11 = .ok (.bipush 10, 2) := by decide +kernel
theorem dX3_add_13 : decode cX3_add 13 = .ok (.if_icmp .lt 5, 3) := by decide +kernel
theorem dX3_add_16 : decode cX3_add 16 = .ok (.iconst 0, 1) := by decide +kernel
theorem dX3_add_17 : decode cX3_add 17 = .ok (.ireturn, 1) := by decide +kernel
theorem dX3_add_18 : decode cX3_add 18 = .ok (.aload_n 0, 1) := by decide +kernel
theorem dX3_add_19 : decode cX3_add 19 = .ok (.getfield 11, 3) := by decide +kernel
theorem dX3_add_22 : decode cX3_add 22 = .ok (.aload_n 0, 1) := by decide +kernel
theorem dX3_add_23 : decode cX3_add 23 = .ok (.getfield 38, 3) := by decide +kernel
theorem dX3_add_26 : decode cX3_add 26 = .ok (.iload_n 1, 1) := by decide +kernel
theorem dX3_add_27 : decode cX3_add 27 = .ok (.iastore, 1) := by decide +kernel
theorem dX3_add_28 : decode cX3_add 28 = .ok (.aload_n 0, 1) := by decide +kernel
theorem dX3_add_29 : decode cX3_add 29 = .ok (.getfield 15, 3) := by decide +kernel
theorem dX3_add_32 : decode cX3_add 32 = .ok (.aload_n 0, 1) := by decide +kernel
theorem dX3_add_33 : decode cX3_add 33 = .ok (.getfield 38, 3) := by decide +kernel
theorem dX3_add_36 : decode cX3_add 36 = .ok (.iload_n 2, 1) := by decide +kernel
theorem dX3_add_37 : decode cX3_add 37 = .ok (.iastore, 1) := by decide +kernel
theorem dX3_add_38 : decode cX3_add 38 = .ok (.aload_n 0, 1) := by decide +kernel
theorem dX3_add_39 : decode cX3_add 39 = .ok (.dup, 1) := by decide +kernel
theorem dX3_add_40 : decode cX3_add 40 = .ok (.getfield 38, 3) := by decide +kernel
theorem dX3_add_43 : decode cX3_add 43 = .ok (.iconst 1, 1) := by decide +kernel
theorem dX3_add_44 : decode cX3_add 44 = .ok (.iadd, 1) := by decide +kernel
theorem dX3_add_45 : decode cX3_add 45 = .ok (.putfield 38, 3) := by decide +kernel
theorem dX3_add_48 : decode cX3_add 48 = .ok (.iconst 1, 1) := by decide +kernel
theorem dX3_add_49 : decode cX3_add 49 = .ok (.ireturn, 1) := by decide +kernel
theorem dX3_study_0 : decode cX3_study 0 = .ok (.iconst 0, 1) := by decide +kernel
theorem dX3_study_1 : decode cX3_study 1 = .ok (.istore_n 1, 1) := by decide +kernel
theorem dX3_study_2 : decode cX3_study 2 = .ok (.iload_n 1, 1) := by decide +kernel
theorem dX3_study_3 : decode cX3_study 3 = .ok (.aload_n 0, 1) := by decide +kernel
theorem dX3_study_4 : decode cX3_study 4 = .ok (.getfield 18, 3) := by decide +kernel
theorem dX3_study_7 : decode cX3_study 7 = .ok (.arraylength, 1) := by decide +kernel
theorem dX3_study_8 : decode cX3_study 8 = .ok (.if_icmp .ge 52, 3) := by decide +kernel
theorem dX3_study_11 : decode cX3_study 11 = .ok (.aload_n 0, 1) := by decide +kernel
theorem dX3_study_12 : decode cX3_study 12 = .ok (.getfield 30, 3) := by decide +kernel
theorem dX3_study_15 : decode cX3_study 15 = .ok (.iload_n 1, 1) := by decide +kernel
theorem dX3_study_16 : decode cX3_study 16 = .ok (.invokevirtual 42, 3) := by decide +kernel
theorem dX3_study_19 : decode cX3_study 19 = .ok (.astore_n 2, 1) := by decide +kernel
theorem dX3_study_20 : decode cX3_study 20 = .ok (.aload_n 0, 1) := by decide +kernel
theorem dX3_study_21 : decode cX3_study 21 = .ok (.getfield 18, 3) := by decide +kernel
theorem dX3_study_24 : decode cX3_study 24 = .ok (.iload_n 1, 1) := by decide +kernel
theorem dX3_study_25 : decode cX3_study 25 = .ok (.aload_n 2, 1) := by decide +kernel
theorem dX3_study_26 : decode cX3_study 26 = .ok (.ifnonnull 7, 3) := by decide +kernel
theorem dX3_study_29 : decode cX3_study 29 = .ok (.iconst 0, 1) := by decide +kernel
theorem dX3_study_30 : decode cX3_study 30 = .ok (.goto 23, 3) := by decide +kernel
theorem dX3_study_33 : decode cX3_study 33 = .ok (.aload_n 0, 1) := by decide +kernel
theorem dX3_study_34 : decode cX3_study 34 = .ok (.getfield 34, 3) := by decide +kernel
theorem dX3_study_37 : decode cX3_study 37 = .ok (.aload_n 2, 1) := by decide +kernel
theorem dX3_study_38 : decode cX3_study 38 = .ok (.aload_n 2, 1) := by decide +kernel
theorem dX3_study_39 : decode cX3_study 39 = .ok (.invokevirtual 48, 3) := by decide +kernel
theorem dX3_study_42 : decode cX3_study 42 = .ok (.aload_n 0, 1) := by decide +kernel
theorem dX3_study_43 : decode cX3_study 43 = .ok (.getfield 34, 3) := by decide +kernel
theorem dX3_study_46 : decode cX3_study 46 = .ok (.iconst 2, 1) := by decide +kernel
theorem dX3_study_47 : decode cX3_study 47 = .ok (.invokevirtual 54, 3) := by decide +kernel
theorem dX3_study_50 : decode cX3_study 50 = .ok (.invokevirtual 60, 3) := by decide +kernel
theorem dX3_study_53 : decode cX3_study 53 = .ok (.iastore, 1) := by decide +kernel
theorem dX3_study_54 : decode cX3_study 54 = .ok (.iinc 1 1, 3) := by decide +kernel
theorem dX3_study_57 : decode cX3_study 57 = .ok (.goto (-55), 3) := by decide +kernel
theorem dX3_study_60 : decode cX3_study 60 = .ok (.aload_n 0, 1) := by decide +kernel
theorem dX3_study_61 : decode cX3_study 61 = .ok (.iconst 1, 1) := by decide +kernel
theorem dX3_study_62 : decode cX3_study 62 = .ok (.putfield 64, 3) := by decide +kernel
theorem dX3_study_65 : decode cX3_study 65 = .ok (.iconst 0, 1) := by decide +kernel
theorem dX3_study_66 : decode cX3_study 66 = .ok (.istore_n 1, 1) := by decide +kernel
theorem dX3_study_67 : decode cX3_study 67 = .ok (.iload_n 1, 1) := by decide +kernel
theorem dX3_study_68 : decode cX3_study 68 = .ok (.aload_n 0, 1) := by decide +kernel
theorem dX3_study_69 : decode cX3_study 69 = .ok (.getfield 38, 3) := by decide +kernel
theorem dX3_study_72 : decode cX3_study 72 = .ok (.if_icmp .ge 63, 3) := by decide +kernel
theorem dX3_study_75 : decode cX3_study 75 = .ok (.iload_n 1, 1) := by decide +kernel
theorem dX3_study_76 : decode cX3_study 76 = .ok (.bipush 10, 2) := by decide +kernel
theorem dX3_study_78 : decode cX3_study 78 = .ok (.if_icmp .ge 57, 3) := by decide +kernel
theorem dX3_study_81 : decode cX3_study 81 = .ok (.aload_n 0, 1) := by decide +kernel
theorem dX3_study_82 : decode cX3_study 82 = .ok (.getfield 21, 3) := by decide +kernel
theorem dX3_study_85 : decode cX3_study 85 = .ok (.iload_n 1, 1) := by decide +kernel
theorem dX3_study_86 : decode cX3_study 86 = .ok (.aload_n 0, 1) := by decide +kernel
theorem dX3_study_87 : decode cX3_study 87 = .ok (.getfield 15, 3) := by decide +kernel
theorem dX3_study_90 : decode cX3_study 90 = .ok (.iload_n 1, 1) := by decide +kernel
theorem dX3_study_91 : decode cX3_study 91 = .ok (.iaload, 1) := by decide +kernel
theorem dX3_study_92 : decode cX3_study 92 = .ok (.aload_n 0, 1) := by decide +kernel
theorem dX3_study_93 : decode cX3_study 93 = .ok (.aload_n 0, 1) := by decide +kernel
theorem dX3_study_94 : decode cX3_study 94 = .ok (.getfield 11, 3) := by decide +kernel
theorem dX3_study_97 : decode cX3_study 97 = .ok (.iload_n 1, 1) := by decide +kernel
theorem dX3_study_98 : decode cX3_study 98 = .ok (.iaload, 1) := by decide +kernel
theorem dX3_study_99 : decode cX3_study 99 = .ok (.invokevirtual 68, 3) := by decide +kernel
theorem dX3_study_102 : decode cX3_study 102 = .ok (.isub, 1) := by decide +kernel
theorem dX3_study_103 : decode cX3_study 103 = .ok (.iastore, 1) := by decide +kernel
theorem dX3_study_104 : decode cX3_study 104 = .ok (.aload_n 0, 1) := by decide +kernel
theorem dX3_study_105 : decode cX3_study 105 = .ok (.aload_n 0, 1) := by decide +kernel
theorem dX3_study_106 : decode cX3_study 106 = .ok (.getfield 64, 3) := by decide +kernel
theorem dX3_study_109 : decode cX3_study 109 = .ok (.ifCond .eq 16, 3) := by decide +kernel
theorem dX3_study_112 : decode cX3_study 112 = .ok (.aload_n 0, 1) := by decide +kernel
theorem dX3_study_113 : decode cX3_study 113 = .ok (.getfield 21, 3) := by decide +kernel
theorem dX3_study_116 : decode cX3_study 116 = .ok (.iload_n 1, 1) := by decide +kernel
theorem dX3_study_117 : decode cX3_study 117 = .ok (.iaload, 1) := by decide +kernel
theorem dX3_study_118 : decode cX3_study 118 = .ok (.ifCond .ne 7, 3) := by decide +kernel
theorem dX3_study_121 : decode cX3_study 121 = .ok (.iconst 1, 1) := by decide +kernel
theorem dX3_study_122 : decode cX3_study 122 = .ok (.goto 4, 3) := by decide +kernel
theorem dX3_study_125 : decode cX3_study 125 = .ok (.iconst 0, 1) := by decide +kernel
theorem dX3_study_126 : decode cX3_study 126 = .ok (.putfield 64, 3) := by decide +kernel
theorem dX3_study_129 : decode cX3_study 129 = .ok (.iinc 1 1, 3) := by decide +kernel
theorem dX3_study_132 : decode cX3_study 132 = .ok (.goto (-65), 3) := by decide +kernel
theorem dX3_study_135 : decode cX3_study 135 = .ok (.iconst 0, 1) := by decide +kernel
theorem dX3_study_136 : decode cX3_study 136 = .ok (.istore_n 1, 1) := by decide +kernel
theorem dX3_study_137 : decode cX3_study 137 = .ok (.iload_n 1, 1) := by decide +kernel
theorem dX3_study_138 : decode cX3_study 138 = .ok (.aload_n 0, 1) := by decide +kernel
theorem dX3_study_139 : decode cX3_study 139 = .ok (.getfield 24, 3) := by decide +kernel
theorem dX3_study_142 : decode cX3_study 142 = .ok (.arraylength, 1) := by decide +kernel
theorem dX3_study_143 : decode cX3_study 143 = .ok (.if_icmp .ge 20, 3) := by decide +kernel
theorem dX3_study_146 : decode cX3_study 146 = .ok (.aload_n 0, 1) := by decide +kernel
theorem dX3_study_147 : decode cX3_study 147 = .ok (.getfield 24, 3) := by decide +kernel
theorem dX3_study_150 : decode cX3_study 150 = .ok (.iload_n 1, 1) := by decide +kernel
theorem dX3_study_151 : decode cX3_study 151 = .ok (.aload_n 0, 1) := by decide +kernel
theorem dX3_study_152 : decode cX3_study 152 = .ok (.iload_n 1, 1) := by decide +kernel
theorem dX3_study_153 : decode cX3_study 153 = .ok (.invokevirtual 71, 3) := by decide +kernel
theorem dX3_study_156 : decode cX3_study 156 = .ok (.iastore, 1) := by decide +kernel
theorem dX3_study_157 : decode cX3_study 157 = .ok (.iinc 1 1, 3) := by decide +kernel
theorem dX3_study_160 : decode cX3_study 160 = .ok (.goto (-23), 3) := by decide +kernel
theorem dX3_study_163 : decode cX3_study 163 = .ok (.return_, 1) := by decide +kernel
theorem dX3_heavyOf_0 : decode cX3_heavyOf 0 = .ok (.iconst 0, 1) := by decide +kernel
theorem dX3_heavyOf_1 : decode cX3_heavyOf 1 = .ok (.istore_n 2, 1) := by decide +kernel
theorem dX3_heavyOf_2 : decode cX3_heavyOf 2 = .ok (.iconst 0, 1) := by decide +kernel
theorem dX3_heavyOf_3 : decode cX3_heavyOf 3 = .ok (.istore_n 3, 1) := by decide +kernel
theorem dX3_heavyOf_4 : decode cX3_heavyOf 4 = .ok (.iload_n 3, 1) := by decide +kernel
theorem dX3_heavyOf_5 : decode cX3_heavyOf 5 = .ok (.aload_n 0, 1) := by decide +kernel
theorem dX3_heavyOf_6 : decode cX3_heavyOf 6 = .ok (.getfield 18, 3) := by decide +kernel
theorem dX3_heavyOf_9 : decode cX3_heavyOf 9 = .ok (.arraylength, 1) := by decide +kernel
theorem dX3_heavyOf_10 : decode cX3_heavyOf 10 = .ok (.if_icmp .ge 26, 3) := by decide +kernel
theorem dX3_heavyOf_13 : decode cX3_heavyOf 13 = .ok (.iload_n 1, 1) := by decide +kernel
theorem dX3_heavyOf_14 : decode cX3_heavyOf 14 = .ok (.iload_n 3, 1) := by decide +kernel
theorem dX3_heavyOf_15 : decode cX3_heavyOf 15 = .ok (.ishr, 1) := by decide +kernel
theorem dX3_heavyOf_16 : decode cX3_heavyOf 16 = .ok (.iconst 1, 1) := by decide +kernel
theorem dX3_heavyOf_17 : decode cX3_heavyOf 17 = .ok (.iand, 1) := by decide +kernel
theorem dX3_heavyOf_18 : decode cX3_heavyOf 18 = .ok (.ifCond .eq 12, 3) := by decide +kernel
theorem dX3_heavyOf_21 : decode cX3_heavyOf 21 = .ok (.iload_n 2, 1) := by decide +kernel
theorem dX3_heavyOf_22 : decode cX3_heavyOf 22 = .ok (.aload_n 0, 1) := by decide +kernel
theorem dX3_heavyOf_23 : decode cX3_heavyOf 23 = .ok (.getfield 18, 3) := by decide +kernel
theorem dX3_heavyOf_26 : decode cX3_heavyOf 26 = .ok (.iload_n 3, 1) := by decide +kernel
theorem dX3_heavyOf_27 : decode cX3_heavyOf 27 = .ok (.iaload, 1) := by decide +kernel
theorem dX3_heavyOf_28 : decode cX3_heavyOf 28 = .ok (.iadd, 1) := by decide +kernel
theorem dX3_heavyOf_29 : decode cX3_heavyOf 29 = .ok (.istore_n 2, 1) := by decide +kernel
theorem dX3_heavyOf_30 : decode cX3_heavyOf 30 = .ok (.iinc 3 1, 3) := by decide +kernel
theorem dX3_heavyOf_33 : decode cX3_heavyOf 33 = .ok (.goto (-29), 3) := by decide +kernel
theorem dX3_heavyOf_36 : decode cX3_heavyOf 36 = .ok (.iload_n 2, 1) := by decide +kernel
theorem dX3_heavyOf_37 : decode cX3_heavyOf 37 = .ok (.ireturn, 1) := by decide +kernel
theorem dX3_findPairs_0 : decode cX3_findPairs 0 = .ok (.iconst 1, 1) := by decide +kernel
theorem dX3_findPairs_1 : decode cX3_findPairs 1 = .ok (.istore_n 2, 1) := by decide +kernel
theorem dX3_findPairs_2 : decode cX3_findPairs 2 = .ok (.bipush 99, 2) := by decide +kernel
theorem dX3_findPairs_4 : decode cX3_findPairs 4 = .ok (.istore_n 3, 1) := by decide +kernel
theorem dX3_findPairs_5 : decode cX3_findPairs 5 = .ok (.iconst 0, 1) := by decide +kernel
theorem dX3_findPairs_6 : decode cX3_findPairs 6 = .ok (.istore 4, 2) := by decide +kernel
theorem dX3_findPairs_8 : decode cX3_findPairs 8 = .ok (.iload 4, 2) := by decide +kernel
theorem dX3_findPairs_10 : decode cX3_findPairs 10 = .ok (.aload_n 0, 1) := by decide +kernel
theorem dX3_findPairs_11 : decode cX3_findPairs 11 = .ok (.getfield 38, 3) := by decide +kernel
theorem dX3_findPairs_14 : decode cX3_findPairs 14 = .ok (.if_icmp .ge 69, 3) := by decide +kernel
theorem dX3_findPairs_17 : decode cX3_findPairs 17 = .ok (.iload 4, 2) := by decide +kernel
theorem dX3_findPairs_19 : decode cX3_findPairs 19 = .ok (.bipush 10, 2) := by decide +kernel
theorem dX3_findPairs_21 : decode cX3_findPairs 21 = .ok (.if_icmp .ge 62, 3) := by decide +kernel
theorem dX3_findPairs_24 : decode cX3_findPairs 24 = .ok (.aload_n 0, 1) := by decide +kernel
theorem dX3_findPairs_25 : decode cX3_findPairs 25 = .ok (.getfield 11, 3) := by decide +kernel
theorem dX3_findPairs_28 : decode cX3_findPairs 28 = .ok (.iload 4, 2) := by decide +kernel
theorem dX3_findPairs_30 : decode cX3_findPairs 30 = .ok (.iaload, 1) := by decide +kernel
theorem dX3_findPairs_31 : decode cX3_findPairs 31 = .ok (.iload_n 1, 1) := by decide +kernel
theorem dX3_findPairs_32 : decode cX3_findPairs 32 = .ok (.ishr, 1) := by decide +kernel
theorem dX3_findPairs_33 : decode cX3_findPairs 33 = .ok (.iconst 1, 1) := by decide +kernel
theorem dX3_findPairs_34 : decode cX3_findPairs 34 = .ok (.iand, 1) := by decide +kernel
theorem dX3_findPairs_35 : decode cX3_findPairs 35 = .ok (.ifCond .eq 30, 3) := by decide +kernel
theorem dX3_findPairs_38 : decode cX3_findPairs 38 = .ok (.iload_n 2, 1) := by decide +kernel
theorem dX3_findPairs_39 : decode cX3_findPairs 39 = .ok (.aload_n 0, 1) := by decide +kernel
theorem dX3_findPairs_40 : decode cX3_findPairs 40 = .ok (.getfield 21, 3) := by decide +kernel
theorem dX3_findPairs_43 : decode cX3_findPairs 43 = .ok (.iload 4, 2) := by decide +kernel
theorem dX3_findPairs_45 : decode cX3_findPairs 45 = .ok (.iaload, 1) := by decide +kernel
theorem dX3_findPairs_46 : decode cX3_findPairs 46 = .ok (.invokestatic 74, 3) := by decide +kernel
theorem dX3_findPairs_49 : decode cX3_findPairs 49 = .ok (.istore_n 2, 1) := by decide +kernel
theorem dX3_findPairs_50 : decode cX3_findPairs 50 = .ok (.iload_n 3, 1) := by decide +kernel
theorem dX3_findPairs_51 : decode cX3_findPairs 51 = .ok (.aload_n 0, 1) := by decide +kernel
theorem dX3_findPairs_52 : decode cX3_findPairs 52 = .ok (.getfield 21, 3) := by decide +kernel
theorem dX3_findPairs_55 : decode cX3_findPairs 55 = .ok (.iload 4, 2) := by decide +kernel
theorem dX3_findPairs_57 : decode cX3_findPairs 57 = .ok (.iaload, 1) := by decide +kernel
theorem dX3_findPairs_58 : decode cX3_findPairs 58 = .ok (.invokestatic 80, 3) := by decide +kernel
theorem dX3_findPairs_61 : decode cX3_findPairs 61 = .ok (.istore_n 3, 1) := by decide +kernel
theorem dX3_findPairs_62 : decode cX3_findPairs 62 = .ok (.goto 15, 3) := by decide +kernel
theorem dX3_findPairs_65 : decode cX3_findPairs 65 = .ok (.aload_n 0, 1) := by decide +kernel
theorem dX3_findPairs_66 : decode cX3_findPairs 66 = .ok (.getfield 21, 3) := by decide +kernel
theorem dX3_findPairs_69 : decode cX3_findPairs 69 = .ok (.iload 4, 2) := by decide +kernel
theorem dX3_findPairs_71 : decode cX3_findPairs 71 = .ok (.iaload, 1) := by decide +kernel
theorem dX3_findPairs_72 : decode cX3_findPairs 72 = .ok (.ifCond .eq 5, 3) := by decide +kernel
theorem dX3_findPairs_75 : decode cX3_findPairs 75 = .ok (.iconst 0, 1) := by decide +kernel
theorem dX3_findPairs_76 : decode cX3_findPairs 76 = .ok (.ireturn, 1) := by decide +kernel
theorem dX3_findPairs_77 : decode cX3_findPairs 77 = .ok (.iinc 4 1, 3) := by decide +kernel
theorem dX3_findPairs_80 : decode cX3_findPairs 80 = .ok (.goto (-72), 3) := by decide +kernel
theorem dX3_findPairs_83 : decode cX3_findPairs 83 = .ok (.aload_n 0, 1) := by decide +kernel
theorem dX3_findPairs_84 : decode cX3_findPairs 84 = .ok (.getfield 30, 3) := by decide +kernel
theorem dX3_findPairs_87 : decode cX3_findPairs 87 = .ok (.iload_n 1, 1) := by decide +kernel
theorem dX3_findPairs_88 : decode cX3_findPairs 88 = .ok (.invokevirtual 42, 3) := by decide +kernel
theorem dX3_findPairs_91 : decode cX3_findPairs 91 = .ok (.astore 4, 2) := by decide +kernel
theorem dX3_findPairs_93 : decode cX3_findPairs 93 = .ok (.aload 4, 2) := by decide +kernel
theorem dX3_findPairs_95 : decode cX3_findPairs 95 = .ok (.ifnull 17, 3) := by decide +kernel
theorem dX3_findPairs_98 : decode cX3_findPairs 98 = .ok (.iload_n 3, 1) := by decide +kernel
theorem dX3_findPairs_99 : decode cX3_findPairs 99 = .ok (.iload_n 2, 1) := by decide +kernel
theorem dX3_findPairs_100 : decode cX3_findPairs 100 = .ok (.if_icmp .lt 12, 3) := by decide +kernel
theorem dX3_findPairs_103 : decode cX3_findPairs 103 = .ok (.iload_n 1, 1) := by decide +kernel
theorem dX3_findPairs_104 : decode cX3_findPairs 104 = .ok (.aload_n 0, 1) := by decide +kernel
theorem dX3_findPairs_105 : decode cX3_findPairs 105 = .ok (.getfield 27, 3) := by decide +kernel
theorem dX3_findPairs_108 : decode cX3_findPairs 108 = .ok (.arraylength, 1) := by decide +kernel
theorem dX3_findPairs_109 : decode cX3_findPairs 109 = .ok (.if_icmp .lt 5, 3) := by decide +kernel
theorem dX3_findPairs_112 : decode cX3_findPairs 112 = .ok (.iconst 0, 1) := by decide +kernel
theorem dX3_findPairs_113 : decode cX3_findPairs 113 = .ok (.ireturn, 1) := by decide +kernel
theorem dX3_findPairs_114 : decode cX3_findPairs 114 = .ok (.aload_n 0, 1) := by decide +kernel
theorem dX3_findPairs_115 : decode cX3_findPairs 115 = .ok (.getfield 27, 3) := by decide +kernel
theorem dX3_findPairs_118 : decode cX3_findPairs 118 = .ok (.iload_n 1, 1) := by decide +kernel
theorem dX3_findPairs_119 : decode cX3_findPairs 119 = .ok (.iload_n 2, 1) := by decide +kernel
theorem dX3_findPairs_120 : decode cX3_findPairs 120 = .ok (.iastore, 1) := by decide +kernel
theorem dX3_findPairs_121 : decode cX3_findPairs 121 = .ok (.iconst 2, 1) := by decide +kernel
theorem dX3_findPairs_122 : decode cX3_findPairs 122 = .ok (.aload 4, 2) := by decide +kernel
theorem dX3_findPairs_124 : decode cX3_findPairs 124 = .ok (.getfield 83, 3) := by decide +kernel
theorem dX3_findPairs_127 : decode cX3_findPairs 127 = .ok (.imul, 1) := by decide +kernel
theorem dX3_findPairs_128 : decode cX3_findPairs 128 = .ok (.iload_n 3, 1) := by decide +kernel
theorem dX3_findPairs_129 : decode cX3_findPairs 129 = .ok (.iload_n 2, 1) := by decide +kernel
theorem dX3_findPairs_130 : decode cX3_findPairs 130 = .ok (.isub, 1) := by decide +kernel
theorem dX3_findPairs_131 : decode cX3_findPairs 131 = .ok (.iconst 1, 1) := by decide +kernel
theorem dX3_findPairs_132 : decode cX3_findPairs 132 = .ok (.iadd, 1) := by decide +kernel
theorem dX3_findPairs_133 : decode cX3_findPairs 133 = .ok (.imul, 1) := by decide +kernel
theorem dX3_findPairs_134 : decode cX3_findPairs 134 = .ok (.ireturn, 1) := by decide +kernel
theorem dX3_pairsIn_0 : decode cX3_pairsIn 0 = .ok (.iconst 0, 1) := by decide +kernel
theorem dX3_pairsIn_1 : decode cX3_pairsIn 1 = .ok (.istore_n 2, 1) := by decide +kernel
theorem dX3_pairsIn_2 : decode cX3_pairsIn 2 = .ok (.iconst 0, 1) := by decide +kernel
theorem dX3_pairsIn_3 : decode cX3_pairsIn 3 = .ok (.istore_n 3, 1) := by decide +kernel
theorem dX3_pairsIn_4 : decode cX3_pairsIn 4 = .ok (.iload_n 3, 1) := by decide +kernel
theorem dX3_pairsIn_5 : decode cX3_pairsIn 5 = .ok (.aload_n 0, 1) := by decide +kernel
theorem dX3_pairsIn_6 : decode cX3_pairsIn 6 = .ok (.getfield 24, 3) := by decide +kernel
theorem dX3_pairsIn_9 : decode cX3_pairsIn 9 = .ok (.arraylength, 1) := by decide +kernel
theorem dX3_pairsIn_10 : decode cX3_pairsIn 10 = .ok (.if_icmp .ge 26, 3) := by decide +kernel
theorem dX3_pairsIn_13 : decode cX3_pairsIn 13 = .ok (.iload_n 1, 1) := by decide +kernel
theorem dX3_pairsIn_14 : decode cX3_pairsIn 14 = .ok (.iload_n 3, 1) := by decide +kernel
theorem dX3_pairsIn_15 : decode cX3_pairsIn 15 = .ok (.ishr, 1) := by decide +kernel
theorem dX3_pairsIn_16 : decode cX3_pairsIn 16 = .ok (.iconst 1, 1) := by decide +kernel
theorem dX3_pairsIn_17 : decode cX3_pairsIn 17 = .ok (.iand, 1) := by decide +kernel
theorem dX3_pairsIn_18 : decode cX3_pairsIn 18 = .ok (.ifCond .eq 12, 3) := by decide +kernel
theorem dX3_pairsIn_21 : decode cX3_pairsIn 21 = .ok (.iload_n 2, 1) := by decide +kernel
theorem dX3_pairsIn_22 : decode cX3_pairsIn 22 = .ok (.aload_n 0, 1) := by decide +kernel
theorem dX3_pairsIn_23 : decode cX3_pairsIn 23 = .ok (.getfield 24, 3) := by decide +kernel
theorem dX3_pairsIn_26 : decode cX3_pairsIn 26 = .ok (.iload_n 3, 1) := by decide +kernel
theorem dX3_pairsIn_27 : decode cX3_pairsIn 27 = .ok (.iaload, 1) := by decide +kernel
theorem dX3_pairsIn_28 : decode cX3_pairsIn 28 = .ok (.iadd, 1) := by decide +kernel
theorem dX3_pairsIn_29 : decode cX3_pairsIn 29 = .ok (.istore_n 2, 1) := by decide +kernel
theorem dX3_pairsIn_30 : decode cX3_pairsIn 30 = .ok (.iinc 3 1, 3) := by decide +kernel
theorem dX3_pairsIn_33 : decode cX3_pairsIn 33 = .ok (.goto (-29), 3) := by decide +kernel
theorem dX3_pairsIn_36 : decode cX3_pairsIn 36 = .ok (.iload_n 2, 1) := by decide +kernel
theorem dX3_pairsIn_37 : decode cX3_pairsIn 37 = .ok (.ireturn, 1) := by decide +kernel
theorem dX3_leastMoreOf_0 : decode cX3_leastMoreOf 0 = .ok (.iload_n 1, 1) := by decide +kernel
theorem dX3_leastMoreOf_1 : decode cX3_leastMoreOf 1 = .ok (.ifCond .lt 21, 3) := by decide +kernel
theorem dX3_leastMoreOf_4 : decode cX3_leastMoreOf 4 = .ok (.iload_n 1, 1) := by decide +kernel
theorem dX3_leastMoreOf_5 : decode cX3_leastMoreOf 5 = .ok (.aload_n 0, 1) := by decide +kernel
theorem dX3_leastMoreOf_6 : decode cX3_leastMoreOf 6 = .ok (.getfield 27, 3) := by decide +kernel
theorem dX3_leastMoreOf_9 : decode cX3_leastMoreOf 9 = .ok (.arraylength, 1) := by decide +kernel
theorem dX3_leastMoreOf_10 : decode cX3_leastMoreOf 10 = .ok (.if_icmp .ge 12, 3) := by decide +kernel
theorem dX3_leastMoreOf_13 : decode cX3_leastMoreOf 13 = .ok (.aload_n 0, 1) := by decide +kernel
theorem dX3_leastMoreOf_14 : decode cX3_leastMoreOf 14 = .ok (.getfield 27, 3) := by decide +kernel
theorem dX3_leastMoreOf_17 : decode cX3_leastMoreOf 17 = .ok (.iload_n 1, 1) := by decide +kernel
theorem dX3_leastMoreOf_18 : decode cX3_leastMoreOf 18 = .ok (.iaload, 1) := by decide +kernel
theorem dX3_leastMoreOf_19 : decode cX3_leastMoreOf 19 = .ok (.goto 4, 3) := by decide +kernel
theorem dX3_leastMoreOf_22 : decode cX3_leastMoreOf 22 = .ok (.iconst 0, 1) := by decide +kernel
theorem dX3_leastMoreOf_23 : decode cX3_leastMoreOf 23 = .ok (.ireturn, 1) := by decide +kernel
theorem dX4_init_0 : decode cX4_init 0 = .ok (.aload_n 0, 1) := by decide +kernel
theorem dX4_init_1 : decode cX4_init 1 = .ok (.invokespecial 3, 3) := by decide +kernel
theorem dX4_init_4 : decode cX4_init 4 = .ok (.aload_n 0, 1) := by decide +kernel
theorem dX4_init_5 : decode cX4_init 5 = .ok (.bipush 6, 2) := by decide +kernel
theorem dX4_init_7 : decode cX4_init 7 = .ok (.anewarray 9, 3) := by decide +kernel
theorem dX4_init_10 : decode cX4_init 10 = .ok (.putfield 11, 3) := by decide +kernel
theorem dX4_init_13 : decode cX4_init 13 = .ok (.aload_n 0, 1) := by decide +kernel
theorem dX4_init_14 : decode cX4_init 14 = .ok (.bipush 6, 2) := by decide +kernel
theorem dX4_init_16 : decode cX4_init 16 = .ok (.newarray .int, 2) := by decide +kernel
theorem dX4_init_18 : decode cX4_init 18 = .ok (.putfield 17, 3) := by decide +kernel
theorem dX4_init_21 : decode cX4_init 21 = .ok (.aload_n 0, 1) := by decide +kernel
theorem dX4_init_22 : decode cX4_init 22 = .ok (.bipush 6, 2) := by decide +kernel
theorem dX4_init_24 : decode cX4_init 24 = .ok (.newarray .int, 2) := by decide +kernel
theorem dX4_init_26 : decode cX4_init 26 = .ok (.putfield 21, 3) := by decide +kernel
theorem dX4_init_29 : decode cX4_init 29 = .ok (.aload_n 0, 1) := by decide +kernel
theorem dX4_init_30 : decode cX4_init 30 = .ok (.bipush 6, 2) := by decide +kernel
theorem dX4_init_32 : decode cX4_init 32 = .ok (.newarray .int, 2) := by decide +kernel
theorem dX4_init_34 : decode cX4_init 34 = .ok (.putfield 24, 3) := by decide +kernel
theorem dX4_init_37 : decode cX4_init 37 = .ok (.aload_n 0, 1) := by decide +kernel
theorem dX4_init_38 : decode cX4_init 38 = .ok (.aload_n 1, 1) := by decide +kernel
theorem dX4_init_39 : decode cX4_init 39 = .ok (.putfield 27, 3) := by decide +kernel
theorem dX4_init_42 : decode cX4_init 42 = .ok (.aload_n 0, 1) := by decide +kernel
theorem dX4_init_43 : decode cX4_init 43 = .ok (.aload_n 2, 1) := by decide +kernel
theorem dX4_init_44 : decode cX4_init 44 = .ok (.putfield 31, 3) := by decide +kernel
theorem dX4_init_47 : decode cX4_init 47 = .ok (.iconst 0, 1) := by decide +kernel
theorem dX4_init_48 : decode cX4_init 48 = .ok (.istore 4, 2) := by decide +kernel
theorem dX4_init_50 : decode cX4_init 50 = .ok (.iload 4, 2) := by decide +kernel
theorem dX4_init_52 : decode cX4_init 52 = .ok (.aload_n 0, 1) := by decide +kernel
theorem dX4_init_53 : decode cX4_init 53 = .ok (.getfield 11, 3) := by decide +kernel
theorem dX4_init_56 : decode cX4_init 56 = .ok (.arraylength, 1) := by decide +kernel
theorem dX4_init_57 : decode cX4_init 57 = .ok (.if_icmp .ge 25, 3) := by decide +kernel
theorem dX4_init_60 : decode cX4_init 60 = .ok (.aload_n 0, 1) := by decide +kernel
theorem dX4_init_61 : decode cX4_init 61 = .ok (.getfield 11, 3) := by decide +kernel
theorem dX4_init_64 : decode cX4_init 64 = .ok (.iload 4, 2) := by decide +kernel
theorem dX4_init_66 : decode cX4_init 66 = .ok (.new 9, 3) := by decide +kernel
theorem dX4_init_69 : decode cX4_init 69 = .ok (.dup, 1) := by decide +kernel
theorem dX4_init_70 : decode cX4_init 70 = .ok (.aload_n 2, 1) := by decide +kernel
theorem dX4_init_71 : decode cX4_init 71 = .ok (.aload_n 3, 1) := by decide +kernel
theorem dX4_init_72 : decode cX4_init 72 = .ok (.invokespecial 35, 3) := by decide +kernel
theorem dX4_init_75 : decode cX4_init 75 = .ok (.aastore, 1) := by decide +kernel
theorem dX4_init_76 : decode cX4_init 76 = .ok (.iinc 4 1, 3) := by decide +kernel
theorem dX4_init_79 : decode cX4_init 79 = .ok (.goto (-29), 3) := by decide +kernel
theorem dX4_init_82 : decode cX4_init 82 = .ok (.return_, 1) := by decide +kernel
theorem dX4_readPath_0 : decode cX4_readPath 0 = .ok (.aload_n 1, 1) := by decide +kernel
theorem dX4_readPath_1 : decode cX4_readPath 1 = .ok (.bipush 80, 2) := by decide +kernel
theorem dX4_readPath_3 : decode cX4_readPath 3 = .ok (.invokevirtual 38, 3) := by decide +kernel
theorem dX4_readPath_6 : decode cX4_readPath 6 = .ok (.aload_n 0, 1) := by decide +kernel
theorem dX4_readPath_7 : decode cX4_readPath 7 = .ok (.iconst 0, 1) := by decide +kernel
theorem dX4_readPath_8 : decode cX4_readPath 8 = .ok (.putfield 44, 3) := by decide +kernel
theorem dX4_readPath_11 : decode cX4_readPath 11 = .ok (.iconst 0, 1) := by decide +kernel
theorem dX4_readPath_12 : decode cX4_readPath 12 = .ok (.istore_n 2, 1) := by decide +kernel
theorem dX4_readPath_13 : decode cX4_readPath 13 = .ok (.iconst 0, 1) := by decide +kernel
theorem dX4_readPath_14 : decode cX4_readPath 14 = .ok (.istore_n 3, 1) := by decide +kernel
theorem dX4_readPath_15 : decode cX4_readPath 15 = .ok (.iload_n 3, 1) := by decide +kernel
theorem dX4_readPath_16 : decode cX4_readPath 16 = .ok (.aload_n 0, 1) := by decide +kernel
theorem dX4_readPath_17 : decode cX4_readPath 17 = .ok (.getfield 21, 3) := by decide +kernel
theorem dX4_readPath_20 : decode cX4_readPath 20 = .ok (.arraylength, 1) := by decide +kernel
theorem dX4_readPath_21 : decode cX4_readPath 21 = .ok (.if_icmp .ge 79, 3) := by decide +kernel
theorem dX4_readPath_24 : decode cX4_readPath 24 = .ok (.aload_n 1, 1) := by decide +kernel
theorem dX4_readPath_25 : decode cX4_readPath 25 = .ok (.invokevirtual 48, 3) := by decide +kernel
theorem dX4_readPath_28 : decode cX4_readPath 28 = .ok (.bipush 48, 2) := by decide +kernel
theorem dX4_readPath_30 : decode cX4_readPath 30 = .ok (.isub, 1) := by decide +kernel
theorem dX4_readPath_31 : decode cX4_readPath 31 = .ok (.istore 4, 2) := by decide +kernel
theorem dX4_readPath_33 : decode cX4_readPath 33 = .ok (.aload_n 0, 1) := by decide +kernel
theorem dX4_readPath_34 : decode cX4_readPath 34 = .ok (.getfield 27, 3) := by decide +kernel
theorem dX4_readPath_37 : decode cX4_readPath 37 = .ok (.iload 4, 2) := by decide +kernel
theorem dX4_readPath_39 : decode cX4_readPath 39 = .ok (.invokevirtual 52, 3) := by decide +kernel
theorem dX4_readPath_42 : decode cX4_readPath 42 = .ok (.ifnull 12, 3) := by decide +kernel
theorem dX4_readPath_45 : decode cX4_readPath 45 = .ok (.iload_n 2, 1) := by decide +kernel
theorem dX4_readPath_46 : decode cX4_readPath 46 = .ok (.iload 4, 2) := by decide +kernel
theorem dX4_readPath_48 : decode cX4_readPath 48 = .ok (.ishr, 1) := by decide +kernel
theorem dX4_readPath_49 : decode cX4_readPath 49 = .ok (.iconst 1, 1) := by decide +kernel
theorem dX4_readPath_50 : decode cX4_readPath 50 = .ok (.iand, 1) := by decide +kernel
theorem dX4_readPath_51 : decode cX4_readPath 51 = .ok (.ifCond .eq 8, 3) := by decide +kernel
theorem dX4_readPath_54 : decode cX4_readPath 54 = .ok (.aload_n 1, 1) := by decide +kernel
theorem dX4_readPath_55 : decode cX4_readPath 55 = .ok (.invokevirtual 58, 3) := by decide +kernel
theorem dX4_readPath_58 : decode cX4_readPath 58 = .ok (.ireturn, 1) := by decide +kernel
theorem dX4_readPath_59 : decode cX4_readPath 59 = .ok (.aload_n 1, 1) := by decide +kernel
theorem dX4_readPath_60 : decode cX4_readPath 60 = .ok (.invokevirtual 61, 3) := by decide +kernel
theorem dX4_readPath_63 : decode cX4_readPath 63 = .ok (.iload_n 2, 1) := by decide +kernel
theorem dX4_readPath_64 : decode cX4_readPath 64 = .ok (.iconst 1, 1) := by decide +kernel
theorem dX4_readPath_65 : decode cX4_readPath 65 = .ok (.iload 4, 2) := by decide +kernel
theorem dX4_readPath_67 : decode cX4_readPath 67 = .ok (.ishl, 1) := by decide +kernel
theorem dX4_readPath_68 : decode cX4_readPath 68 = .ok (.ior, 1) := by decide +kernel
theorem dX4_readPath_69 : decode cX4_readPath 69 = .ok (.istore_n 2, 1) := by decide +kernel
theorem dX4_readPath_70 : decode cX4_readPath 70 = .ok (.aload_n 0, 1) := by decide +kernel
theorem dX4_readPath_71 : decode cX4_readPath 71 = .ok (.getfield 21, 3) := by decide +kernel
theorem dX4_readPath_74 : decode cX4_readPath 74 = .ok (.iload_n 3, 1) := by decide +kernel
theorem dX4_readPath_75 : decode cX4_readPath 75 = .ok (.iload 4, 2) := by decide +kernel
theorem dX4_readPath_77 : decode cX4_readPath 77 = .ok (.iastore, 1) := by decide +kernel
theorem dX4_readPath_78 : decode cX4_readPath 78 = .ok (.aload_n 0, 1) := by decide +kernel
theorem dX4_readPath_79 : decode cX4_readPath 79 = .ok (.iload_n 3, 1) := by decide +kernel
theorem dX4_readPath_80 : decode cX4_readPath 80 = .ok (.iconst 1, 1) := by decide +kernel
theorem dX4_readPath_81 : decode cX4_readPath 81 = .ok (.iadd, 1) := by decide +kernel
theorem dX4_readPath_82 : decode cX4_readPath 82 = .ok (.putfield 44, 3) := by decide +kernel
theorem dX4_readPath_85 : decode cX4_readPath 85 = .ok (.aload_n 1, 1) := by decide +kernel
theorem dX4_readPath_86 : decode cX4_readPath 86 = .ok (.invokevirtual 64, 3) := by decide +kernel
theorem dX4_readPath_89 : decode cX4_readPath 89 = .ok (.ifCond .eq 5, 3) := by decide +kernel
theorem dX4_readPath_92 : decode cX4_readPath 92 = .ok (.iconst 0, 1) := by decide +kernel
theorem dX4_readPath_93 : decode cX4_readPath 93 = .ok (.ireturn, 1) := by decide +kernel
theorem dX4_readPath_94 : decode cX4_readPath 94 = .ok (.iinc 3 1, 3) := by decide +kernel
theorem dX4_readPath_97 : decode cX4_readPath 97 = .ok (.goto (-82), 3) := by decide +kernel
theorem dX4_readPath_100 : decode cX4_readPath 100 = .ok (.aload_n 1, 1) := by decide +kernel
theorem dX4_readPath_101 : decode cX4_readPath 101 = .ok (.invokevirtual 58, 3) := by decide +kernel
theorem dX4_readPath_104 : decode cX4_readPath 104 = .ok (.ireturn, 1) := by decide +kernel
theorem dX4_prepare_0 : decode cX4_prepare 0 = .ok (.iconst 0, 1) := by decide +kernel
theorem dX4_prepare_1 : decode cX4_prepare 1 = .ok (.istore_n 2, 1) := by decide +kernel
theorem dX4_prepare_2 : decode cX4_prepare 2 = .ok (.iload_n 2, 1) := by decide +kernel
theorem dX4_prepare_3 : decode cX4_prepare 3 = .ok (.aload_n 0, 1) := by decide +kernel
theorem dX4_prepare_4 : decode cX4_prepare 4 = .ok (.getfield 27, 3) := by decide +kernel
theorem dX4_prepare_7 : decode cX4_prepare 7 = .ok (.getfield 68, 3) := by decide +kernel
theorem dX4_prepare_10 : decode cX4_prepare 10 = .ok (.if_icmp .ge 80, 3) := by decide +kernel
theorem dX4_prepare_13 : decode cX4_prepare 13 = .ok (.iload_n 2, 1) := by decide +kernel
theorem dX4_prepare_14 : decode cX4_prepare 14 = .ok (.aload_n 0, 1) := by decide +kernel
theorem dX4_prepare_15 : decode cX4_prepare 15 = .ok (.getfield 11, 3) := by decide +kernel
theorem dX4_prepare_18 : decode cX4_prepare 18 = .ok (.arraylength, 1) := by decide +kernel
theorem dX4_prepare_19 : decode cX4_prepare 19 = .ok (.if_icmp .ge 71, 3) := by decide +kernel
theorem dX4_prepare_22 : decode cX4_prepare 22 = .ok (.iload_n 2, 1) := by decide +kernel
theorem dX4_prepare_23 : decode cX4_prepare 23 = .ok (.aload_n 1, 1) := by decide +kernel
theorem dX4_prepare_24 : decode cX4_prepare 24 = .ok (.arraylength, 1) := by decide +kernel
theorem dX4_prepare_25 : decode cX4_prepare 25 = .ok (.if_icmp .ge 65, 3) := by decide +kernel
theorem dX4_prepare_28 : decode cX4_prepare 28 = .ok (.aload_n 0, 1) := by decide +kernel
theorem dX4_prepare_29 : decode cX4_prepare 29 = .ok (.getfield 27, 3) := by decide +kernel
theorem dX4_prepare_32 : decode cX4_prepare 32 = .ok (.iload_n 2, 1) := by decide +kernel
theorem dX4_prepare_33 : decode cX4_prepare 33 = .ok (.invokevirtual 52, 3) := by decide +kernel
theorem dX4_prepare_36 : decode cX4_prepare 36 = .ok (.astore_n 3, 1) := by decide +kernel
theorem dX4_prepare_37 : decode cX4_prepare 37 = .ok (.aload_n 3, 1) := by decide +kernel
theorem dX4_prepare_38 : decode cX4_prepare 38 = .ok (.ifnull 46, 3) := by decide +kernel
theorem dX4_prepare_41 : decode cX4_prepare 41 = .ok (.aload_n 0, 1) := by decide +kernel
theorem dX4_prepare_42 : decode cX4_prepare 42 = .ok (.getfield 11, 3) := by decide +kernel
theorem dX4_prepare_45 : decode cX4_prepare 45 = .ok (.iload_n 2, 1) := by decide +kernel
theorem dX4_prepare_46 : decode cX4_prepare 46 = .ok (.aaload, 1) := by decide +kernel
theorem dX4_prepare_47 : decode cX4_prepare 47 = .ok (.astore 4, 2) := by decide +kernel
theorem dX4_prepare_49 : decode cX4_prepare 49 = .ok (.aload 4, 2) := by decide +kernel
theorem dX4_prepare_51 : decode cX4_prepare 51 = .ok (.aload_n 0, 1) := by decide +kernel
theorem dX4_prepare_52 : decode cX4_prepare 52 = .ok (.getfield 31, 3) := by decide +kernel
theorem dX4_prepare_55 : decode cX4_prepare 55 = .ok (.iconst 1, 1) := by decide +kernel
theorem dX4_prepare_56 : decode cX4_prepare 56 = .ok (.invokevirtual 71, 3) := by decide +kernel
theorem dX4_prepare_59 : decode cX4_prepare 59 = .ok (.aload_n 3, 1) := by decide +kernel
theorem dX4_prepare_60 : decode cX4_prepare 60 = .ok (.getfield 77, 3) := by decide +kernel
theorem dX4_prepare_63 : decode cX4_prepare 63 = .ok (.invokevirtual 82, 3) := by decide +kernel
theorem dX4_prepare_66 : decode cX4_prepare 66 = .ok (.aload 4, 2) := by decide +kernel
theorem dX4_prepare_68 : decode cX4_prepare 68 = .ok (.aload_n 3, 1) := by decide +kernel
theorem dX4_prepare_69 : decode cX4_prepare 69 = .ok (.aload 4, 2) := by decide +kernel
theorem dX4_prepare_71 : decode cX4_prepare 71 = .ok (.aload_n 3, 1) := by decide +kernel
theorem dX4_prepare_72 : decode cX4_prepare 72 = .ok (.aload_n 1, 1) := by decide +kernel
theorem dX4_prepare_73 : decode cX4_prepare 73 = .ok (.iload_n 2, 1) := by decide +kernel
theorem dX4_prepare_74 : decode cX4_prepare 74 = .ok (.iaload, 1) := by decide +kernel
theorem dX4_prepare_75 : decode cX4_prepare 75 = .ok (.invokevirtual 86, 3) := by decide +kernel
theorem dX4_prepare_78 : decode cX4_prepare 78 = .ok (.aload_n 1, 1) := by decide +kernel
theorem dX4_prepare_79 : decode cX4_prepare 79 = .ok (.iload_n 2, 1) := by decide +kernel
theorem dX4_prepare_80 : decode cX4_prepare 80 = .ok (.iaload, 1) := by decide +kernel
theorem dX4_prepare_81 : decode cX4_prepare 81 = .ok (.invokevirtual 90, 3) := by decide +kernel
theorem dX4_prepare_84 : decode cX4_prepare 84 = .ok (.iinc 2 1, 3) := by decide +kernel
theorem dX4_prepare_87 : decode cX4_prepare 87 = .ok (.goto (-85), 3) := by decide +kernel
theorem dX4_prepare_90 : decode cX4_prepare 90 = .ok (.return_, 1) := by decide +kernel
theorem dX4_pathToAll_0 : decode cX4_pathToAll 0 = .ok (.aload_n 0, 1) := by decide +kernel
theorem dX4_pathToAll_1 : decode cX4_pathToAll 1 = .ok (.aload_n 0, 1) := by decide +kernel
theorem dX4_pathToAll_2 : decode cX4_pathToAll 2 = .ok (.getfield 27, 3) := by decide +kernel
theorem dX4_pathToAll_5 : decode cX4_pathToAll 5 = .ok (.getfield 68, 3) := by decide +kernel
theorem dX4_pathToAll_8 : decode cX4_pathToAll 8 = .ok (.aload_n 0, 1) := by decide +kernel
theorem dX4_pathToAll_9 : decode cX4_pathToAll 9 = .ok (.getfield 21, 3) := by decide +kernel
theorem dX4_pathToAll_12 : decode cX4_pathToAll 12 = .ok (.arraylength, 1) := by decide +kernel
theorem dX4_pathToAll_13 : decode cX4_pathToAll 13 = .ok (.invokestatic 94, 3) := by decide +kernel
theorem dX4_pathToAll_16 : decode cX4_pathToAll 16 = .ok (.putfield 44, 3) := by decide +kernel
theorem dX4_pathToAll_19 : decode cX4_pathToAll 19 = .ok (.iconst 0, 1) := by decide +kernel
theorem dX4_pathToAll_20 : decode cX4_pathToAll 20 = .ok (.istore_n 1, 1) := by decide +kernel
theorem dX4_pathToAll_21 : decode cX4_pathToAll 21 = .ok (.iload_n 1, 1) := by decide +kernel
theorem dX4_pathToAll_22 : decode cX4_pathToAll 22 = .ok (.aload_n 0, 1) := by decide +kernel
theorem dX4_pathToAll_23 : decode cX4_pathToAll 23 = .ok (.getfield 44, 3) := by decide +kernel
theorem dX4_pathToAll_26 : decode cX4_pathToAll 26 = .ok (.if_icmp .ge 16, 3) := by decide +kernel
theorem dX4_pathToAll_29 : decode cX4_pathToAll 29 = .ok (.aload_n 0, 1) := by decide +kernel
theorem dX4_pathToAll_30 : decode cX4_pathToAll 30 = .ok (.getfield 21, 3) := by decide +kernel
theorem dX4_pathToAll_33 : decode cX4_pathToAll 33 = .ok (.iload_n 1, 1) := by decide +kernel
theorem dX4_pathToAll_34 : decode cX4_pathToAll 34 = .ok (.iload_n 1, 1) := by decide +kernel
theorem dX4_pathToAll_35 : decode cX4_pathToAll 35 = .ok (.iastore, 1) := by decide +kernel
theorem dX4_pathToAll_36 : decode cX4_pathToAll 36 = .ok (.iinc 1 1, 3) := by decide +kernel
theorem dX4_pathToAll_39 : decode cX4_pathToAll 39 = .ok (.goto (-18), 3) := by decide +kernel
theorem dX4_pathToAll_42 : decode cX4_pathToAll 42 = .ok (.return_, 1) := by decide +kernel
theorem dX4_start_0 : decode cX4_start 0 = .ok (.aload_n 0, 1) := by decide +kernel
theorem dX4_start_1 : decode cX4_start 1 = .ok (.iload_n 1, 1) := by decide +kernel
theorem dX4_start_2 : decode cX4_start 2 = .ok (.putfield 100, 3) := by decide +kernel
theorem dX4_start_5 : decode cX4_start 5 = .ok (.aload_n 0, 1) := by decide +kernel
theorem dX4_start_6 : decode cX4_start 6 = .ok (.iload_n 2, 1) := by decide +kernel
theorem dX4_start_7 : decode cX4_start 7 = .ok (.putfield 103, 3) := by decide +kernel
theorem dX4_start_10 : decode cX4_start 10 = .ok (.aload_n 0, 1) := by decide +kernel
theorem dX4_start_11 : decode cX4_start 11 = .ok (.iload_n 3, 1) := by decide +kernel
theorem dX4_start_12 : decode cX4_start 12 = .ok (.putfield 106, 3) := by decide +kernel
theorem dX4_start_15 : decode cX4_start 15 = .ok (.aload_n 0, 1) := by decide +kernel
theorem dX4_start_16 : decode cX4_start 16 = .ok (.iconst 0, 1) := by decide +kernel
theorem dX4_start_17 : decode cX4_start 17 = .ok (.putfield 109, 3) := by decide +kernel
theorem dX4_start_20 : decode cX4_start 20 = .ok (.aload_n 0, 1) := by decide +kernel
theorem dX4_start_21 : decode cX4_start 21 = .ok (.iconst 0, 1) := by decide +kernel
theorem dX4_start_22 : decode cX4_start 22 = .ok (.putfield 112, 3) := by decide +kernel
theorem dX4_start_25 : decode cX4_start 25 = .ok (.return_, 1) := by decide +kernel
theorem dX4_followPath_0 : decode cX4_followPath 0 = .ok (.iconst 0, 1) := by decide +kernel
theorem dX4_followPath_1 : decode cX4_followPath 1 = .ok (.istore_n 1, 1) := by decide +kernel
theorem dX4_followPath_2 : decode cX4_followPath 2 = .ok (.iload_n 1, 1) := by decide +kernel
theorem dX4_followPath_3 : decode cX4_followPath 3 = .ok (.aload_n 0, 1) := by decide +kernel
theorem dX4_followPath_4 : decode cX4_followPath 4 = .ok (.getfield 44, 3) := by decide +kernel
theorem dX4_followPath_7 : decode cX4_followPath 7 = .ok (.if_icmp .ge 33, 3) := by decide +kernel
theorem dX4_followPath_10 : decode cX4_followPath 10 = .ok (.iload_n 1, 1) := by decide +kernel
theorem dX4_followPath_11 : decode cX4_followPath 11 = .ok (.aload_n 0, 1) := by decide +kernel
theorem dX4_followPath_12 : decode cX4_followPath 12 = .ok (.getfield 21, 3) := by decide +kernel
theorem dX4_followPath_15 : decode cX4_followPath 15 = .ok (.arraylength, 1) := by decide +kernel
theorem dX4_followPath_16 : decode cX4_followPath 16 = .ok (.if_icmp .ge 24, 3) := by decide +kernel
theorem dX4_followPath_19 : decode cX4_followPath 19 = .ok (.aload_n 0, 1) := by decide +kernel
theorem dX4_followPath_20 : decode cX4_followPath 20 = .ok (.aload_n 0, 1) := by decide +kernel
theorem dX4_followPath_21 : decode cX4_followPath 21 = .ok (.getfield 21, 3) := by decide +kernel
theorem dX4_followPath_24 : decode cX4_followPath 24 = .ok (.iload_n 1, 1) := by decide +kernel
theorem dX4_followPath_25 : decode cX4_followPath 25 = .ok (.iaload, 1) := by decide +kernel
theorem dX4_followPath_26 : decode cX4_followPath 26 = .ok (.invokevirtual 115, 3) := by decide +kernel
theorem dX4_followPath_29 : decode cX4_followPath 29 = .ok (.ifCond .ne 5, 3) := by decide +kernel
theorem dX4_followPath_32 : decode cX4_followPath 32 = .ok (.iconst 0, 1) := by decide +kernel
theorem dX4_followPath_33 : decode cX4_followPath 33 = .ok (.ireturn, 1) := by decide +kernel
theorem dX4_followPath_34 : decode cX4_followPath 34 = .ok (.iinc 1 1, 3) := by decide +kernel
theorem dX4_followPath_37 : decode cX4_followPath 37 = .ok (.goto (-35), 3) := by decide +kernel
theorem dX4_followPath_40 : decode cX4_followPath 40 = .ok (.aload_n 0, 1) := by decide +kernel
theorem dX4_followPath_41 : decode cX4_followPath 41 = .ok (.invokevirtual 119, 3) := by decide +kernel
theorem dX4_followPath_44 : decode cX4_followPath 44 = .ok (.ireturn, 1) := by decide +kernel
theorem dX4_visit_0 : decode cX4_visit 0 = .ok (.aload_n 0, 1) := by decide +kernel
theorem dX4_visit_1 : decode cX4_visit 1 = .ok (.getfield 27, 3) := by decide +kernel
theorem dX4_visit_4 : decode cX4_visit 4 = .ok (.iload_n 1, 1) := by decide +kernel
theorem dX4_visit_5 : decode cX4_visit 5 = .ok (.invokevirtual 52, 3) := by decide +kernel
theorem dX4_visit_8 : decode cX4_visit 8 = .ok (.astore_n 2, 1) := by decide +kernel
theorem dX4_visit_9 : decode cX4_visit 9 = .ok (.aload_n 2, 1) := by decide +kernel
theorem dX4_visit_10 : decode cX4_visit 10 = .ok (.ifnull 12, 3) := by decide +kernel
theorem dX4_visit_13 : decode cX4_visit 13 = .ok (.iload_n 1, 1) := by decide +kernel
theorem dX4_visit_14 : decode cX4_visit 14 = .ok (.aload_n 0, 1) := by decide +kernel
theorem dX4_visit_15 : decode cX4_visit 15 = .ok (.getfield 11, 3) := by decide +kernel
theorem dX4_visit_18 : decode cX4_visit 18 = .ok (.arraylength, 1) := by decide +kernel
theorem dX4_visit_19 : decode cX4_visit 19 = .ok (.if_icmp .lt 5, 3) := by decide +kernel
theorem dX4_visit_22 : decode cX4_visit 22 = .ok (.iconst 0, 1) := by decide +kernel
theorem dX4_visit_23 : decode cX4_visit 23 = .ok (.ireturn, 1) := by decide +kernel
theorem dX4_visit_24 : decode cX4_visit 24 = .ok (.aload_n 0, 1) := by decide +kernel
theorem dX4_visit_25 : decode cX4_visit 25 = .ok (.getfield 11, 3) := by decide +kernel
theorem dX4_visit_28 : decode cX4_visit 28 = .ok (.iload_n 1, 1) := by decide +kernel
theorem dX4_visit_29 : decode cX4_visit 29 = .ok (.aaload, 1) := by decide +kernel
theorem dX4_visit_30 : decode cX4_visit 30 = .ok (.astore_n 3, 1) := by decide +kernel
theorem dX4_visit_31 : decode cX4_visit 31 = .ok (.aload_n 0, 1) := by decide +kernel
theorem dX4_visit_32 : decode cX4_visit 32 = .ok (.getfield 100, 3) := by decide +kernel
theorem dX4_visit_35 : decode cX4_visit 35 = .ok (.ifCond .eq 32, 3) := by decide +kernel
theorem dX4_visit_38 : decode cX4_visit 38 = .ok (.aload_n 0, 1) := by decide +kernel
theorem dX4_visit_39 : decode cX4_visit 39 = .ok (.getfield 100, 3) := by decide +kernel
theorem dX4_visit_42 : decode cX4_visit 42 = .ok (.aload_n 3, 1) := by decide +kernel
theorem dX4_visit_43 : decode cX4_visit 43 = .ok (.getfield 122, 3) := by decide +kernel
theorem dX4_visit_46 : decode cX4_visit 46 = .ok (.iadd, 1) := by decide +kernel
theorem dX4_visit_47 : decode cX4_visit 47 = .ok (.aload_n 0, 1) := by decide +kernel
theorem dX4_visit_48 : decode cX4_visit 48 = .ok (.getfield 31, 3) := by decide +kernel
theorem dX4_visit_51 : decode cX4_visit 51 = .ok (.iconst 0, 1) := by decide +kernel
theorem dX4_visit_52 : decode cX4_visit 52 = .ok (.invokevirtual 71, 3) := by decide +kernel
theorem dX4_visit_55 : decode cX4_visit 55 = .ok (.if_icmp .le 12, 3) := by decide +kernel
theorem dX4_visit_58 : decode cX4_visit 58 = .ok (.aload_n 0, 1) := by decide +kernel
theorem dX4_visit_59 : decode cX4_visit 59 = .ok (.invokevirtual 119, 3) := by decide +kernel
theorem dX4_visit_62 : decode cX4_visit 62 = .ok (.ifCond .ne 5, 3) := by decide +kernel
theorem dX4_visit_65 : decode cX4_visit 65 = .ok (.iconst 0, 1) := by decide +kernel
theorem dX4_visit_66 : decode cX4_visit 66 = .ok (.ireturn, 1) := by decide +kernel
theorem dX4_visit_67 : decode cX4_visit 67 = .ok (.aload_n 0, 1) := by decide +kernel
theorem dX4_visit_68 : decode cX4_visit 68 = .ok (.aload_n 2, 1) := by decide +kernel
theorem dX4_visit_69 : decode cX4_visit 69 = .ok (.aload_n 0, 1) := by decide +kernel
theorem dX4_visit_70 : decode cX4_visit 70 = .ok (.getfield 106, 3) := by decide +kernel
theorem dX4_visit_73 : decode cX4_visit 73 = .ok (.aload_n 0, 1) := by decide +kernel
theorem dX4_visit_74 : decode cX4_visit 74 = .ok (.getfield 103, 3) := by decide +kernel
theorem dX4_visit_77 : decode cX4_visit 77 = .ok (.aload_n 2, 1) := by decide +kernel
theorem dX4_visit_78 : decode cX4_visit 78 = .ok (.getfield 125, 3) := by decide +kernel
theorem dX4_visit_81 : decode cX4_visit 81 = .ok (.invokestatic 126, 3) := by decide +kernel
theorem dX4_visit_84 : decode cX4_visit 84 = .ok (.iadd, 1) := by decide +kernel
theorem dX4_visit_85 : decode cX4_visit 85 = .ok (.invokevirtual 129, 3) := by decide +kernel
theorem dX4_visit_88 : decode cX4_visit 88 = .ok (.putfield 106, 3) := by decide +kernel
theorem dX4_visit_91 : decode cX4_visit 91 = .ok (.aload_n 0, 1) := by decide +kernel
theorem dX4_visit_92 : decode cX4_visit 92 = .ok (.aload_n 2, 1) := by decide +kernel
theorem dX4_visit_93 : decode cX4_visit 93 = .ok (.getfield 125, 3) := by decide +kernel
theorem dX4_visit_96 : decode cX4_visit 96 = .ok (.putfield 103, 3) := by decide +kernel
theorem dX4_visit_99 : decode cX4_visit 99 = .ok (.aload_n 3, 1) := by decide +kernel
theorem dX4_visit_100 : decode cX4_visit 100 = .ok (.aload_n 0, 1) := by decide +kernel
theorem dX4_visit_101 : decode cX4_visit 101 = .ok (.getfield 100, 3) := by decide +kernel
theorem dX4_visit_104 : decode cX4_visit 104 = .ok (.aload_n 0, 1) := by decide +kernel
theorem dX4_visit_105 : decode cX4_visit 105 = .ok (.getfield 31, 3) := by decide +kernel
theorem dX4_visit_108 : decode cX4_visit 108 = .ok (.iconst 0, 1) := by decide +kernel
theorem dX4_visit_109 : decode cX4_visit 109 = .ok (.invokevirtual 71, 3) := by decide +kernel
theorem dX4_visit_112 : decode cX4_visit 112 = .ok (.invokevirtual 132, 3) := by decide +kernel
theorem dX4_visit_115 : decode cX4_visit 115 = .ok (.aload_n 0, 1) := by decide +kernel
theorem dX4_visit_116 : decode cX4_visit 116 = .ok (.dup, 1) := by decide +kernel
theorem dX4_visit_117 : decode cX4_visit 117 = .ok (.getfield 100, 3) := by decide +kernel
theorem dX4_visit_120 : decode cX4_visit 120 = .ok (.aload_n 3, 1) := by decide +kernel
theorem dX4_visit_121 : decode cX4_visit 121 = .ok (.getfield 135, 3) := by decide +kernel
theorem dX4_visit_124 : decode cX4_visit 124 = .ok (.iadd, 1) := by decide +kernel
theorem dX4_visit_125 : decode cX4_visit 125 = .ok (.putfield 100, 3) := by decide +kernel
theorem dX4_visit_128 : decode cX4_visit 128 = .ok (.aload_n 0, 1) := by decide +kernel
theorem dX4_visit_129 : decode cX4_visit 129 = .ok (.dup, 1) := by decide +kernel
theorem dX4_visit_130 : decode cX4_visit 130 = .ok (.getfield 106, 3) := by decide +kernel
theorem dX4_visit_133 : decode cX4_visit 133 = .ok (.aload_n 3, 1) := by decide +kernel
theorem dX4_visit_134 : decode cX4_visit 134 = .ok (.invokevirtual 138, 3) := by decide +kernel
theorem dX4_visit_137 : decode cX4_visit 137 = .ok (.iadd, 1) := by decide +kernel
theorem dX4_visit_138 : decode cX4_visit 138 = .ok (.putfield 106, 3) := by decide +kernel
theorem dX4_visit_141 : decode cX4_visit 141 = .ok (.aload_n 0, 1) := by decide +kernel
theorem dX4_visit_142 : decode cX4_visit 142 = .ok (.dup, 1) := by decide +kernel
theorem dX4_visit_143 : decode cX4_visit 143 = .ok (.getfield 112, 3) := by decide +kernel
theorem dX4_visit_146 : decode cX4_visit 146 = .ok (.aload_n 3, 1) := by decide +kernel
theorem dX4_visit_147 : decode cX4_visit 147 = .ok (.getfield 141, 3) := by decide +kernel
theorem dX4_visit_150 : decode cX4_visit 150 = .ok (.iadd, 1) := by decide +kernel
theorem dX4_visit_151 : decode cX4_visit 151 = .ok (.putfield 112, 3) := by decide +kernel
theorem dX4_visit_154 : decode cX4_visit 154 = .ok (.iconst 1, 1) := by decide +kernel
theorem dX4_visit_155 : decode cX4_visit 155 = .ok (.ireturn, 1) := by decide +kernel
theorem dX4_goTip_0 : decode cX4_goTip 0 = .ok (.aload_n 0, 1) := by decide +kernel
theorem dX4_goTip_1 : decode cX4_goTip 1 = .ok (.getfield 106, 3) := by decide +kernel
theorem dX4_goTip_4 : decode cX4_goTip 4 = .ok (.aload_n 0, 1) := by decide +kernel
theorem dX4_goTip_5 : decode cX4_goTip 5 = .ok (.getfield 103, 3) := by decide +kernel
theorem dX4_goTip_8 : decode cX4_goTip 8 = .ok (.aload_n 0, 1) := by decide +kernel
theorem dX4_goTip_9 : decode cX4_goTip 9 = .ok (.getfield 31, 3) := by decide +kernel
theorem dX4_goTip_12 : decode cX4_goTip 12 = .ok (.iconst 5, 1) := by decide +kernel
theorem dX4_goTip_13 : decode cX4_goTip 13 = .ok (.invokevirtual 71, 3) := by decide +kernel
theorem dX4_goTip_16 : decode cX4_goTip 16 = .ok (.invokestatic 126, 3) := by decide +kernel
theorem dX4_goTip_19 : decode cX4_goTip 19 = .ok (.iadd, 1) := by decide +kernel
theorem dX4_goTip_20 : decode cX4_goTip 20 = .ok (.istore_n 1, 1) := by decide +kernel
theorem dX4_goTip_21 : decode cX4_goTip 21 = .ok (.iload_n 1, 1) := by decide +kernel
theorem dX4_goTip_22 : decode cX4_goTip 22 = .ok (.bipush 60, 2) := by decide +kernel
theorem dX4_goTip_24 : decode cX4_goTip 24 = .ok (.idiv, 1) := by decide +kernel
theorem dX4_goTip_25 : decode cX4_goTip 25 = .ok (.aload_n 0, 1) := by decide +kernel
theorem dX4_goTip_26 : decode cX4_goTip 26 = .ok (.getfield 31, 3) := by decide +kernel
theorem dX4_goTip_29 : decode cX4_goTip 29 = .ok (.bipush 6, 2) := by decide +kernel
theorem dX4_goTip_31 : decode cX4_goTip 31 = .ok (.invokevirtual 71, 3) := by decide +kernel
theorem dX4_goTip_34 : decode cX4_goTip 34 = .ok (.if_icmp .le 5, 3) := by decide +kernel
theorem dX4_goTip_37 : decode cX4_goTip 37 = .ok (.iconst 0, 1) := by decide +kernel
theorem dX4_goTip_38 : decode cX4_goTip 38 = .ok (.ireturn, 1) := by decide +kernel
theorem dX4_goTip_39 : decode cX4_goTip 39 = .ok (.aload_n 0, 1) := by decide +kernel
theorem dX4_goTip_40 : decode cX4_goTip 40 = .ok (.iload_n 1, 1) := by decide +kernel
theorem dX4_goTip_41 : decode cX4_goTip 41 = .ok (.sipush 300, 3) := by decide +kernel
theorem dX4_goTip_44 : decode cX4_goTip 44 = .ok (.iadd, 1) := by decide +kernel
theorem dX4_goTip_45 : decode cX4_goTip 45 = .ok (.putfield 106, 3) := by decide +kernel
theorem dX4_goTip_48 : decode cX4_goTip 48 = .ok (.aload_n 0, 1) := by decide +kernel
theorem dX4_goTip_49 : decode cX4_goTip 49 = .ok (.aload_n 0, 1) := by decide +kernel
theorem dX4_goTip_50 : decode cX4_goTip 50 = .ok (.getfield 31, 3) := by decide +kernel
theorem dX4_goTip_53 : decode cX4_goTip 53 = .ok (.iconst 5, 1) := by decide +kernel
theorem dX4_goTip_54 : decode cX4_goTip 54 = .ok (.invokevirtual 71, 3) := by decide +kernel
theorem dX4_goTip_57 : decode cX4_goTip 57 = .ok (.putfield 103, 3) := by decide +kernel
theorem dX4_goTip_60 : decode cX4_goTip 60 = .ok (.aload_n 0, 1) := by decide +kernel
theorem dX4_goTip_61 : decode cX4_goTip 61 = .ok (.iconst 0, 1) := by decide +kernel
theorem dX4_goTip_62 : decode cX4_goTip 62 = .ok (.putfield 100, 3) := by decide +kernel
theorem dX4_goTip_65 : decode cX4_goTip 65 = .ok (.aload_n 0, 1) := by decide +kernel
theorem dX4_goTip_66 : decode cX4_goTip 66 = .ok (.dup, 1) := by decide +kernel
theorem dX4_goTip_67 : decode cX4_goTip 67 = .ok (.getfield 109, 3) := by decide +kernel
theorem dX4_goTip_70 : decode cX4_goTip 70 = .ok (.iconst 1, 1) := by decide +kernel
theorem dX4_goTip_71 : decode cX4_goTip 71 = .ok (.iadd, 1) := by decide +kernel
theorem dX4_goTip_72 : decode cX4_goTip 72 = .ok (.putfield 109, 3) := by decide +kernel
theorem dX4_goTip_75 : decode cX4_goTip 75 = .ok (.iconst 1, 1) := by decide +kernel
theorem dX4_goTip_76 : decode cX4_goTip 76 = .ok (.ireturn, 1) := by decide +kernel
theorem dX4_search_0 : decode cX4_search 0 = .ok (.aload_n 0, 1) := by decide +kernel
theorem dX4_search_1 : decode cX4_search 1 = .ok (.iload_n 1, 1) := by decide +kernel
theorem dX4_search_2 : decode cX4_search 2 = .ok (.putfield 142, 3) := by decide +kernel
theorem dX4_search_5 : decode cX4_search 5 = .ok (.aload_n 0, 1) := by decide +kernel
theorem dX4_search_6 : decode cX4_search 6 = .ok (.iload_n 2, 1) := by decide +kernel
theorem dX4_search_7 : decode cX4_search 7 = .ok (.putfield 145, 3) := by decide +kernel
theorem dX4_search_10 : decode cX4_search 10 = .ok (.aload_n 0, 1) := by decide +kernel
theorem dX4_search_11 : decode cX4_search 11 = .ok (.iconst (-1), 1) := by decide +kernel
theorem dX4_search_12 : decode cX4_search 12 = .ok (.putfield 148, 3) := by decide +kernel
theorem dX4_search_15 : decode cX4_search 15 = .ok (.aload_n 0, 1) := by decide +kernel
theorem dX4_search_16 : decode cX4_search 16 = .ok (.iconst 0, 1) := by decide +kernel
theorem dX4_search_17 : decode cX4_search 17 = .ok (.putfield 151, 3) := by decide +kernel
theorem dX4_search_20 : decode cX4_search 20 = .ok (.aload_n 0, 1) := by decide +kernel
theorem dX4_search_21 : decode cX4_search 21 = .ok (.iconst 0, 1) := by decide +kernel
theorem dX4_search_22 : decode cX4_search 22 = .ok (.iconst 0, 1) := by decide +kernel
theorem dX4_search_23 : decode cX4_search 23 = .ok (.invokevirtual 154, 3) := by decide +kernel
theorem dX4_search_26 : decode cX4_search 26 = .ok (.return_, 1) := by decide +kernel
theorem dX4_explore_0 : decode cX4_explore 0 = .ok (.aload_n 0, 1) := by decide +kernel
theorem dX4_explore_1 : decode cX4_explore 1 = .ok (.iload_n 1, 1) := by decide +kernel
theorem dX4_explore_2 : decode cX4_explore 2 = .ok (.iload_n 2, 1) := by decide +kernel
theorem dX4_explore_3 : decode cX4_explore 3 = .ok (.invokevirtual 157, 3) := by decide +kernel
theorem dX4_explore_6 : decode cX4_explore 6 = .ok (.iload_n 1, 1) := by decide +kernel
theorem dX4_explore_7 : decode cX4_explore 7 = .ok (.aload_n 0, 1) := by decide +kernel
theorem dX4_explore_8 : decode cX4_explore 8 = .ok (.getfield 21, 3) := by decide +kernel
theorem dX4_explore_11 : decode cX4_explore 11 = .ok (.arraylength, 1) := by decide +kernel
theorem dX4_explore_12 : decode cX4_explore 12 = .ok (.if_icmp .lt 4, 3) := by decide +kernel
theorem dX4_explore_15 : decode cX4_explore 15 = .ok (.return_, 1) := by decide +kernel
theorem dX4_explore_16 : decode cX4_explore 16 = .ok (.aload_n 0, 1) := by decide +kernel
theorem dX4_explore_17 : decode cX4_explore 17 = .ok (.getfield 100, 3) := by decide +kernel
theorem dX4_explore_20 : decode cX4_explore 20 = .ok (.istore_n 3, 1) := by decide +kernel
theorem dX4_explore_21 : decode cX4_explore 21 = .ok (.aload_n 0, 1) := by decide +kernel
theorem dX4_explore_22 : decode cX4_explore 22 = .ok (.getfield 103, 3) := by decide +kernel
theorem dX4_explore_25 : decode cX4_explore 25 = .ok (.istore 4, 2) := by decide +kernel
theorem dX4_explore_27 : decode cX4_explore 27 = .ok (.aload_n 0, 1) := by decide +kernel
theorem dX4_explore_28 : decode cX4_explore 28 = .ok (.getfield 106, 3) := by decide +kernel
theorem dX4_explore_31 : decode cX4_explore 31 = .ok (.istore 5, 2) := by decide +kernel
theorem dX4_explore_33 : decode cX4_explore 33 = .ok (.iconst 0, 1) := by decide +kernel
theorem dX4_explore_34 : decode cX4_explore 34 = .ok (.istore 6, 2) := by decide +kernel
theorem dX4_explore_36 : decode cX4_explore 36 = .ok (.iload 6, 2) := by decide +kernel
theorem dX4_explore_38 : decode cX4_explore 38 = .ok (.aload_n 0, 1) := by decide +kernel
theorem dX4_explore_39 : decode cX4_explore 39 = .ok (.getfield 27, 3) := by decide +kernel
theorem dX4_explore_42 : decode cX4_explore 42 = .ok (.getfield 68, 3) := by decide +kernel
theorem dX4_explore_45 : decode cX4_explore 45 = .ok (.if_icmp .ge 72, 3) := by decide +kernel
theorem dX4_explore_48 : decode cX4_explore 48 = .ok (.aload_n 0, 1) := by decide +kernel
theorem dX4_explore_49 : decode cX4_explore 49 = .ok (.getfield 142, 3) := by decide +kernel
theorem dX4_explore_52 : decode cX4_explore 52 = .ok (.iload_n 2, 1) := by decide +kernel
theorem dX4_explore_53 : decode cX4_explore 53 = .ok (.iconst (-1), 1) := by decide +kernel
theorem dX4_explore_54 : decode cX4_explore 54 = .ok (.ixor, 1) := by decide +kernel
theorem dX4_explore_55 : decode cX4_explore 55 = .ok (.iand, 1) := by decide +kernel
theorem dX4_explore_56 : decode cX4_explore 56 = .ok (.iconst 1, 1) := by decide +kernel
theorem dX4_explore_57 : decode cX4_explore 57 = .ok (.iload 6, 2) := by decide +kernel
theorem dX4_explore_59 : decode cX4_explore 59 = .ok (.ishl, 1) := by decide +kernel
theorem dX4_explore_60 : decode cX4_explore 60 = .ok (.iand, 1) := by decide +kernel
theorem dX4_explore_61 : decode cX4_explore 61 = .ok (.ifCond .eq 33, 3) := by decide +kernel
theorem dX4_explore_64 : decode cX4_explore 64 = .ok (.aload_n 0, 1) := by decide +kernel
theorem dX4_explore_65 : decode cX4_explore 65 = .ok (.iload 6, 2) := by decide +kernel
theorem dX4_explore_67 : decode cX4_explore 67 = .ok (.invokevirtual 115, 3) := by decide +kernel
theorem dX4_explore_70 : decode cX4_explore 70 = .ok (.ifCond .eq 24, 3) := by decide +kernel
theorem dX4_explore_73 : decode cX4_explore 73 = .ok (.aload_n 0, 1) := by decide +kernel
theorem dX4_explore_74 : decode cX4_explore 74 = .ok (.getfield 21, 3) := by decide +kernel
theorem dX4_explore_77 : decode cX4_explore 77 = .ok (.iload_n 1, 1) := by decide +kernel
theorem dX4_explore_78 : decode cX4_explore 78 = .ok (.iload 6, 2) := by decide +kernel
theorem dX4_explore_80 : decode cX4_explore 80 = .ok (.iastore, 1) := by decide +kernel
theorem dX4_explore_81 : decode cX4_explore 81 = .ok (.aload_n 0, 1) := by decide +kernel
theorem dX4_explore_82 : decode cX4_explore 82 = .ok (.iload_n 1, 1) := by decide +kernel
theorem dX4_explore_83 : decode cX4_explore 83 = .ok (.iconst 1, 1) := by decide +kernel
theorem dX4_explore_84 : decode cX4_explore 84 = .ok (.iadd, 1) := by decide +kernel
theorem dX4_explore_85 : decode cX4_explore 85 = .ok (.iload_n 2, 1) := by decide +kernel
theorem dX4_explore_86 : decode cX4_explore 86 = .ok (.iconst 1, 1) := by decide +kernel
theorem dX4_explore_87 : decode cX4_explore 87 = .ok (.iload 6, 2) := by decide +kernel
theorem dX4_explore_89 : decode cX4_explore 89 = .ok (.ishl, 1) := by decide +kernel
theorem dX4_explore_90 : decode cX4_explore 90 = .ok (.ior, 1) := by decide +kernel
theorem dX4_explore_91 : decode cX4_explore 91 = .ok (.invokevirtual 154, 3) := by decide +kernel
theorem dX4_explore_94 : decode cX4_explore 94 = .ok (.aload_n 0, 1) := by decide +kernel
theorem dX4_explore_95 : decode cX4_explore 95 = .ok (.iload_n 3, 1) := by decide +kernel
theorem dX4_explore_96 : decode cX4_explore 96 = .ok (.putfield 100, 3) := by decide +kernel
theorem dX4_explore_99 : decode cX4_explore 99 = .ok (.aload_n 0, 1) := by decide +kernel
theorem dX4_explore_100 : decode cX4_explore 100 = .ok (.iload 4, 2) := by decide +kernel
theorem dX4_explore_102 : decode cX4_explore 102 = .ok (.putfield 103, 3) := by decide +kernel
theorem dX4_explore_105 : decode cX4_explore 105 = .ok (.aload_n 0, 1) := by decide +kernel
theorem dX4_explore_106 : decode cX4_explore 106 = .ok (.iload 5, 2) := by decide +kernel
theorem dX4_explore_108 : decode cX4_explore 108 = .ok (.putfield 106, 3) := by decide +kernel
theorem dX4_explore_111 : decode cX4_explore 111 = .ok (.iinc 6 1, 3) := by decide +kernel
theorem dX4_explore_114 : decode cX4_explore 114 = .ok (.goto (-78), 3) := by decide +kernel
theorem dX4_explore_117 : decode cX4_explore 117 = .ok (.return_, 1) := by decide +kernel
theorem dX4_judge_0 : decode cX4_judge 0 = .ok (.aload_n 0, 1) := by decide +kernel
theorem dX4_judge_1 : decode cX4_judge 1 = .ok (.getfield 106, 3) := by decide +kernel
theorem dX4_judge_4 : decode cX4_judge 4 = .ok (.aload_n 0, 1) := by decide +kernel
theorem dX4_judge_5 : decode cX4_judge 5 = .ok (.getfield 103, 3) := by decide +kernel
theorem dX4_judge_8 : decode cX4_judge 8 = .ok (.aload_n 0, 1) := by decide +kernel
theorem dX4_judge_9 : decode cX4_judge 9 = .ok (.getfield 31, 3) := by decide +kernel
theorem dX4_judge_12 : decode cX4_judge 12 = .ok (.iconst 5, 1) := by decide +kernel
theorem dX4_judge_13 : decode cX4_judge 13 = .ok (.invokevirtual 71, 3) := by decide +kernel
theorem dX4_judge_16 : decode cX4_judge 16 = .ok (.invokestatic 126, 3) := by decide +kernel
theorem dX4_judge_19 : decode cX4_judge 19 = .ok (.iadd, 1) := by decide +kernel
theorem dX4_judge_20 : decode cX4_judge 20 = .ok (.istore_n 3, 1) := by decide +kernel
theorem dX4_judge_21 : decode cX4_judge 21 = .ok (.iload_n 2, 1) := by decide +kernel
theorem dX4_judge_22 : decode cX4_judge 22 = .ok (.ifCond .eq 19, 3) := by decide +kernel
theorem dX4_judge_25 : decode cX4_judge 25 = .ok (.iload_n 3, 1) := by decide +kernel
theorem dX4_judge_26 : decode cX4_judge 26 = .ok (.bipush 60, 2) := by decide +kernel
theorem dX4_judge_28 : decode cX4_judge 28 = .ok (.idiv, 1) := by decide +kernel
theorem dX4_judge_29 : decode cX4_judge 29 = .ok (.aload_n 0, 1) := by decide +kernel
theorem dX4_judge_30 : decode cX4_judge 30 = .ok (.getfield 31, 3) := by decide +kernel
theorem dX4_judge_33 : decode cX4_judge 33 = .ok (.bipush 6, 2) := by decide +kernel
theorem dX4_judge_35 : decode cX4_judge 35 = .ok (.invokevirtual 71, 3) := by decide +kernel
theorem dX4_judge_38 : decode cX4_judge 38 = .ok (.if_icmp .le 4, 3) := by decide +kernel
theorem dX4_judge_41 : decode cX4_judge 41 = .ok (.return_, 1) := by decide +kernel
theorem dX4_judge_42 : decode cX4_judge 42 = .ok (.iload_n 3, 1) := by decide +kernel
theorem dX4_judge_43 : decode cX4_judge 43 = .ok (.sipush 300, 3) := by decide +kernel
theorem dX4_judge_46 : decode cX4_judge 46 = .ok (.iadd, 1) := by decide +kernel
theorem dX4_judge_47 : decode cX4_judge 47 = .ok (.istore 4, 2) := by decide +kernel
theorem dX4_judge_49 : decode cX4_judge 49 = .ok (.iload_n 2, 1) := by decide +kernel
theorem dX4_judge_50 : decode cX4_judge 50 = .ok (.aload_n 0, 1) := by decide +kernel
theorem dX4_judge_51 : decode cX4_judge 51 = .ok (.getfield 142, 3) := by decide +kernel
theorem dX4_judge_54 : decode cX4_judge 54 = .ok (.if_icmp .ne 47, 3) := by decide +kernel
theorem dX4_judge_57 : decode cX4_judge 57 = .ok (.aload_n 0, 1) := by decide +kernel
theorem dX4_judge_58 : decode cX4_judge 58 = .ok (.getfield 148, 3) := by decide +kernel
theorem dX4_judge_61 : decode cX4_judge 61 = .ok (.ifCond .lt 12, 3) := by decide +kernel
theorem dX4_judge_64 : decode cX4_judge 64 = .ok (.iload 4, 2) := by decide +kernel
theorem dX4_judge_66 : decode cX4_judge 66 = .ok (.aload_n 0, 1) := by decide +kernel
theorem dX4_judge_67 : decode cX4_judge 67 = .ok (.getfield 148, 3) := by decide +kernel
theorem dX4_judge_70 : decode cX4_judge 70 = .ok (.if_icmp .ge 31, 3) := by decide +kernel
theorem dX4_judge_73 : decode cX4_judge 73 = .ok (.aload_n 0, 1) := by decide +kernel
theorem dX4_judge_74 : decode cX4_judge 74 = .ok (.iload 4, 2) := by decide +kernel
theorem dX4_judge_76 : decode cX4_judge 76 = .ok (.putfield 148, 3) := by decide +kernel
theorem dX4_judge_79 : decode cX4_judge 79 = .ok (.aload_n 0, 1) := by decide +kernel
theorem dX4_judge_80 : decode cX4_judge 80 = .ok (.getfield 21, 3) := by decide +kernel
theorem dX4_judge_83 : decode cX4_judge 83 = .ok (.iconst 0, 1) := by decide +kernel
theorem dX4_judge_84 : decode cX4_judge 84 = .ok (.aload_n 0, 1) := by decide +kernel
theorem dX4_judge_85 : decode cX4_judge 85 = .ok (.getfield 24, 3) := by decide +kernel
theorem dX4_judge_88 : decode cX4_judge 88 = .ok (.iconst 0, 1) := by decide +kernel
theorem dX4_judge_89 : decode cX4_judge 89 = .ok (.iload_n 1, 1) := by decide +kernel
theorem dX4_judge_90 : decode cX4_judge 90 = .ok (.aload_n 0, 1) := by decide +kernel
theorem dX4_judge_91 : decode cX4_judge 91 = .ok (.getfield 21, 3) := by decide +kernel
theorem dX4_judge_94 : decode cX4_judge 94 = .ok (.arraylength, 1) := by decide +kernel
theorem dX4_judge_95 : decode cX4_judge 95 = .ok (.invokestatic 94, 3) := by decide +kernel
theorem dX4_judge_98 : decode cX4_judge 98 = .ok (.invokestatic 160, 3) := by decide +kernel
theorem dX4_judge_101 : decode cX4_judge 101 = .ok (.iload_n 2, 1) := by decide +kernel
theorem dX4_judge_102 : decode cX4_judge 102 = .ok (.invokestatic 166, 3) := by decide +kernel
theorem dX4_judge_105 : decode cX4_judge 105 = .ok (.aload_n 0, 1) := by decide +kernel
theorem dX4_judge_106 : decode cX4_judge 106 = .ok (.getfield 151, 3) := by decide +kernel
theorem dX4_judge_109 : decode cX4_judge 109 = .ok (.invokestatic 166, 3) := by decide +kernel
theorem dX4_judge_112 : decode cX4_judge 112 = .ok (.isub, 1) := by decide +kernel
theorem dX4_judge_113 : decode cX4_judge 113 = .ok (.istore 5, 2) := by decide +kernel
theorem dX4_judge_115 : decode cX4_judge 115 = .ok (.iload 4, 2) := by decide +kernel
theorem dX4_judge_117 : decode cX4_judge 117 = .ok (.aload_n 0, 1) := by decide +kernel
theorem dX4_judge_118 : decode cX4_judge 118 = .ok (.getfield 145, 3) := by decide +kernel
theorem dX4_judge_121 : decode cX4_judge 121 = .ok (.if_icmp .gt 26, 3) := by decide +kernel
theorem dX4_judge_124 : decode cX4_judge 124 = .ok (.iload 5, 2) := by decide +kernel
theorem dX4_judge_126 : decode cX4_judge 126 = .ok (.ifCond .gt 16, 3) := by decide +kernel
theorem dX4_judge_129 : decode cX4_judge 129 = .ok (.iload 5, 2) := by decide +kernel
theorem dX4_judge_131 : decode cX4_judge 131 = .ok (.ifCond .ne 16, 3) := by decide +kernel
theorem dX4_judge_134 : decode cX4_judge 134 = .ok (.iload_n 2, 1) := by decide +kernel
theorem dX4_judge_135 : decode cX4_judge 135 = .ok (.aload_n 0, 1) := by decide +kernel
theorem dX4_judge_136 : decode cX4_judge 136 = .ok (.getfield 151, 3) := by decide +kernel
theorem dX4_judge_139 : decode cX4_judge 139 = .ok (.if_icmp .ge 8, 3) := by decide +kernel
theorem dX4_judge_142 : decode cX4_judge 142 = .ok (.aload_n 0, 1) := by decide +kernel
theorem dX4_judge_143 : decode cX4_judge 143 = .ok (.iload_n 2, 1) := by decide +kernel
theorem dX4_judge_144 : decode cX4_judge 144 = .ok (.putfield 151, 3) := by decide +kernel
theorem dX4_judge_147 : decode cX4_judge 147 = .ok (.return_, 1) := by decide +kernel
theorem dX4_soonestAt_0 : decode cX4_soonestAt 0 = .ok (.iload_n 1, 1) := by decide +kernel
theorem dX4_soonestAt_1 : decode cX4_soonestAt 1 = .ok (.ifCond .lt 21, 3) := by decide +kernel
theorem dX4_soonestAt_4 : decode cX4_soonestAt 4 = .ok (.iload_n 1, 1) := by decide +kernel
theorem dX4_soonestAt_5 : decode cX4_soonestAt 5 = .ok (.aload_n 0, 1) := by decide +kernel
theorem dX4_soonestAt_6 : decode cX4_soonestAt 6 = .ok (.getfield 24, 3) := by decide +kernel
theorem dX4_soonestAt_9 : decode cX4_soonestAt 9 = .ok (.arraylength, 1) := by decide +kernel
theorem dX4_soonestAt_10 : decode cX4_soonestAt 10 = .ok (.if_icmp .ge 12, 3) := by decide +kernel
theorem dX4_soonestAt_13 : decode cX4_soonestAt 13 = .ok (.aload_n 0, 1) := by decide +kernel
theorem dX4_soonestAt_14 : decode cX4_soonestAt 14 = .ok (.getfield 24, 3) := by decide +kernel
theorem dX4_soonestAt_17 : decode cX4_soonestAt 17 = .ok (.iload_n 1, 1) := by decide +kernel
theorem dX4_soonestAt_18 : decode cX4_soonestAt 18 = .ok (.iaload, 1) := by decide +kernel
theorem dX4_soonestAt_19 : decode cX4_soonestAt 19 = .ok (.goto 4, 3) := by decide +kernel
theorem dX4_soonestAt_22 : decode cX4_soonestAt 22 = .ok (.iconst (-1), 1) := by decide +kernel
theorem dX4_soonestAt_23 : decode cX4_soonestAt 23 = .ok (.ireturn, 1) := by decide +kernel
theorem dX5_init_0 : decode cX5_init 0 = .ok (.aload_n 0, 1) := by decide +kernel
theorem dX5_init_1 : decode cX5_init 1 = .ok (.invokespecial 3, 3) := by decide +kernel
theorem dX5_init_4 : decode cX5_init 4 = .ok (.aload_n 0, 1) := by decide +kernel
theorem dX5_init_5 : decode cX5_init 5 = .ok (.bipush 40, 2) := by decide +kernel
theorem dX5_init_7 : decode cX5_init 7 = .ok (.newarray .int, 2) := by decide +kernel
theorem dX5_init_9 : decode cX5_init 9 = .ok (.putfield 9, 3) := by decide +kernel
theorem dX5_init_12 : decode cX5_init 12 = .ok (.aload_n 0, 1) := by decide +kernel
theorem dX5_init_13 : decode cX5_init 13 = .ok (.bipush 40, 2) := by decide +kernel
theorem dX5_init_15 : decode cX5_init 15 = .ok (.newarray .int, 2) := by decide +kernel
theorem dX5_init_17 : decode cX5_init 17 = .ok (.putfield 15, 3) := by decide +kernel
theorem dX5_init_20 : decode cX5_init 20 = .ok (.aload_n 0, 1) := by decide +kernel
theorem dX5_init_21 : decode cX5_init 21 = .ok (.bipush 40, 2) := by decide +kernel
theorem dX5_init_23 : decode cX5_init 23 = .ok (.newarray .int, 2) := by decide +kernel
theorem dX5_init_25 : decode cX5_init 25 = .ok (.putfield 18, 3) := by decide +kernel
theorem dX5_init_28 : decode cX5_init 28 = .ok (.return_, 1) := by decide +kernel
theorem dX5_read_0 : decode cX5_read 0 = .ok (.aload_n 1, 1) := by decide +kernel
theorem dX5_read_1 : decode cX5_read 1 = .ok (.bipush 40, 2) := by decide +kernel
theorem dX5_read_3 : decode cX5_read 3 = .ok (.invokevirtual 21, 3) := by decide +kernel
theorem dX5_read_6 : decode cX5_read 6 = .ok (.aload_n 0, 1) := by decide +kernel
theorem dX5_read_7 : decode cX5_read 7 = .ok (.iconst 0, 1) := by decide +kernel
theorem dX5_read_8 : decode cX5_read 8 = .ok (.putfield 27, 3) := by decide +kernel
theorem dX5_read_11 : decode cX5_read 11 = .ok (.aload_n 1, 1) := by decide +kernel
theorem dX5_read_12 : decode cX5_read 12 = .ok (.invokevirtual 31, 3) := by decide +kernel
theorem dX5_read_15 : decode cX5_read 15 = .ok (.ifCond .ne 24, 3) := by decide +kernel
theorem dX5_read_18 : decode cX5_read 18 = .ok (.aload_n 0, 1) := by decide +kernel
theorem dX5_read_19 : decode cX5_read 19 = .ok (.aload_n 1, 1) := by decide +kernel
theorem dX5_read_20 : decode cX5_read 20 = .ok (.iconst 0, 1) := by decide +kernel
theorem dX5_read_21 : decode cX5_read 21 = .ok (.invokevirtual 35, 3) := by decide +kernel
theorem dX5_read_24 : decode cX5_read 24 = .ok (.ifCond .eq 10, 3) := by decide +kernel
theorem dX5_read_27 : decode cX5_read 27 = .ok (.aload_n 1, 1) := by decide +kernel
theorem dX5_read_28 : decode cX5_read 28 = .ok (.invokevirtual 31, 3) := by decide +kernel
theorem dX5_read_31 : decode cX5_read 31 = .ok (.ifCond .ne 8, 3) := by decide +kernel
theorem dX5_read_34 : decode cX5_read 34 = .ok (.aload_n 1, 1) := by decide +kernel
theorem dX5_read_35 : decode cX5_read 35 = .ok (.invokevirtual 39, 3) := by decide +kernel
theorem dX5_read_38 : decode cX5_read 38 = .ok (.ireturn, 1) := by decide +kernel
theorem dX5_read_39 : decode cX5_read 39 = .ok (.aload_n 0, 1) := by decide +kernel
theorem dX5_read_40 : decode cX5_read 40 = .ok (.getfield 9, 3) := by decide +kernel
theorem dX5_read_43 : decode cX5_read 43 = .ok (.astore_n 2, 1) := by decide +kernel
theorem dX5_read_44 : decode cX5_read 44 = .ok (.aload_n 0, 1) := by decide +kernel
theorem dX5_read_45 : decode cX5_read 45 = .ok (.aload_n 0, 1) := by decide +kernel
theorem dX5_read_46 : decode cX5_read 46 = .ok (.getfield 15, 3) := by decide +kernel
theorem dX5_read_49 : decode cX5_read 49 = .ok (.putfield 9, 3) := by decide +kernel
theorem dX5_read_52 : decode cX5_read 52 = .ok (.aload_n 0, 1) := by decide +kernel
theorem dX5_read_53 : decode cX5_read 53 = .ok (.aload_n 0, 1) := by decide +kernel
theorem dX5_read_54 : decode cX5_read 54 = .ok (.getfield 27, 3) := by decide +kernel
theorem dX5_read_57 : decode cX5_read 57 = .ok (.putfield 43, 3) := by decide +kernel
theorem dX5_read_60 : decode cX5_read 60 = .ok (.aload_n 0, 1) := by decide +kernel
theorem dX5_read_61 : decode cX5_read 61 = .ok (.aload_n 2, 1) := by decide +kernel
theorem dX5_read_62 : decode cX5_read 62 = .ok (.putfield 15, 3) := by decide +kernel
theorem dX5_read_65 : decode cX5_read 65 = .ok (.iconst 0, 1) := by decide +kernel
theorem dX5_read_66 : decode cX5_read 66 = .ok (.ireturn, 1) := by decide +kernel
theorem dX5_readComparison_0 : decode cX5_readComparison 0 = .ok (.aload_n 0, 1) := by decide +kernel
theorem dX5_readComparison_1 : decode cX5_readComparison 1 = .ok (.aload_n 1, 1) := by decide +kernel
theorem dX5_readComparison_2 : decode cX5_readComparison 2 = .ok (.iload_n 2, 1) := by decide +kernel
theorem dX5_readComparison_3 : decode cX5_readComparison 3 = .ok (.invokevirtual 46, 3) := by decide +kernel
theorem dX5_readComparison_6 : decode cX5_readComparison 6 = .ok (.ifCond .ne 5, 3) := by decide +kernel
theorem dX5_readComparison_9 : decode cX5_readComparison 9 = .ok (.iconst 0, 1) := by decide +kernel
theorem dX5_readComparison_10 : decode cX5_readComparison 10 = .ok (.ireturn, 1) := by decide +kernel
theorem dX5_readComparison_11 : decode cX5_readComparison 11 = .ok (.aload_n 1, 1) := by decide +kernel
theorem dX5_readComparison_12 : decode cX5_readComparison 12 = .ok (.invokevirtual 49, 3) := by decide +kernel
theorem dX5_readComparison_15 : decode cX5_readComparison 15 = .ok (.istore_n 3, 1) := by decide +kernel
theorem dX5_readComparison_16 : decode cX5_readComparison 16 = .ok (.iload_n 3, 1) := by decide +kernel
theorem dX5_readComparison_17 : decode cX5_readComparison 17 = .ok (.bipush 60, 2) := by decide +kernel
theorem dX5_readComparison_19 : decode cX5_readComparison 19 = .ok (.if_icmp .eq 17, 3) := by decide +kernel
theorem dX5_readComparison_22 : decode cX5_readComparison 22 = .ok (.iload_n 3, 1) := by decide +kernel
theorem dX5_readComparison_23 : decode cX5_readComparison 23 = .ok (.bipush 62, 2) := by decide +kernel
theorem dX5_readComparison_25 : decode cX5_readComparison 25 = .ok (.if_icmp .eq 11, 3) := by decide +kernel
theorem dX5_readComparison_28 : decode cX5_readComparison 28 = .ok (.iload_n 3, 1) := by decide +kernel
theorem dX5_readComparison_29 : decode cX5_readComparison 29 = .ok (.bipush 61, 2) := by decide +kernel
theorem dX5_readComparison_31 : decode cX5_readComparison 31 = .ok (.if_icmp .eq 5, 3) := by decide +kernel
theorem dX5_readComparison_34 : decode cX5_readComparison 34 = .ok (.iconst 1, 1) := by decide +kernel
theorem dX5_readComparison_35 : decode cX5_readComparison 35 = .ok (.ireturn, 1) := by decide +kernel
theorem dX5_readComparison_36 : decode cX5_readComparison 36 = .ok (.aload_n 1, 1) := by decide +kernel
theorem dX5_readComparison_37 : decode cX5_readComparison 37 = .ok (.invokevirtual 52, 3) := by decide +kernel
theorem dX5_readComparison_40 : decode cX5_readComparison 40 = .ok (.aload_n 0, 1) := by decide +kernel
theorem dX5_readComparison_41 : decode cX5_readComparison 41 = .ok (.aload_n 1, 1) := by decide +kernel
theorem dX5_readComparison_42 : decode cX5_readComparison 42 = .ok (.iload_n 2, 1) := by decide +kernel
theorem dX5_readComparison_43 : decode cX5_readComparison 43 = .ok (.invokevirtual 46, 3) := by decide +kernel
theorem dX5_readComparison_46 : decode cX5_readComparison 46 = .ok (.ifCond .eq 18, 3) := by decide +kernel
theorem dX5_readComparison_49 : decode cX5_readComparison 49 = .ok (.aload_n 0, 1) := by decide +kernel
theorem dX5_readComparison_50 : decode cX5_readComparison 50 = .ok (.bipush (-100), 2) := by decide +kernel
theorem dX5_readComparison_52 : decode cX5_readComparison 52 = .ok (.iload_n 3, 1) := by decide +kernel
theorem dX5_readComparison_53 : decode cX5_readComparison 53 = .ok (.isub, 1) := by decide +kernel
theorem dX5_readComparison_54 : decode cX5_readComparison 54 = .ok (.invokevirtual 55, 3) := by decide +kernel
theorem dX5_readComparison_57 : decode cX5_readComparison 57 = .ok (.ifCond .eq 7, 3) := by decide +kernel
theorem dX5_readComparison_60 : decode cX5_readComparison 60 = .ok (.iconst 1, 1) := by decide +kernel
theorem dX5_readComparison_61 : decode cX5_readComparison 61 = .ok (.goto 4, 3) := by decide +kernel
theorem dX5_readComparison_64 : decode cX5_readComparison 64 = .ok (.iconst 0, 1) := by decide +kernel
theorem dX5_readComparison_65 : decode cX5_readComparison 65 = .ok (.ireturn, 1) := by decide +kernel
theorem dX5_readSum_0 : decode cX5_readSum 0 = .ok (.aload_n 0, 1) := by decide +kernel
theorem dX5_readSum_1 : decode cX5_readSum 1 = .ok (.aload_n 1, 1) := by decide +kernel
theorem dX5_readSum_2 : decode cX5_readSum 2 = .ok (.iload_n 2, 1) := by decide +kernel
theorem dX5_readSum_3 : decode cX5_readSum 3 = .ok (.invokevirtual 59, 3) := by decide +kernel
theorem dX5_readSum_6 : decode cX5_readSum 6 = .ok (.istore_n 3, 1) := by decide +kernel
theorem dX5_readSum_7 : decode cX5_readSum 7 = .ok (.iconst 0, 1) := by decide +kernel
theorem dX5_readSum_8 : decode cX5_readSum 8 = .ok (.istore 4, 2) := by decide +kernel
theorem dX5_readSum_10 : decode cX5_readSum 10 = .ok (.iload 4, 2) := by decide +kernel
theorem dX5_readSum_12 : decode cX5_readSum 12 = .ok (.bipush 40, 2) := by decide +kernel
theorem dX5_readSum_14 : decode cX5_readSum 14 = .ok (.if_icmp .ge 66, 3) := by decide +kernel
theorem dX5_readSum_17 : decode cX5_readSum 17 = .ok (.iload_n 3, 1) := by decide +kernel
theorem dX5_readSum_18 : decode cX5_readSum 18 = .ok (.ifCond .eq 62, 3) := by decide +kernel
theorem dX5_readSum_21 : decode cX5_readSum 21 = .ok (.aload_n 1, 1) := by decide +kernel
theorem dX5_readSum_22 : decode cX5_readSum 22 = .ok (.invokevirtual 49, 3) := by decide +kernel
theorem dX5_readSum_25 : decode cX5_readSum 25 = .ok (.istore 5, 2) := by decide +kernel
theorem dX5_readSum_27 : decode cX5_readSum 27 = .ok (.iload 5, 2) := by decide +kernel
theorem dX5_readSum_29 : decode cX5_readSum 29 = .ok (.bipush 43, 2) := by decide +kernel
theorem dX5_readSum_31 : decode cX5_readSum 31 = .ok (.if_icmp .eq 12, 3) := by decide +kernel
theorem dX5_readSum_34 : decode cX5_readSum 34 = .ok (.iload 5, 2) := by decide +kernel
theorem dX5_readSum_36 : decode cX5_readSum 36 = .ok (.bipush 45, 2) := by decide +kernel
theorem dX5_readSum_38 : decode cX5_readSum 38 = .ok (.if_icmp .eq 5, 3) := by decide +kernel
theorem dX5_readSum_41 : decode cX5_readSum 41 = .ok (.iconst 1, 1) := by decide +kernel
theorem dX5_readSum_42 : decode cX5_readSum 42 = .ok (.ireturn, 1) := by decide +kernel
theorem dX5_readSum_43 : decode cX5_readSum 43 = .ok (.aload_n 1, 1) := by decide +kernel
theorem dX5_readSum_44 : decode cX5_readSum 44 = .ok (.invokevirtual 52, 3) := by decide +kernel
theorem dX5_readSum_47 : decode cX5_readSum 47 = .ok (.aload_n 0, 1) := by decide +kernel
theorem dX5_readSum_48 : decode cX5_readSum 48 = .ok (.aload_n 1, 1) := by decide +kernel
theorem dX5_readSum_49 : decode cX5_readSum 49 = .ok (.iload_n 2, 1) := by decide +kernel
theorem dX5_readSum_50 : decode cX5_readSum 50 = .ok (.invokevirtual 59, 3) := by decide +kernel
theorem dX5_readSum_53 : decode cX5_readSum 53 = .ok (.ifCond .eq 19, 3) := by decide +kernel
theorem dX5_readSum_56 : decode cX5_readSum 56 = .ok (.aload_n 0, 1) := by decide +kernel
theorem dX5_readSum_57 : decode cX5_readSum 57 = .ok (.bipush (-100), 2) := by decide +kernel
theorem dX5_readSum_59 : decode cX5_readSum 59 = .ok (.iload 5, 2) := by decide +kernel
theorem dX5_readSum_61 : decode cX5_readSum 61 = .ok (.isub, 1) := by decide +kernel
theorem dX5_readSum_62 : decode cX5_readSum 62 = .ok (.invokevirtual 55, 3) := by decide +kernel
theorem dX5_readSum_65 : decode cX5_readSum 65 = .ok (.ifCond .eq 7, 3) := by decide +kernel
theorem dX5_readSum_68 : decode cX5_readSum 68 = .ok (.iconst 1, 1) := by decide +kernel
theorem dX5_readSum_69 : decode cX5_readSum 69 = .ok (.goto 4, 3) := by decide +kernel
theorem dX5_readSum_72 : decode cX5_readSum 72 = .ok (.iconst 0, 1) := by decide +kernel
theorem dX5_readSum_73 : decode cX5_readSum 73 = .ok (.istore_n 3, 1) := by decide +kernel
theorem dX5_readSum_74 : decode cX5_readSum 74 = .ok (.iinc 4 1, 3) := by decide +kernel
theorem dX5_readSum_77 : decode cX5_readSum 77 = .ok (.goto (-67), 3) := by decide +kernel
theorem dX5_readSum_80 : decode cX5_readSum 80 = .ok (.iload_n 3, 1) := by decide +kernel
theorem dX5_readSum_81 : decode cX5_readSum 81 = .ok (.ireturn, 1) := by decide +kernel
theorem dX5_readProduct_0 : decode cX5_readProduct 0 = .ok (.aload_n 0, 1) := by decide +kernel
theorem dX5_readProduct_1 : decode cX5_readProduct 1 = .ok (.aload_n 1, 1) := by decide +kernel
theorem dX5_readProduct_2 : decode cX5_readProduct 2 = .ok (.iload_n 2, 1) := by decide +kernel
theorem dX5_readProduct_3 : decode cX5_readProduct 3 = .ok (.invokevirtual 62, 3) := by decide +kernel
theorem dX5_readProduct_6 : decode cX5_readProduct 6 = .ok (.istore_n 3, 1) := by decide +kernel
theorem dX5_readProduct_7 : decode cX5_readProduct 7 = .ok (.iconst 0, 1) := by decide +kernel
theorem dX5_readProduct_8 : decode cX5_readProduct 8 = .ok (.istore 4, 2) := by decide +kernel
theorem dX5_readProduct_10 : decode cX5_readProduct 10 = .ok (.iload 4, 2) := by decide +kernel
theorem dX5_readProduct_12 : decode cX5_readProduct 12 = .ok (.bipush 40, 2) := by decide +kernel
theorem dX5_readProduct_14 : decode cX5_readProduct 14 = .ok (.if_icmp .ge 66, 3) := by decide +kernel
theorem dX5_readProduct_17 : decode cX5_readProduct 17 = .ok (.iload_n 3, 1) := by decide +kernel
theorem dX5_readProduct_18 : decode cX5_readProduct 18 = .ok (.ifCond .eq 62, 3) := by decide +kernel
theorem dX5_readProduct_21 : decode cX5_readProduct 21 = .ok (.aload_n 1, 1) := by decide +kernel
theorem dX5_readProduct_22 : decode cX5_readProduct 22 = .ok (.invokevirtual 49, 3) := by decide +kernel
theorem dX5_readProduct_25 : decode cX5_readProduct 25 = .ok (.istore 5, 2) := by decide +kernel
theorem dX5_readProduct_27 : decode cX5_readProduct 27 = .ok (.iload 5, 2) := by decide +kernel
theorem dX5_readProduct_29 : decode cX5_readProduct 29 = .ok (.bipush 42, 2) := by decide +kernel
theorem dX5_readProduct_31 : decode cX5_readProduct 31 = .ok (.if_icmp .eq 12, 3) := by decide +kernel
theorem dX5_readProduct_34 : decode cX5_readProduct 34 = .ok (.iload 5, 2) := by decide +kernel
theorem dX5_readProduct_36 : decode cX5_readProduct 36 = .ok (.bipush 47, 2) := by decide +kernel
theorem dX5_readProduct_38 : decode cX5_readProduct 38 = .ok (.if_icmp .eq 5, 3) := by decide +kernel
theorem dX5_readProduct_41 : decode cX5_readProduct 41 = .ok (.iconst 1, 1) := by decide +kernel
theorem dX5_readProduct_42 : decode cX5_readProduct 42 = .ok (.ireturn, 1) := by decide +kernel
theorem dX5_readProduct_43 : decode cX5_readProduct 43 = .ok (.aload_n 1, 1) := by decide +kernel
theorem dX5_readProduct_44 : decode cX5_readProduct 44 = .ok (.invokevirtual 52, 3) := by decide +kernel
theorem dX5_readProduct_47 : decode cX5_readProduct 47 = .ok (.aload_n 0, 1) := by decide +kernel
theorem dX5_readProduct_48 : decode cX5_readProduct 48 = .ok (.aload_n 1, 1) := by decide +kernel
theorem dX5_readProduct_49 : decode cX5_readProduct 49 = .ok (.iload_n 2, 1) := by decide +kernel
theorem dX5_readProduct_50 : decode cX5_readProduct 50 = .ok (.invokevirtual 62, 3) := by decide +kernel
theorem dX5_readProduct_53 : decode cX5_readProduct 53 = .ok (.ifCond .eq 19, 3) := by decide +kernel
theorem dX5_readProduct_56 : decode cX5_readProduct 56 = .ok (.aload_n 0, 1) := by decide +kernel
theorem dX5_readProduct_57 : decode cX5_readProduct 57 = .ok (.bipush (-100), 2) := by decide +kernel
theorem dX5_readProduct_59 : decode cX5_readProduct 59 = .ok (.iload 5, 2) := by decide +kernel
theorem dX5_readProduct_61 : decode cX5_readProduct 61 = .ok (.isub, 1) := by decide +kernel
theorem dX5_readProduct_62 : decode cX5_readProduct 62 = .ok (.invokevirtual 55, 3) := by decide +kernel
theorem dX5_readProduct_65 : decode cX5_readProduct 65 = .ok (.ifCond .eq 7, 3) := by decide +kernel
theorem dX5_readProduct_68 : decode cX5_readProduct 68 = .ok (.iconst 1, 1) := by decide +kernel
theorem dX5_readProduct_69 : decode cX5_readProduct 69 = .ok (.goto 4, 3) := by decide +kernel
theorem dX5_readProduct_72 : decode cX5_readProduct 72 = .ok (.iconst 0, 1) := by decide +kernel
theorem dX5_readProduct_73 : decode cX5_readProduct 73 = .ok (.istore_n 3, 1) := by decide +kernel
theorem dX5_readProduct_74 : decode cX5_readProduct 74 = .ok (.iinc 4 1, 3) := by decide +kernel
theorem dX5_readProduct_77 : decode cX5_readProduct 77 = .ok (.goto (-67), 3) := by decide +kernel
theorem dX5_readProduct_80 : decode cX5_readProduct 80 = .ok (.iload_n 3, 1) := by decide +kernel
theorem dX5_readProduct_81 : decode cX5_readProduct 81 = .ok (.ireturn, 1) := by decide +kernel
theorem dX5_readThing_0 : decode cX5_readThing 0 = .ok (.iconst 0, 1) := by decide +kernel
theorem dX5_readThing_1 : decode cX5_readThing 1 = .ok (.istore_n 3, 1) := by decide +kernel
theorem dX5_readThing_2 : decode cX5_readThing 2 = .ok (.iconst 0, 1) := by decide +kernel
theorem dX5_readThing_3 : decode cX5_readThing 3 = .ok (.istore 4, 2) := by decide +kernel
theorem dX5_readThing_5 : decode cX5_readThing 5 = .ok (.iload 4, 2) := by decide +kernel
theorem dX5_readThing_7 : decode cX5_readThing 7 = .ok (.bipush 40, 2) := by decide +kernel
theorem dX5_readThing_9 : decode cX5_readThing 9 = .ok (.if_icmp .ge 28, 3) := by decide +kernel
theorem dX5_readThing_12 : decode cX5_readThing 12 = .ok (.aload_n 1, 1) := by decide +kernel
theorem dX5_readThing_13 : decode cX5_readThing 13 = .ok (.bipush 45, 2) := by decide +kernel
theorem dX5_readThing_15 : decode cX5_readThing 15 = .ok (.invokevirtual 65, 3) := by decide +kernel
theorem dX5_readThing_18 : decode cX5_readThing 18 = .ok (.ifCond .eq 19, 3) := by decide +kernel
theorem dX5_readThing_21 : decode cX5_readThing 21 = .ok (.iload_n 3, 1) := by decide +kernel
theorem dX5_readThing_22 : decode cX5_readThing 22 = .ok (.ifCond .ne 7, 3) := by decide +kernel
theorem dX5_readThing_25 : decode cX5_readThing 25 = .ok (.iconst 1, 1) := by decide +kernel
theorem dX5_readThing_26 : decode cX5_readThing 26 = .ok (.goto 4, 3) := by decide +kernel
theorem dX5_readThing_29 : decode cX5_readThing 29 = .ok (.iconst 0, 1) := by decide +kernel
theorem dX5_readThing_30 : decode cX5_readThing 30 = .ok (.istore_n 3, 1) := by decide +kernel
theorem dX5_readThing_31 : decode cX5_readThing 31 = .ok (.iinc 4 1, 3) := by decide +kernel
theorem dX5_readThing_34 : decode cX5_readThing 34 = .ok (.goto (-29), 3) := by decide +kernel
theorem dX5_readThing_37 : decode cX5_readThing 37 = .ok (.aload_n 1, 1) := by decide +kernel
theorem dX5_readThing_38 : decode cX5_readThing 38 = .ok (.iconst 3, 1) := by decide +kernel
theorem dX5_readThing_39 : decode cX5_readThing 39 = .ok (.invokevirtual 69, 3) := by decide +kernel
theorem dX5_readThing_42 : decode cX5_readThing 42 = .ok (.istore 4, 2) := by decide +kernel
theorem dX5_readThing_44 : decode cX5_readThing 44 = .ok (.iload 4, 2) := by decide +kernel
theorem dX5_readThing_46 : decode cX5_readThing 46 = .ok (.ifCond .lt 14, 3) := by decide +kernel
theorem dX5_readThing_49 : decode cX5_readThing 49 = .ok (.aload_n 0, 1) := by decide +kernel
theorem dX5_readThing_50 : decode cX5_readThing 50 = .ok (.iload 4, 2) := by decide +kernel
theorem dX5_readThing_52 : decode cX5_readThing 52 = .ok (.invokevirtual 55, 3) := by decide +kernel
theorem dX5_readThing_55 : decode cX5_readThing 55 = .ok (.istore 5, 2) := by decide +kernel
theorem dX5_readThing_57 : decode cX5_readThing 57 = .ok (.goto 58, 3) := by decide +kernel
theorem dX5_readThing_60 : decode cX5_readThing 60 = .ok (.aload_n 1, 1) := by decide +kernel
theorem dX5_readThing_61 : decode cX5_readThing 61 = .ok (.invokevirtual 49, 3) := by decide +kernel
theorem dX5_readThing_64 : decode cX5_readThing 64 = .ok (.bipush 40, 2) := by decide +kernel
theorem dX5_readThing_66 : decode cX5_readThing 66 = .ok (.if_icmp .ne 42, 3) := by decide +kernel
theorem dX5_readThing_69 : decode cX5_readThing 69 = .ok (.iload_n 2, 1) := by decide +kernel
theorem dX5_readThing_70 : decode cX5_readThing 70 = .ok (.iconst 4, 1) := by decide +kernel
theorem dX5_readThing_71 : decode cX5_readThing 71 = .ok (.if_icmp .ge 37, 3) := by decide +kernel
theorem dX5_readThing_74 : decode cX5_readThing 74 = .ok (.aload_n 1, 1) := by decide +kernel
theorem dX5_readThing_75 : decode cX5_readThing 75 = .ok (.invokevirtual 52, 3) := by decide +kernel
theorem dX5_readThing_78 : decode cX5_readThing 78 = .ok (.aload_n 0, 1) := by decide +kernel
theorem dX5_readThing_79 : decode cX5_readThing 79 = .ok (.aload_n 1, 1) := by decide +kernel
theorem dX5_readThing_80 : decode cX5_readThing 80 = .ok (.iload_n 2, 1) := by decide +kernel
theorem dX5_readThing_81 : decode cX5_readThing 81 = .ok (.iconst 1, 1) := by decide +kernel
theorem dX5_readThing_82 : decode cX5_readThing 82 = .ok (.iadd, 1) := by decide +kernel
theorem dX5_readThing_83 : decode cX5_readThing 83 = .ok (.invokevirtual 35, 3) := by decide +kernel
theorem dX5_readThing_86 : decode cX5_readThing 86 = .ok (.ifCond .eq 16, 3) := by decide +kernel
theorem dX5_readThing_89 : decode cX5_readThing 89 = .ok (.aload_n 1, 1) := by decide +kernel
theorem dX5_readThing_90 : decode cX5_readThing 90 = .ok (.bipush 41, 2) := by decide +kernel
theorem dX5_readThing_92 : decode cX5_readThing 92 = .ok (.invokevirtual 65, 3) := by decide +kernel
theorem dX5_readThing_95 : decode cX5_readThing 95 = .ok (.ifCond .eq 7, 3) := by decide +kernel
theorem dX5_readThing_98 : decode cX5_readThing 98 = .ok (.iconst 1, 1) := by decide +kernel
theorem dX5_readThing_99 : decode cX5_readThing 99 = .ok (.goto 4, 3) := by decide +kernel
theorem dX5_readThing_102 : decode cX5_readThing 102 = .ok (.iconst 0, 1) := by decide +kernel
theorem dX5_readThing_103 : decode cX5_readThing 103 = .ok (.istore 5, 2) := by decide +kernel
theorem dX5_readThing_105 : decode cX5_readThing 105 = .ok (.goto 10, 3) := by decide +kernel
theorem dX5_readThing_108 : decode cX5_readThing 108 = .ok (.aload_n 0, 1) := by decide +kernel
theorem dX5_readThing_109 : decode cX5_readThing 109 = .ok (.aload_n 1, 1) := by decide +kernel
theorem dX5_readThing_110 : decode cX5_readThing 110 = .ok (.invokevirtual 73, 3) := by decide +kernel
theorem dX5_readThing_113 : decode cX5_readThing 113 = .ok (.istore 5, 2) := by decide +kernel
theorem dX5_readThing_115 : decode cX5_readThing 115 = .ok (.iload 5, 2) := by decide +kernel
theorem dX5_readThing_117 : decode cX5_readThing 117 = .ok (.ifCond .eq 20, 3) := by decide +kernel
theorem dX5_readThing_120 : decode cX5_readThing 120 = .ok (.iload_n 3, 1) := by decide +kernel
theorem dX5_readThing_121 : decode cX5_readThing 121 = .ok (.ifCond .eq 12, 3) := by decide +kernel
theorem dX5_readThing_124 : decode cX5_readThing 124 = .ok (.aload_n 0, 1) := by decide +kernel
theorem dX5_readThing_125 : decode cX5_readThing 125 = .ok (.bipush (-20), 2) := by decide +kernel
theorem dX5_readThing_127 : decode cX5_readThing 127 = .ok (.invokevirtual 55, 3) := by decide +kernel
theorem dX5_readThing_130 : decode cX5_readThing 130 = .ok (.ifCond .eq 7, 3) := by decide +kernel
theorem dX5_readThing_133 : decode cX5_readThing 133 = .ok (.iconst 1, 1) := by decide +kernel
theorem dX5_readThing_134 : decode cX5_readThing 134 = .ok (.goto 4, 3) := by decide +kernel
theorem dX5_readThing_137 : decode cX5_readThing 137 = .ok (.iconst 0, 1) := by decide +kernel
theorem dX5_readThing_138 : decode cX5_readThing 138 = .ok (.ireturn, 1) := by decide +kernel
theorem dX5_readLetter_0 : decode cX5_readLetter 0 = .ok (.aload_n 1, 1) := by decide +kernel
theorem dX5_readLetter_1 : decode cX5_readLetter 1 = .ok (.invokevirtual 49, 3) := by decide +kernel
theorem dX5_readLetter_4 : decode cX5_readLetter 4 = .ok (.istore_n 2, 1) := by decide +kernel
theorem dX5_readLetter_5 : decode cX5_readLetter 5 = .ok (.iload_n 2, 1) := by decide +kernel
theorem dX5_readLetter_6 : decode cX5_readLetter 6 = .ok (.ifCond .ge 7, 3) := by decide +kernel
theorem dX5_readLetter_9 : decode cX5_readLetter 9 = .ok (.iconst (-1), 1) := by decide +kernel
theorem dX5_readLetter_10 : decode cX5_readLetter 10 = .ok (.goto 10, 3) := by decide +kernel
theorem dX5_readLetter_13 : decode cX5_readLetter 13 = .ok (.ldc 77, 2) := by decide +kernel
theorem dX5_readLetter_15 : decode cX5_readLetter 15 = .ok (.iload_n 2, 1) := by decide +kernel
theorem dX5_readLetter_16 : decode cX5_readLetter 16 = .ok (.i2c, 1) := by decide +kernel
theorem dX5_readLetter_17 : decode cX5_readLetter 17 = .ok (.invokevirtual 79, 3) := by decide +kernel
theorem dX5_readLetter_20 : decode cX5_readLetter 20 = .ok (.istore_n 3, 1) := by decide +kernel
theorem dX5_readLetter_21 : decode cX5_readLetter 21 = .ok (.iload_n 3, 1) := by decide +kernel
theorem dX5_readLetter_22 : decode cX5_readLetter 22 = .ok (.ifCond .ge 5, 3) := by decide +kernel
theorem dX5_readLetter_25 : decode cX5_readLetter 25 = .ok (.iconst 0, 1) := by decide +kernel
theorem dX5_readLetter_26 : decode cX5_readLetter 26 = .ok (.ireturn, 1) := by decide +kernel
theorem dX5_readLetter_27 : decode cX5_readLetter 27 = .ok (.aload_n 1, 1) := by decide +kernel
theorem dX5_readLetter_28 : decode cX5_readLetter 28 = .ok (.invokevirtual 52, 3) := by decide +kernel
theorem dX5_readLetter_31 : decode cX5_readLetter 31 = .ok (.aload_n 0, 1) := by decide +kernel
theorem dX5_readLetter_32 : decode cX5_readLetter 32 = .ok (.iconst (-1), 1) := by decide +kernel
theorem dX5_readLetter_33 : decode cX5_readLetter 33 = .ok (.iload_n 3, 1) := by decide +kernel
theorem dX5_readLetter_34 : decode cX5_readLetter 34 = .ok (.isub, 1) := by decide +kernel
theorem dX5_readLetter_35 : decode cX5_readLetter 35 = .ok (.invokevirtual 55, 3) := by decide +kernel
theorem dX5_readLetter_38 : decode cX5_readLetter 38 = .ok (.ireturn, 1) := by decide +kernel
theorem dX5_write_0 : decode cX5_write 0 = .ok (.aload_n 0, 1) := by decide +kernel
theorem dX5_write_1 : decode cX5_write 1 = .ok (.getfield 27, 3) := by decide +kernel
theorem dX5_write_4 : decode cX5_write 4 = .ok (.aload_n 0, 1) := by decide +kernel
theorem dX5_write_5 : decode cX5_write 5 = .ok (.getfield 15, 3) := by decide +kernel
theorem dX5_write_8 : decode cX5_write 8 = .ok (.arraylength, 1) := by decide +kernel
theorem dX5_write_9 : decode cX5_write 9 = .ok (.if_icmp .lt 5, 3) := by decide +kernel
theorem dX5_write_12 : decode cX5_write 12 = .ok (.iconst 0, 1) := by decide +kernel
theorem dX5_write_13 : decode cX5_write 13 = .ok (.ireturn, 1) := by decide +kernel
theorem dX5_write_14 : decode cX5_write 14 = .ok (.aload_n 0, 1) := by decide +kernel
theorem dX5_write_15 : decode cX5_write 15 = .ok (.getfield 15, 3) := by decide +kernel
theorem dX5_write_18 : decode cX5_write 18 = .ok (.aload_n 0, 1) := by decide +kernel
theorem dX5_write_19 : decode cX5_write 19 = .ok (.getfield 27, 3) := by decide +kernel
theorem dX5_write_22 : decode cX5_write 22 = .ok (.iload_n 1, 1) := by decide +kernel
theorem dX5_write_23 : decode cX5_write 23 = .ok (.iastore, 1) := by decide +kernel
theorem dX5_write_24 : decode cX5_write 24 = .ok (.aload_n 0, 1) := by decide +kernel
theorem dX5_write_25 : decode cX5_write 25 = .ok (.dup, 1) := by decide +kernel
theorem dX5_write_26 : decode cX5_write 26 = .ok (.getfield 27, 3) := by decide +kernel
theorem dX5_write_29 : decode cX5_write 29 = .ok (.iconst 1, 1) := by decide +kernel
theorem dX5_write_30 : decode cX5_write 30 = .ok (.iadd, 1) := by decide +kernel
theorem dX5_write_31 : decode cX5_write 31 = .ok (.putfield 27, 3) := by decide +kernel
theorem dX5_write_34 : decode cX5_write 34 = .ok (.iconst 1, 1) := by decide +kernel
theorem dX5_write_35 : decode cX5_write 35 = .ok (.ireturn, 1) := by decide +kernel
theorem dX5_seconds_0 : decode cX5_seconds 0 = .ok (.aload_n 0, 1) := by decide +kernel
theorem dX5_seconds_1 : decode cX5_seconds 1 = .ok (.getfield 43, 3) := by decide +kernel
theorem dX5_seconds_4 : decode cX5_seconds 4 = .ok (.ifCond .ne 22, 3) := by decide +kernel
theorem dX5_seconds_7 : decode cX5_seconds 7 = .ok (.bipush 8, 2) := by decide +kernel
theorem dX5_seconds_9 : decode cX5_seconds 9 = .ok (.aload_n 1, 1) := by decide +kernel
theorem dX5_seconds_10 : decode cX5_seconds 10 = .ok (.arraylength, 1) := by decide +kernel
theorem dX5_seconds_11 : decode cX5_seconds 11 = .ok (.ifCond .le 9, 3) := by decide +kernel
theorem dX5_seconds_14 : decode cX5_seconds 14 = .ok (.aload_n 1, 1) := by decide +kernel
theorem dX5_seconds_15 : decode cX5_seconds 15 = .ok (.iconst 0, 1) := by decide +kernel
theorem dX5_seconds_16 : decode cX5_seconds 16 = .ok (.iaload, 1) := by decide +kernel
theorem dX5_seconds_17 : decode cX5_seconds 17 = .ok (.goto 4, 3) := by decide +kernel
theorem dX5_seconds_20 : decode cX5_seconds 20 = .ok (.iconst 0, 1) := by decide +kernel
theorem dX5_seconds_21 : decode cX5_seconds 21 = .ok (.iadd, 1) := by decide +kernel
theorem dX5_seconds_22 : decode cX5_seconds 22 = .ok (.invokestatic 84, 3) := by decide +kernel
theorem dX5_seconds_25 : decode cX5_seconds 25 = .ok (.ireturn, 1) := by decide +kernel
theorem dX5_seconds_26 : decode cX5_seconds 26 = .ok (.aload_n 0, 1) := by decide +kernel
theorem dX5_seconds_27 : decode cX5_seconds 27 = .ok (.iconst 0, 1) := by decide +kernel
theorem dX5_seconds_28 : decode cX5_seconds 28 = .ok (.putfield 87, 3) := by decide +kernel
theorem dX5_seconds_31 : decode cX5_seconds 31 = .ok (.iconst 0, 1) := by decide +kernel
theorem dX5_seconds_32 : decode cX5_seconds 32 = .ok (.istore_n 2, 1) := by decide +kernel
theorem dX5_seconds_33 : decode cX5_seconds 33 = .ok (.iload_n 2, 1) := by decide +kernel
theorem dX5_seconds_34 : decode cX5_seconds 34 = .ok (.aload_n 0, 1) := by decide +kernel
theorem dX5_seconds_35 : decode cX5_seconds 35 = .ok (.getfield 43, 3) := by decide +kernel
theorem dX5_seconds_38 : decode cX5_seconds 38 = .ok (.if_icmp .ge 111, 3) := by decide +kernel
theorem dX5_seconds_41 : decode cX5_seconds 41 = .ok (.iload_n 2, 1) := by decide +kernel
theorem dX5_seconds_42 : decode cX5_seconds 42 = .ok (.aload_n 0, 1) := by decide +kernel
theorem dX5_seconds_43 : decode cX5_seconds 43 = .ok (.getfield 9, 3) := by decide +kernel
theorem dX5_seconds_46 : decode cX5_seconds 46 = .ok (.arraylength, 1) := by decide +kernel
theorem dX5_seconds_47 : decode cX5_seconds 47 = .ok (.if_icmp .ge 102, 3) := by decide +kernel
theorem dX5_seconds_50 : decode cX5_seconds 50 = .ok (.aload_n 0, 1) := by decide +kernel
theorem dX5_seconds_51 : decode cX5_seconds 51 = .ok (.getfield 9, 3) := by decide +kernel
theorem dX5_seconds_54 : decode cX5_seconds 54 = .ok (.iload_n 2, 1) := by decide +kernel
theorem dX5_seconds_55 : decode cX5_seconds 55 = .ok (.iaload, 1) := by decide +kernel
theorem dX5_seconds_56 : decode cX5_seconds 56 = .ok (.istore_n 3, 1) := by decide +kernel
theorem dX5_seconds_57 : decode cX5_seconds 57 = .ok (.iload_n 3, 1) := by decide +kernel
theorem dX5_seconds_58 : decode cX5_seconds 58 = .ok (.ifCond .lt 11, 3) := by decide +kernel
theorem dX5_seconds_61 : decode cX5_seconds 61 = .ok (.aload_n 0, 1) := by decide +kernel
theorem dX5_seconds_62 : decode cX5_seconds 62 = .ok (.iload_n 3, 1) := by decide +kernel
theorem dX5_seconds_63 : decode cX5_seconds 63 = .ok (.invokevirtual 90, 3) := by decide +kernel
theorem dX5_seconds_66 : decode cX5_seconds 66 = .ok (.goto 77, 3) := by decide +kernel
theorem dX5_seconds_69 : decode cX5_seconds 69 = .ok (.iload_n 3, 1) := by decide +kernel
theorem dX5_seconds_70 : decode cX5_seconds 70 = .ok (.bipush (-20), 2) := by decide +kernel
theorem dX5_seconds_72 : decode cX5_seconds 72 = .ok (.if_icmp .le 30, 3) := by decide +kernel
theorem dX5_seconds_75 : decode cX5_seconds 75 = .ok (.iconst (-1), 1) := by decide +kernel
theorem dX5_seconds_76 : decode cX5_seconds 76 = .ok (.iload_n 3, 1) := by decide +kernel
theorem dX5_seconds_77 : decode cX5_seconds 77 = .ok (.isub, 1) := by decide +kernel
theorem dX5_seconds_78 : decode cX5_seconds 78 = .ok (.istore 4, 2) := by decide +kernel
theorem dX5_seconds_80 : decode cX5_seconds 80 = .ok (.aload_n 0, 1) := by decide +kernel
theorem dX5_seconds_81 : decode cX5_seconds 81 = .ok (.iload 4, 2) := by decide +kernel
theorem dX5_seconds_83 : decode cX5_seconds 83 = .ok (.aload_n 1, 1) := by decide +kernel
theorem dX5_seconds_84 : decode cX5_seconds 84 = .ok (.arraylength, 1) := by decide +kernel
theorem dX5_seconds_85 : decode cX5_seconds 85 = .ok (.if_icmp .ge 10, 3) := by decide +kernel
theorem dX5_seconds_88 : decode cX5_seconds 88 = .ok (.aload_n 1, 1) := by decide +kernel
theorem dX5_seconds_89 : decode cX5_seconds 89 = .ok (.iload 4, 2) := by decide +kernel
theorem dX5_seconds_91 : decode cX5_seconds 91 = .ok (.iaload, 1) := by decide +kernel
theorem dX5_seconds_92 : decode cX5_seconds 92 = .ok (.goto 4, 3) := by decide +kernel
theorem dX5_seconds_95 : decode cX5_seconds 95 = .ok (.iconst 0, 1) := by decide +kernel
theorem dX5_seconds_96 : decode cX5_seconds 96 = .ok (.invokevirtual 90, 3) := by decide +kernel
theorem dX5_seconds_99 : decode cX5_seconds 99 = .ok (.goto 44, 3) := by decide +kernel
theorem dX5_seconds_102 : decode cX5_seconds 102 = .ok (.iload_n 3, 1) := by decide +kernel
theorem dX5_seconds_103 : decode cX5_seconds 103 = .ok (.bipush (-20), 2) := by decide +kernel
theorem dX5_seconds_105 : decode cX5_seconds 105 = .ok (.if_icmp .ne 15, 3) := by decide +kernel
theorem dX5_seconds_108 : decode cX5_seconds 108 = .ok (.aload_n 0, 1) := by decide +kernel
theorem dX5_seconds_109 : decode cX5_seconds 109 = .ok (.aload_n 0, 1) := by decide +kernel
theorem dX5_seconds_110 : decode cX5_seconds 110 = .ok (.invokevirtual 93, 3) := by decide +kernel
theorem dX5_seconds_113 : decode cX5_seconds 113 = .ok (.ineg, 1) := by decide +kernel
theorem dX5_seconds_114 : decode cX5_seconds 114 = .ok (.invokevirtual 90, 3) := by decide +kernel
theorem dX5_seconds_117 : decode cX5_seconds 117 = .ok (.goto 26, 3) := by decide +kernel
theorem dX5_seconds_120 : decode cX5_seconds 120 = .ok (.aload_n 0, 1) := by decide +kernel
theorem dX5_seconds_121 : decode cX5_seconds 121 = .ok (.invokevirtual 93, 3) := by decide +kernel
theorem dX5_seconds_124 : decode cX5_seconds 124 = .ok (.istore 4, 2) := by decide +kernel
theorem dX5_seconds_126 : decode cX5_seconds 126 = .ok (.aload_n 0, 1) := by decide +kernel
theorem dX5_seconds_127 : decode cX5_seconds 127 = .ok (.bipush (-100), 2) := by decide +kernel
theorem dX5_seconds_129 : decode cX5_seconds 129 = .ok (.iload_n 3, 1) := by decide +kernel
theorem dX5_seconds_130 : decode cX5_seconds 130 = .ok (.isub, 1) := by decide +kernel
theorem dX5_seconds_131 : decode cX5_seconds 131 = .ok (.aload_n 0, 1) := by decide +kernel
theorem dX5_seconds_132 : decode cX5_seconds 132 = .ok (.invokevirtual 93, 3) := by decide +kernel
theorem dX5_seconds_135 : decode cX5_seconds 135 = .ok (.iload 4, 2) := by decide +kernel
theorem dX5_seconds_137 : decode cX5_seconds 137 = .ok (.invokestatic 96, 3) := by decide +kernel
theorem dX5_seconds_140 : decode cX5_seconds 140 = .ok (.invokevirtual 90, 3) := by decide +kernel
theorem dX5_seconds_143 : decode cX5_seconds 143 = .ok (.iinc 2 1, 3) := by decide +kernel
theorem dX5_seconds_146 : decode cX5_seconds 146 = .ok (.goto (-113), 3) := by decide +kernel
theorem dX5_seconds_149 : decode cX5_seconds 149 = .ok (.aload_n 0, 1) := by decide +kernel
theorem dX5_seconds_150 : decode cX5_seconds 150 = .ok (.invokevirtual 93, 3) := by decide +kernel
theorem dX5_seconds_153 : decode cX5_seconds 153 = .ok (.invokestatic 84, 3) := by decide +kernel
theorem dX5_seconds_156 : decode cX5_seconds 156 = .ok (.ireturn, 1) := by decide +kernel
theorem dX5_push_0 : decode cX5_push 0 = .ok (.aload_n 0, 1) := by decide +kernel
theorem dX5_push_1 : decode cX5_push 1 = .ok (.getfield 87, 3) := by decide +kernel
theorem dX5_push_4 : decode cX5_push 4 = .ok (.aload_n 0, 1) := by decide +kernel
theorem dX5_push_5 : decode cX5_push 5 = .ok (.getfield 18, 3) := by decide +kernel
theorem dX5_push_8 : decode cX5_push 8 = .ok (.arraylength, 1) := by decide +kernel
theorem dX5_push_9 : decode cX5_push 9 = .ok (.if_icmp .ge 23, 3) := by decide +kernel
theorem dX5_push_12 : decode cX5_push 12 = .ok (.aload_n 0, 1) := by decide +kernel
theorem dX5_push_13 : decode cX5_push 13 = .ok (.getfield 18, 3) := by decide +kernel
theorem dX5_push_16 : decode cX5_push 16 = .ok (.aload_n 0, 1) := by decide +kernel
theorem dX5_push_17 : decode cX5_push 17 = .ok (.getfield 87, 3) := by decide +kernel
theorem dX5_push_20 : decode cX5_push 20 = .ok (.iload_n 1, 1) := by decide +kernel
theorem dX5_push_21 : decode cX5_push 21 = .ok (.iastore, 1) := by decide +kernel
theorem dX5_push_22 : decode cX5_push 22 = .ok (.aload_n 0, 1) := by decide +kernel
theorem dX5_push_23 : decode cX5_push 23 = .ok (.dup, 1) := by decide +kernel
theorem dX5_push_24 : decode cX5_push 24 = .ok (.getfield 87, 3) := by decide +kernel
theorem dX5_push_27 : decode cX5_push 27 = .ok (.iconst 1, 1) := by decide +kernel
theorem dX5_push_28 : decode cX5_push 28 = .ok (.iadd, 1) := by decide +kernel
theorem dX5_push_29 : decode cX5_push 29 = .ok (.putfield 87, 3) := by decide +kernel
theorem dX5_push_32 : decode cX5_push 32 = .ok (.return_, 1) := by decide +kernel
theorem dX5_pop_0 : decode cX5_pop 0 = .ok (.aload_n 0, 1) := by decide +kernel
theorem dX5_pop_1 : decode cX5_pop 1 = .ok (.getfield 87, 3) := by decide +kernel
theorem dX5_pop_4 : decode cX5_pop 4 = .ok (.iconst 1, 1) := by decide +kernel
theorem dX5_pop_5 : decode cX5_pop 5 = .ok (.if_icmp .lt 15, 3) := by decide +kernel
theorem dX5_pop_8 : decode cX5_pop 8 = .ok (.aload_n 0, 1) := by decide +kernel
theorem dX5_pop_9 : decode cX5_pop 9 = .ok (.getfield 87, 3) := by decide +kernel
theorem dX5_pop_12 : decode cX5_pop 12 = .ok (.aload_n 0, 1) := by decide +kernel
theorem dX5_pop_13 : decode cX5_pop 13 = .ok (.getfield 18, 3) := by decide +kernel
theorem dX5_pop_16 : decode cX5_pop 16 = .ok (.arraylength, 1) := by decide +kernel
theorem dX5_pop_17 : decode cX5_pop 17 = .ok (.if_icmp .le 5, 3) := by decide +kernel
theorem dX5_pop_20 : decode cX5_pop 20 = .ok (.iconst 0, 1) := by decide +kernel
theorem dX5_pop_21 : decode cX5_pop 21 = .ok (.ireturn, 1) := by decide +kernel
theorem dX5_pop_22 : decode cX5_pop 22 = .ok (.aload_n 0, 1) := by decide +kernel
theorem dX5_pop_23 : decode cX5_pop 23 = .ok (.dup, 1) := by decide +kernel
theorem dX5_pop_24 : decode cX5_pop 24 = .ok (.getfield 87, 3) := by decide +kernel
theorem dX5_pop_27 : decode cX5_pop 27 = .ok (.iconst 1, 1) := by decide +kernel
theorem dX5_pop_28 : decode cX5_pop 28 = .ok (.isub, 1) := by decide +kernel
theorem dX5_pop_29 : decode cX5_pop 29 = .ok (.putfield 87, 3) := by decide +kernel
theorem dX5_pop_32 : decode cX5_pop 32 = .ok (.aload_n 0, 1) := by decide +kernel
theorem dX5_pop_33 : decode cX5_pop 33 = .ok (.getfield 18, 3) := by decide +kernel
theorem dX5_pop_36 : decode cX5_pop 36 = .ok (.aload_n 0, 1) := by decide +kernel
theorem dX5_pop_37 : decode cX5_pop 37 = .ok (.getfield 87, 3) := by decide +kernel
theorem dX5_pop_40 : decode cX5_pop 40 = .ok (.iaload, 1) := by decide +kernel
theorem dX5_pop_41 : decode cX5_pop 41 = .ok (.ireturn, 1) := by decide +kernel
theorem dX5_join_0 : decode cX5_join 0 = .ok (.iload_n 0, 1) := by decide +kernel
theorem dX5_join_1 : decode cX5_join 1 = .ok (.lookupswitch 104 #[(42, 100), (43, 92), (45, 96), (60, 59), (61, 81), (62, 70)], 59) := by decide +kernel
theorem dX5_join_60 : decode cX5_join 60 = .ok (.iload_n 1, 1) := by decide +kernel
theorem dX5_join_61 : decode cX5_join 61 = .ok (.iload_n 2, 1) := by decide +kernel
theorem dX5_join_62 : decode cX5_join 62 = .ok (.if_icmp .ge 7, 3) := by decide +kernel
theorem dX5_join_65 : decode cX5_join 65 = .ok (.iconst 1, 1) := by decide +kernel
theorem dX5_join_66 : decode cX5_join 66 = .ok (.goto 4, 3) := by decide +kernel
theorem dX5_join_69 : decode cX5_join 69 = .ok (.iconst 0, 1) := by decide +kernel
theorem dX5_join_70 : decode cX5_join 70 = .ok (.ireturn, 1) := by decide +kernel
theorem dX5_join_71 : decode cX5_join 71 = .ok (.iload_n 1, 1) := by decide +kernel
theorem dX5_join_72 : decode cX5_join 72 = .ok (.iload_n 2, 1) := by decide +kernel
theorem dX5_join_73 : decode cX5_join 73 = .ok (.if_icmp .le 7, 3) := by decide +kernel
theorem dX5_join_76 : decode cX5_join 76 = .ok (.iconst 1, 1) := by decide +kernel
theorem dX5_join_77 : decode cX5_join 77 = .ok (.goto 4, 3) := by decide +kernel
theorem dX5_join_80 : decode cX5_join 80 = .ok (.iconst 0, 1) := by decide +kernel
theorem dX5_join_81 : decode cX5_join 81 = .ok (.ireturn, 1) := by decide +kernel
theorem dX5_join_82 : decode cX5_join 82 = .ok (.iload_n 1, 1) := by decide +kernel
theorem dX5_join_83 : decode cX5_join 83 = .ok (.iload_n 2, 1) := by decide +kernel
theorem dX5_join_84 : decode cX5_join 84 = .ok (.if_icmp .ne 7, 3) := by decide +kernel
theorem dX5_join_87 : decode cX5_join 87 = .ok (.iconst 1, 1) := by decide +kernel
theorem dX5_join_88 : decode cX5_join 88 = .ok (.goto 4, 3) := by decide +kernel
theorem dX5_join_91 : decode cX5_join 91 = .ok (.iconst 0, 1) := by decide +kernel
theorem dX5_join_92 : decode cX5_join 92 = .ok (.ireturn, 1) := by decide +kernel
theorem dX5_join_93 : decode cX5_join 93 = .ok (.iload_n 1, 1) := by decide +kernel
theorem dX5_join_94 : decode cX5_join 94 = .ok (.iload_n 2, 1) := by decide +kernel
theorem dX5_join_95 : decode cX5_join 95 = .ok (.iadd, 1) := by decide +kernel
theorem dX5_join_96 : decode cX5_join 96 = .ok (.ireturn, 1) := by decide +kernel
theorem dX5_join_97 : decode cX5_join 97 = .ok (.iload_n 1, 1) := by decide +kernel
theorem dX5_join_98 : decode cX5_join 98 = .ok (.iload_n 2, 1) := by decide +kernel
theorem dX5_join_99 : decode cX5_join 99 = .ok (.isub, 1) := by decide +kernel
theorem dX5_join_100 : decode cX5_join 100 = .ok (.ireturn, 1) := by decide +kernel
theorem dX5_join_101 : decode cX5_join 101 = .ok (.iload_n 1, 1) := by decide +kernel
theorem dX5_join_102 : decode cX5_join 102 = .ok (.iload_n 2, 1) := by decide +kernel
theorem dX5_join_103 : decode cX5_join 103 = .ok (.imul, 1) := by decide +kernel
theorem dX5_join_104 : decode cX5_join 104 = .ok (.ireturn, 1) := by decide +kernel
theorem dX5_join_105 : decode cX5_join 105 = .ok (.iload_n 2, 1) := by decide +kernel
theorem dX5_join_106 : decode cX5_join 106 = .ok (.ifCond .ne 7, 3) := by decide +kernel
theorem dX5_join_109 : decode cX5_join 109 = .ok (.iconst 0, 1) := by decide +kernel
theorem dX5_join_110 : decode cX5_join 110 = .ok (.goto 6, 3) := by decide +kernel
theorem dX5_join_113 : decode cX5_join 113 = .ok (.iload_n 1, 1) := by decide +kernel
theorem dX5_join_114 : decode cX5_join 114 = .ok (.iload_n 2, 1) := by decide +kernel
theorem dX5_join_115 : decode cX5_join 115 = .ok (.idiv, 1) := by decide +kernel
theorem dX5_join_116 : decode cX5_join 116 = .ok (.ireturn, 1) := by decide +kernel
theorem dX5_clamped_0 : decode cX5_clamped 0 = .ok (.iconst 1, 1) := by decide +kernel
theorem dX5_clamped_1 : decode cX5_clamped 1 = .ok (.sipush 999, 3) := by decide +kernel
theorem dX5_clamped_4 : decode cX5_clamped 4 = .ok (.iload_n 0, 1) := by decide +kernel
theorem dX5_clamped_5 : decode cX5_clamped 5 = .ok (.invokestatic 100, 3) := by decide +kernel
theorem dX5_clamped_8 : decode cX5_clamped 8 = .ok (.invokestatic 106, 3) := by decide +kernel
theorem dX5_clamped_11 : decode cX5_clamped 11 = .ok (.ireturn, 1) := by decide +kernel
theorem dX6_init_0 : decode cX6_init 0 = .ok (.aload_n 0, 1) := by decide +kernel
theorem dX6_init_1 : decode cX6_init 1 = .ok (.invokespecial 3, 3) := by decide +kernel
theorem dX6_init_4 : decode cX6_init 4 = .ok (.aload_n 0, 1) := by decide +kernel
theorem dX6_init_5 : decode cX6_init 5 = .ok (.bipush 7, 2) := by decide +kernel
theorem dX6_init_7 : decode cX6_init 7 = .ok (.newarray .int, 2) := by decide +kernel
theorem dX6_init_9 : decode cX6_init 9 = .ok (.dup, 1) := by decide +kernel
theorem dX6_init_10 : decode cX6_init 10 = .ok (.iconst 0, 1) := by decide +kernel
theorem dX6_init_11 : decode cX6_init 11 = .ok (.bipush 100, 2) := by decide +kernel
theorem dX6_init_13 : decode cX6_init 13 = .ok (.iastore, 1) := by decide +kernel
theorem dX6_init_14 : decode cX6_init 14 = .ok (.dup, 1) := by decide +kernel
theorem dX6_init_15 : decode cX6_init 15 = .ok (.iconst 1, 1) := by decide +kernel
theorem dX6_init_16 : decode cX6_init 16 = .ok (.iconst 2, 1) := by decide +kernel
theorem dX6_init_17 : decode cX6_init 17 = .ok (.iastore, 1) := by decide +kernel
theorem dX6_init_18 : decode cX6_init 18 = .ok (.dup, 1) := by decide +kernel
theorem dX6_init_19 : decode cX6_init 19 = .ok (.iconst 2, 1) := by decide +kernel
theorem dX6_init_20 : decode cX6_init 20 = .ok (.iconst 0, 1) := by decide +kernel
theorem dX6_init_21 : decode cX6_init 21 = .ok (.iastore, 1) := by decide +kernel
theorem dX6_init_22 : decode cX6_init 22 = .ok (.dup, 1) := by decide +kernel
theorem dX6_init_23 : decode cX6_init 23 = .ok (.iconst 3, 1) := by decide +kernel
theorem dX6_init_24 : decode cX6_init 24 = .ok (.iconst 1, 1) := by decide +kernel
theorem dX6_init_25 : decode cX6_init 25 = .ok (.iastore, 1) := by decide +kernel
theorem dX6_init_26 : decode cX6_init 26 = .ok (.dup, 1) := by decide +kernel
theorem dX6_init_27 : decode cX6_init 27 = .ok (.iconst 4, 1) := by decide +kernel
theorem dX6_init_28 : decode cX6_init 28 = .ok (.bipush 30, 2) := by decide +kernel
theorem dX6_init_30 : decode cX6_init 30 = .ok (.iastore, 1) := by decide +kernel
theorem dX6_init_31 : decode cX6_init 31 = .ok (.dup, 1) := by decide +kernel
theorem dX6_init_32 : decode cX6_init 32 = .ok (.iconst 5, 1) := by decide +kernel
theorem dX6_init_33 : decode cX6_init 33 = .ok (.bipush 50, 2) := by decide +kernel
theorem dX6_init_35 : decode cX6_init 35 = .ok (.iastore, 1) := by decide +kernel
theorem dX6_init_36 : decode cX6_init 36 = .ok (.dup, 1) := by decide +kernel
theorem dX6_init_37 : decode cX6_init 37 = .ok (.bipush 6, 2) := by decide +kernel
theorem dX6_init_39 : decode cX6_init 39 = .ok (.sipush 480, 3) := by decide +kernel
theorem dX6_init_42 : decode cX6_init 42 = .ok (.iastore, 1) := by decide +kernel
theorem dX6_init_43 : decode cX6_init 43 = .ok (.putfield 9, 3) := by decide +kernel
theorem dX6_init_46 : decode cX6_init 46 = .ok (.return_, 1) := by decide +kernel
theorem dX6_get_0 : decode cX6_get 0 = .ok (.iload_n 1, 1) := by decide +kernel
theorem dX6_get_1 : decode cX6_get 1 = .ok (.ifCond .lt 21, 3) := by decide +kernel
theorem dX6_get_4 : decode cX6_get 4 = .ok (.iload_n 1, 1) := by decide +kernel
theorem dX6_get_5 : decode cX6_get 5 = .ok (.aload_n 0, 1) := by decide +kernel
theorem dX6_get_6 : decode cX6_get 6 = .ok (.getfield 9, 3) := by decide +kernel
theorem dX6_get_9 : decode cX6_get 9 = .ok (.arraylength, 1) := by decide +kernel
theorem dX6_get_10 : decode cX6_get 10 = .ok (.if_icmp .ge 12, 3) := by decide +kernel
theorem dX6_get_13 : decode cX6_get 13 = .ok (.aload_n 0, 1) := by decide +kernel
theorem dX6_get_14 : decode cX6_get 14 = .ok (.getfield 9, 3) := by decide +kernel
theorem dX6_get_17 : decode cX6_get 17 = .ok (.iload_n 1, 1) := by decide +kernel
theorem dX6_get_18 : decode cX6_get 18 = .ok (.iaload, 1) := by decide +kernel
theorem dX6_get_19 : decode cX6_get 19 = .ok (.goto 4, 3) := by decide +kernel
theorem dX6_get_22 : decode cX6_get 22 = .ok (.iconst 0, 1) := by decide +kernel
theorem dX6_get_23 : decode cX6_get 23 = .ok (.ireturn, 1) := by decide +kernel
theorem dX6_change_0 : decode cX6_change 0 = .ok (.iload_n 1, 1) := by decide +kernel
theorem dX6_change_1 : decode cX6_change 1 = .ok (.ifCond .lt 30, 3) := by decide +kernel
theorem dX6_change_4 : decode cX6_change 4 = .ok (.iload_n 1, 1) := by decide +kernel
theorem dX6_change_5 : decode cX6_change 5 = .ok (.aload_n 0, 1) := by decide +kernel
theorem dX6_change_6 : decode cX6_change 6 = .ok (.getfield 9, 3) := by decide +kernel
theorem dX6_change_9 : decode cX6_change 9 = .ok (.arraylength, 1) := by decide +kernel
theorem dX6_change_10 : decode cX6_change 10 = .ok (.if_icmp .ge 21, 3) := by decide +kernel
theorem dX6_change_13 : decode cX6_change 13 = .ok (.iload_n 2, 1) := by decide +kernel
theorem dX6_change_14 : decode cX6_change 14 = .ok (.getstatic 15, 3) := by decide +kernel
theorem dX6_change_17 : decode cX6_change 17 = .ok (.iload_n 1, 1) := by decide +kernel
theorem dX6_change_18 : decode cX6_change 18 = .ok (.iaload, 1) := by decide +kernel
theorem dX6_change_19 : decode cX6_change 19 = .ok (.if_icmp .lt 12, 3) := by decide +kernel
theorem dX6_change_22 : decode cX6_change 22 = .ok (.iload_n 2, 1) := by decide +kernel
theorem dX6_change_23 : decode cX6_change 23 = .ok (.getstatic 18, 3) := by decide +kernel
theorem dX6_change_26 : decode cX6_change 26 = .ok (.iload_n 1, 1) := by decide +kernel
theorem dX6_change_27 : decode cX6_change 27 = .ok (.iaload, 1) := by decide +kernel
theorem dX6_change_28 : decode cX6_change 28 = .ok (.if_icmp .le 5, 3) := by decide +kernel
theorem dX6_change_31 : decode cX6_change 31 = .ok (.iconst (-1), 1) := by decide +kernel
theorem dX6_change_32 : decode cX6_change 32 = .ok (.ireturn, 1) := by decide +kernel
theorem dX6_change_33 : decode cX6_change 33 = .ok (.aload_n 0, 1) := by decide +kernel
theorem dX6_change_34 : decode cX6_change 34 = .ok (.getfield 9, 3) := by decide +kernel
theorem dX6_change_37 : decode cX6_change 37 = .ok (.iload_n 1, 1) := by decide +kernel
theorem dX6_change_38 : decode cX6_change 38 = .ok (.iaload, 1) := by decide +kernel
theorem dX6_change_39 : decode cX6_change 39 = .ok (.istore_n 3, 1) := by decide +kernel
theorem dX6_change_40 : decode cX6_change 40 = .ok (.aload_n 0, 1) := by decide +kernel
theorem dX6_change_41 : decode cX6_change 41 = .ok (.getfield 9, 3) := by decide +kernel
theorem dX6_change_44 : decode cX6_change 44 = .ok (.iload_n 1, 1) := by decide +kernel
theorem dX6_change_45 : decode cX6_change 45 = .ok (.iload_n 2, 1) := by decide +kernel
theorem dX6_change_46 : decode cX6_change 46 = .ok (.iastore, 1) := by decide +kernel
theorem dX6_change_47 : decode cX6_change 47 = .ok (.iload_n 3, 1) := by decide +kernel
theorem dX6_change_48 : decode cX6_change 48 = .ok (.ireturn, 1) := by decide +kernel
theorem dX6_heavy_0 : decode cX6_heavy 0 = .ok (.iload_n 1, 1) := by decide +kernel
theorem dX6_heavy_1 : decode cX6_heavy 1 = .ok (.aload_n 0, 1) := by decide +kernel
theorem dX6_heavy_2 : decode cX6_heavy 2 = .ok (.iconst 3, 1) := by decide +kernel
theorem dX6_heavy_3 : decode cX6_heavy 3 = .ok (.invokevirtual 21, 3) := by decide +kernel
theorem dX6_heavy_6 : decode cX6_heavy 6 = .ok (.imul, 1) := by decide +kernel
theorem dX6_heavy_7 : decode cX6_heavy 7 = .ok (.bipush 10, 2) := by decide +kernel
theorem dX6_heavy_9 : decode cX6_heavy 9 = .ok (.iload_n 2, 1) := by decide +kernel
theorem dX6_heavy_10 : decode cX6_heavy 10 = .ok (.iadd, 1) := by decide +kernel
theorem dX6_heavy_11 : decode cX6_heavy 11 = .ok (.imul, 1) := by decide +kernel
theorem dX6_heavy_12 : decode cX6_heavy 12 = .ok (.bipush 10, 2) := by decide +kernel
theorem dX6_heavy_14 : decode cX6_heavy 14 = .ok (.idiv, 1) := by decide +kernel
theorem dX6_heavy_15 : decode cX6_heavy 15 = .ok (.ireturn, 1) := by decide +kernel
theorem dX6_weigh_0 : decode cX6_weigh 0 = .ok (.iconst 0, 1) := by decide +kernel
theorem dX6_weigh_1 : decode cX6_weigh 1 = .ok (.istore 4, 2) := by decide +kernel
theorem dX6_weigh_3 : decode cX6_weigh 3 = .ok (.iconst 0, 1) := by decide +kernel
theorem dX6_weigh_4 : decode cX6_weigh 4 = .ok (.istore 5, 2) := by decide +kernel
theorem dX6_weigh_6 : decode cX6_weigh 6 = .ok (.iload 5, 2) := by decide +kernel
theorem dX6_weigh_8 : decode cX6_weigh 8 = .ok (.bipush 16, 2) := by decide +kernel
theorem dX6_weigh_10 : decode cX6_weigh 10 = .ok (.if_icmp .ge 34, 3) := by decide +kernel
theorem dX6_weigh_13 : decode cX6_weigh 13 = .ok (.iload_n 2, 1) := by decide +kernel
theorem dX6_weigh_14 : decode cX6_weigh 14 = .ok (.iload 5, 2) := by decide +kernel
theorem dX6_weigh_16 : decode cX6_weigh 16 = .ok (.ishr, 1) := by decide +kernel
theorem dX6_weigh_17 : decode cX6_weigh 17 = .ok (.iconst 1, 1) := by decide +kernel
theorem dX6_weigh_18 : decode cX6_weigh 18 = .ok (.iand, 1) := by decide +kernel
theorem dX6_weigh_19 : decode cX6_weigh 19 = .ok (.ifCond .eq 19, 3) := by decide +kernel
theorem dX6_weigh_22 : decode cX6_weigh 22 = .ok (.iload 4, 2) := by decide +kernel
theorem dX6_weigh_24 : decode cX6_weigh 24 = .ok (.aload_n 0, 1) := by decide +kernel
theorem dX6_weigh_25 : decode cX6_weigh 25 = .ok (.aload_n 1, 1) := by decide +kernel
theorem dX6_weigh_26 : decode cX6_weigh 26 = .ok (.iload 5, 2) := by decide +kernel
theorem dX6_weigh_28 : decode cX6_weigh 28 = .ok (.invokevirtual 25, 3) := by decide +kernel
theorem dX6_weigh_31 : decode cX6_weigh 31 = .ok (.iload_n 3, 1) := by decide +kernel
theorem dX6_weigh_32 : decode cX6_weigh 32 = .ok (.invokevirtual 30, 3) := by decide +kernel
theorem dX6_weigh_35 : decode cX6_weigh 35 = .ok (.iadd, 1) := by decide +kernel
theorem dX6_weigh_36 : decode cX6_weigh 36 = .ok (.istore 4, 2) := by decide +kernel
theorem dX6_weigh_38 : decode cX6_weigh 38 = .ok (.iinc 5 1, 3) := by decide +kernel
theorem dX6_weigh_41 : decode cX6_weigh 41 = .ok (.goto (-35), 3) := by decide +kernel
theorem dX6_weigh_44 : decode cX6_weigh 44 = .ok (.iload 4, 2) := by decide +kernel
theorem dX6_weigh_46 : decode cX6_weigh 46 = .ok (.ireturn, 1) := by decide +kernel
theorem dX6_tooHeavy_0 : decode cX6_tooHeavy 0 = .ok (.iconst 0, 1) := by decide +kernel
theorem dX6_tooHeavy_1 : decode cX6_tooHeavy 1 = .ok (.istore 4, 2) := by decide +kernel
theorem dX6_tooHeavy_3 : decode cX6_tooHeavy 3 = .ok (.iconst 0, 1) := by decide +kernel
theorem dX6_tooHeavy_4 : decode cX6_tooHeavy 4 = .ok (.istore 5, 2) := by decide +kernel
theorem dX6_tooHeavy_6 : decode cX6_tooHeavy 6 = .ok (.iload 5, 2) := by decide +kernel
theorem dX6_tooHeavy_8 : decode cX6_tooHeavy 8 = .ok (.bipush 16, 2) := by decide +kernel
theorem dX6_tooHeavy_10 : decode cX6_tooHeavy 10 = .ok (.if_icmp .ge 40, 3) := by decide +kernel
theorem dX6_tooHeavy_13 : decode cX6_tooHeavy 13 = .ok (.iload_n 2, 1) := by decide +kernel
theorem dX6_tooHeavy_14 : decode cX6_tooHeavy 14 = .ok (.iload 5, 2) := by decide +kernel
theorem dX6_tooHeavy_16 : decode cX6_tooHeavy 16 = .ok (.ishr, 1) := by decide +kernel
theorem dX6_tooHeavy_17 : decode cX6_tooHeavy 17 = .ok (.iconst 1, 1) := by decide +kernel
theorem dX6_tooHeavy_18 : decode cX6_tooHeavy 18 = .ok (.iand, 1) := by decide +kernel
theorem dX6_tooHeavy_19 : decode cX6_tooHeavy 19 = .ok (.ifCond .eq 25, 3) := by decide +kernel
theorem dX6_tooHeavy_22 : decode cX6_tooHeavy 22 = .ok (.aload_n 0, 1) := by decide +kernel
theorem dX6_tooHeavy_23 : decode cX6_tooHeavy 23 = .ok (.aload_n 1, 1) := by decide +kernel
theorem dX6_tooHeavy_24 : decode cX6_tooHeavy 24 = .ok (.iload 5, 2) := by decide +kernel
theorem dX6_tooHeavy_26 : decode cX6_tooHeavy 26 = .ok (.invokevirtual 25, 3) := by decide +kernel
theorem dX6_tooHeavy_29 : decode cX6_tooHeavy 29 = .ok (.iload_n 3, 1) := by decide +kernel
theorem dX6_tooHeavy_30 : decode cX6_tooHeavy 30 = .ok (.invokevirtual 30, 3) := by decide +kernel
theorem dX6_tooHeavy_33 : decode cX6_tooHeavy 33 = .ok (.aload_n 0, 1) := by decide +kernel
theorem dX6_tooHeavy_34 : decode cX6_tooHeavy 34 = .ok (.iconst 4, 1) := by decide +kernel
theorem dX6_tooHeavy_35 : decode cX6_tooHeavy 35 = .ok (.invokevirtual 21, 3) := by decide +kernel
theorem dX6_tooHeavy_38 : decode cX6_tooHeavy 38 = .ok (.if_icmp .le 6, 3) := by decide +kernel
theorem dX6_tooHeavy_41 : decode cX6_tooHeavy 41 = .ok (.iinc 4 1, 3) := by decide +kernel
theorem dX6_tooHeavy_44 : decode cX6_tooHeavy 44 = .ok (.iinc 5 1, 3) := by decide +kernel
theorem dX6_tooHeavy_47 : decode cX6_tooHeavy 47 = .ok (.goto (-41), 3) := by decide +kernel
theorem dX6_tooHeavy_50 : decode cX6_tooHeavy 50 = .ok (.iload 4, 2) := by decide +kernel
theorem dX6_tooHeavy_52 : decode cX6_tooHeavy 52 = .ok (.ireturn, 1) := by decide +kernel
theorem dX7_init_0 : decode cX7_init 0 = .ok (.aload_n 0, 1) := by decide +kernel
theorem dX7_init_1 : decode cX7_init 1 = .ok (.invokespecial 3, 3) := by decide +kernel
theorem dX7_init_4 : decode cX7_init 4 = .ok (.aload_n 0, 1) := by decide +kernel
theorem dX7_init_5 : decode cX7_init 5 = .ok (.bipush 6, 2) := by decide +kernel
theorem dX7_init_7 : decode cX7_init 7 = .ok (.newarray .int, 2) := by decide +kernel
theorem dX7_init_9 : decode cX7_init 9 = .ok (.putfield 9, 3) := by decide +kernel
theorem dX7_init_12 : decode cX7_init 12 = .ok (.aload_n 0, 1) := by decide +kernel
theorem dX7_init_13 : decode cX7_init 13 = .ok (.bipush 6, 2) := by decide +kernel
theorem dX7_init_15 : decode cX7_init 15 = .ok (.newarray .int, 2) := by decide +kernel
theorem dX7_init_17 : decode cX7_init 17 = .ok (.putfield 15, 3) := by decide +kernel
theorem dX7_init_20 : decode cX7_init 20 = .ok (.aload_n 0, 1) := by decide +kernel
theorem dX7_init_21 : decode cX7_init 21 = .ok (.bipush 6, 2) := by decide +kernel
theorem dX7_init_23 : decode cX7_init 23 = .ok (.newarray .int, 2) := by decide +kernel
theorem dX7_init_25 : decode cX7_init 25 = .ok (.putfield 18, 3) := by decide +kernel
theorem dX7_init_28 : decode cX7_init 28 = .ok (.return_, 1) := by decide +kernel
theorem dX7_become_0 : decode cX7_become 0 = .ok (.aload_n 1, 1) := by decide +kernel
theorem dX7_become_1 : decode cX7_become 1 = .ok (.getfield 9, 3) := by decide +kernel
theorem dX7_become_4 : decode cX7_become 4 = .ok (.iconst 0, 1) := by decide +kernel
theorem dX7_become_5 : decode cX7_become 5 = .ok (.aload_n 0, 1) := by decide +kernel
theorem dX7_become_6 : decode cX7_become 6 = .ok (.getfield 9, 3) := by decide +kernel
theorem dX7_become_9 : decode cX7_become 9 = .ok (.iconst 0, 1) := by decide +kernel
theorem dX7_become_10 : decode cX7_become 10 = .ok (.bipush 6, 2) := by decide +kernel
theorem dX7_become_12 : decode cX7_become 12 = .ok (.invokestatic 21, 3) := by decide +kernel
theorem dX7_become_15 : decode cX7_become 15 = .ok (.aload_n 1, 1) := by decide +kernel
theorem dX7_become_16 : decode cX7_become 16 = .ok (.getfield 15, 3) := by decide +kernel
theorem dX7_become_19 : decode cX7_become 19 = .ok (.iconst 0, 1) := by decide +kernel
theorem dX7_become_20 : decode cX7_become 20 = .ok (.aload_n 0, 1) := by decide +kernel
theorem dX7_become_21 : decode cX7_become 21 = .ok (.getfield 15, 3) := by decide +kernel
theorem dX7_become_24 : decode cX7_become 24 = .ok (.iconst 0, 1) := by decide +kernel
theorem dX7_become_25 : decode cX7_become 25 = .ok (.bipush 6, 2) := by decide +kernel
theorem dX7_become_27 : decode cX7_become 27 = .ok (.invokestatic 21, 3) := by decide +kernel
theorem dX7_become_30 : decode cX7_become 30 = .ok (.aload_n 1, 1) := by decide +kernel
theorem dX7_become_31 : decode cX7_become 31 = .ok (.getfield 18, 3) := by decide +kernel
theorem dX7_become_34 : decode cX7_become 34 = .ok (.iconst 0, 1) := by decide +kernel
theorem dX7_become_35 : decode cX7_become 35 = .ok (.aload_n 0, 1) := by decide +kernel
theorem dX7_become_36 : decode cX7_become 36 = .ok (.getfield 18, 3) := by decide +kernel
theorem dX7_become_39 : decode cX7_become 39 = .ok (.iconst 0, 1) := by decide +kernel
theorem dX7_become_40 : decode cX7_become 40 = .ok (.bipush 6, 2) := by decide +kernel
theorem dX7_become_42 : decode cX7_become 42 = .ok (.invokestatic 21, 3) := by decide +kernel
theorem dX7_become_45 : decode cX7_become 45 = .ok (.aload_n 0, 1) := by decide +kernel
theorem dX7_become_46 : decode cX7_become 46 = .ok (.aload_n 1, 1) := by decide +kernel
theorem dX7_become_47 : decode cX7_become 47 = .ok (.getfield 27, 3) := by decide +kernel
theorem dX7_become_50 : decode cX7_become 50 = .ok (.putfield 27, 3) := by decide +kernel
theorem dX7_become_53 : decode cX7_become 53 = .ok (.aload_n 0, 1) := by decide +kernel
theorem dX7_become_54 : decode cX7_become 54 = .ok (.aload_n 1, 1) := by decide +kernel
theorem dX7_become_55 : decode cX7_become 55 = .ok (.getfield 31, 3) := by decide +kernel
theorem dX7_become_58 : decode cX7_become 58 = .ok (.putfield 31, 3) := by decide +kernel
theorem dX7_become_61 : decode cX7_become 61 = .ok (.aload_n 0, 1) := by decide +kernel
theorem dX7_become_62 : decode cX7_become 62 = .ok (.aload_n 1, 1) := by decide +kernel
theorem dX7_become_63 : decode cX7_become 63 = .ok (.getfield 34, 3) := by decide +kernel
theorem dX7_become_66 : decode cX7_become 66 = .ok (.putfield 34, 3) := by decide +kernel
theorem dX7_become_69 : decode cX7_become 69 = .ok (.return_, 1) := by decide +kernel
theorem dX7_outOf_0 : decode cX7_outOf 0 = .ok (.iload_n 1, 1) := by decide +kernel
theorem dX7_outOf_1 : decode cX7_outOf 1 = .ok (.ifCond .lt 21, 3) := by decide +kernel
theorem dX7_outOf_4 : decode cX7_outOf 4 = .ok (.iload_n 1, 1) := by decide +kernel
theorem dX7_outOf_5 : decode cX7_outOf 5 = .ok (.aload_n 0, 1) := by decide +kernel
theorem dX7_outOf_6 : decode cX7_outOf 6 = .ok (.getfield 9, 3) := by decide +kernel
theorem dX7_outOf_9 : decode cX7_outOf 9 = .ok (.arraylength, 1) := by decide +kernel
theorem dX7_outOf_10 : decode cX7_outOf 10 = .ok (.if_icmp .ge 12, 3) := by decide +kernel
theorem dX7_outOf_13 : decode cX7_outOf 13 = .ok (.aload_n 0, 1) := by decide +kernel
theorem dX7_outOf_14 : decode cX7_outOf 14 = .ok (.getfield 9, 3) := by decide +kernel
theorem dX7_outOf_17 : decode cX7_outOf 17 = .ok (.iload_n 1, 1) := by decide +kernel
theorem dX7_outOf_18 : decode cX7_outOf 18 = .ok (.iaload, 1) := by decide +kernel
theorem dX7_outOf_19 : decode cX7_outOf 19 = .ok (.goto 4, 3) := by decide +kernel
theorem dX7_outOf_22 : decode cX7_outOf 22 = .ok (.iconst 0, 1) := by decide +kernel
theorem dX7_outOf_23 : decode cX7_outOf 23 = .ok (.ireturn, 1) := by decide +kernel
theorem dX7_putOut_0 : decode cX7_putOut 0 = .ok (.iload_n 1, 1) := by decide +kernel
theorem dX7_putOut_1 : decode cX7_putOut 1 = .ok (.ifCond .lt 30, 3) := by decide +kernel
theorem dX7_putOut_4 : decode cX7_putOut 4 = .ok (.iload_n 1, 1) := by decide +kernel
theorem dX7_putOut_5 : decode cX7_putOut 5 = .ok (.bipush 6, 2) := by decide +kernel
theorem dX7_putOut_7 : decode cX7_putOut 7 = .ok (.if_icmp .ge 24, 3) := by decide +kernel
theorem dX7_putOut_10 : decode cX7_putOut 10 = .ok (.aload_n 0, 1) := by decide +kernel
theorem dX7_putOut_11 : decode cX7_putOut 11 = .ok (.getfield 9, 3) := by decide +kernel
theorem dX7_putOut_14 : decode cX7_putOut 14 = .ok (.iload_n 1, 1) := by decide +kernel
theorem dX7_putOut_15 : decode cX7_putOut 15 = .ok (.iload_n 2, 1) := by decide +kernel
theorem dX7_putOut_16 : decode cX7_putOut 16 = .ok (.iastore, 1) := by decide +kernel
theorem dX7_putOut_17 : decode cX7_putOut 17 = .ok (.aload_n 0, 1) := by decide +kernel
theorem dX7_putOut_18 : decode cX7_putOut 18 = .ok (.getfield 15, 3) := by decide +kernel
theorem dX7_putOut_21 : decode cX7_putOut 21 = .ok (.iload_n 1, 1) := by decide +kernel
theorem dX7_putOut_22 : decode cX7_putOut 22 = .ok (.iconst 0, 1) := by decide +kernel
theorem dX7_putOut_23 : decode cX7_putOut 23 = .ok (.iastore, 1) := by decide +kernel
theorem dX7_putOut_24 : decode cX7_putOut 24 = .ok (.aload_n 0, 1) := by decide +kernel
theorem dX7_putOut_25 : decode cX7_putOut 25 = .ok (.getfield 18, 3) := by decide +kernel
theorem dX7_putOut_28 : decode cX7_putOut 28 = .ok (.iload_n 1, 1) := by decide +kernel
theorem dX7_putOut_29 : decode cX7_putOut 29 = .ok (.iconst 0, 1) := by decide +kernel
theorem dX7_putOut_30 : decode cX7_putOut 30 = .ok (.iastore, 1) := by decide +kernel
theorem dX7_putOut_31 : decode cX7_putOut 31 = .ok (.return_, 1) := by decide +kernel
theorem dX7_kindOf_0 : decode cX7_kindOf 0 = .ok (.iload_n 1, 1) := by decide +kernel
theorem dX7_kindOf_1 : decode cX7_kindOf 1 = .ok (.ifCond .lt 9, 3) := by decide +kernel
theorem dX7_kindOf_4 : decode cX7_kindOf 4 = .ok (.iload_n 1, 1) := by decide +kernel
theorem dX7_kindOf_5 : decode cX7_kindOf 5 = .ok (.bipush 6, 2) := by decide +kernel
theorem dX7_kindOf_7 : decode cX7_kindOf 7 = .ok (.if_icmp .lt 5, 3) := by decide +kernel
theorem dX7_kindOf_10 : decode cX7_kindOf 10 = .ok (.iconst 0, 1) := by decide +kernel
theorem dX7_kindOf_11 : decode cX7_kindOf 11 = .ok (.ireturn, 1) := by decide +kernel
theorem dX7_kindOf_12 : decode cX7_kindOf 12 = .ok (.iconst 1, 1) := by decide +kernel
theorem dX7_kindOf_13 : decode cX7_kindOf 13 = .ok (.iload_n 2, 1) := by decide +kernel
theorem dX7_kindOf_14 : decode cX7_kindOf 14 = .ok (.ishl, 1) := by decide +kernel
theorem dX7_kindOf_15 : decode cX7_kindOf 15 = .ok (.istore_n 3, 1) := by decide +kernel
theorem dX7_kindOf_16 : decode cX7_kindOf 16 = .ok (.aload_n 0, 1) := by decide +kernel
theorem dX7_kindOf_17 : decode cX7_kindOf 17 = .ok (.getfield 9, 3) := by decide +kernel
theorem dX7_kindOf_20 : decode cX7_kindOf 20 = .ok (.iload_n 1, 1) := by decide +kernel
theorem dX7_kindOf_21 : decode cX7_kindOf 21 = .ok (.iaload, 1) := by decide +kernel
theorem dX7_kindOf_22 : decode cX7_kindOf 22 = .ok (.iload_n 3, 1) := by decide +kernel
theorem dX7_kindOf_23 : decode cX7_kindOf 23 = .ok (.iand, 1) := by decide +kernel
theorem dX7_kindOf_24 : decode cX7_kindOf 24 = .ok (.ifCond .eq 5, 3) := by decide +kernel
theorem dX7_kindOf_27 : decode cX7_kindOf 27 = .ok (.iconst 1, 1) := by decide +kernel
theorem dX7_kindOf_28 : decode cX7_kindOf 28 = .ok (.ireturn, 1) := by decide +kernel
theorem dX7_kindOf_29 : decode cX7_kindOf 29 = .ok (.aload_n 0, 1) := by decide +kernel
theorem dX7_kindOf_30 : decode cX7_kindOf 30 = .ok (.getfield 15, 3) := by decide +kernel
theorem dX7_kindOf_33 : decode cX7_kindOf 33 = .ok (.iload_n 1, 1) := by decide +kernel
theorem dX7_kindOf_34 : decode cX7_kindOf 34 = .ok (.iaload, 1) := by decide +kernel
theorem dX7_kindOf_35 : decode cX7_kindOf 35 = .ok (.iload_n 3, 1) := by decide +kernel
theorem dX7_kindOf_36 : decode cX7_kindOf 36 = .ok (.iand, 1) := by decide +kernel
theorem dX7_kindOf_37 : decode cX7_kindOf 37 = .ok (.ifCond .eq 5, 3) := by decide +kernel
theorem dX7_kindOf_40 : decode cX7_kindOf 40 = .ok (.iconst 2, 1) := by decide +kernel
theorem dX7_kindOf_41 : decode cX7_kindOf 41 = .ok (.ireturn, 1) := by decide +kernel
theorem dX7_kindOf_42 : decode cX7_kindOf 42 = .ok (.aload_n 0, 1) := by decide +kernel
theorem dX7_kindOf_43 : decode cX7_kindOf 43 = .ok (.getfield 18, 3) := by decide +kernel
theorem dX7_kindOf_46 : decode cX7_kindOf 46 = .ok (.iload_n 1, 1) := by decide +kernel
theorem dX7_kindOf_47 : decode cX7_kindOf 47 = .ok (.iaload, 1) := by decide +kernel
theorem dX7_kindOf_48 : decode cX7_kindOf 48 = .ok (.iload_n 3, 1) := by decide +kernel
theorem dX7_kindOf_49 : decode cX7_kindOf 49 = .ok (.iand, 1) := by decide +kernel
theorem dX7_kindOf_50 : decode cX7_kindOf 50 = .ok (.ifCond .eq 7, 3) := by decide +kernel
theorem dX7_kindOf_53 : decode cX7_kindOf 53 = .ok (.iconst 3, 1) := by decide +kernel
theorem dX7_kindOf_54 : decode cX7_kindOf 54 = .ok (.goto 4, 3) := by decide +kernel
theorem dX7_kindOf_57 : decode cX7_kindOf 57 = .ok (.iconst 0, 1) := by decide +kernel
theorem dX7_kindOf_58 : decode cX7_kindOf 58 = .ok (.ireturn, 1) := by decide +kernel
theorem dX7_countOf_0 : decode cX7_countOf 0 = .ok (.iload_n 1, 1) := by decide +kernel
theorem dX7_countOf_1 : decode cX7_countOf 1 = .ok (.iconst 1, 1) := by decide +kernel
theorem dX7_countOf_2 : decode cX7_countOf 2 = .ok (.if_icmp .ne 10, 3) := by decide +kernel
theorem dX7_countOf_5 : decode cX7_countOf 5 = .ok (.aload_n 0, 1) := by decide +kernel
theorem dX7_countOf_6 : decode cX7_countOf 6 = .ok (.getfield 9, 3) := by decide +kernel
theorem dX7_countOf_9 : decode cX7_countOf 9 = .ok (.goto 19, 3) := by decide +kernel
theorem dX7_countOf_12 : decode cX7_countOf 12 = .ok (.iload_n 1, 1) := by decide +kernel
theorem dX7_countOf_13 : decode cX7_countOf 13 = .ok (.iconst 2, 1) := by decide +kernel
theorem dX7_countOf_14 : decode cX7_countOf 14 = .ok (.if_icmp .ne 10, 3) := by decide +kernel
theorem dX7_countOf_17 : decode cX7_countOf 17 = .ok (.aload_n 0, 1) := by decide +kernel
theorem dX7_countOf_18 : decode cX7_countOf 18 = .ok (.getfield 15, 3) := by decide +kernel
theorem dX7_countOf_21 : decode cX7_countOf 21 = .ok (.goto 7, 3) := by decide +kernel
theorem dX7_countOf_24 : decode cX7_countOf 24 = .ok (.aload_n 0, 1) := by decide +kernel
theorem dX7_countOf_25 : decode cX7_countOf 25 = .ok (.getfield 18, 3) := by decide +kernel
theorem dX7_countOf_28 : decode cX7_countOf 28 = .ok (.astore_n 2, 1) := by decide +kernel
theorem dX7_countOf_29 : decode cX7_countOf 29 = .ok (.iconst 0, 1) := by decide +kernel
theorem dX7_countOf_30 : decode cX7_countOf 30 = .ok (.istore_n 3, 1) := by decide +kernel
theorem dX7_countOf_31 : decode cX7_countOf 31 = .ok (.iconst 0, 1) := by decide +kernel
theorem dX7_countOf_32 : decode cX7_countOf 32 = .ok (.istore 4, 2) := by decide +kernel
theorem dX7_countOf_34 : decode cX7_countOf 34 = .ok (.iload 4, 2) := by decide +kernel
theorem dX7_countOf_36 : decode cX7_countOf 36 = .ok (.aload_n 2, 1) := by decide +kernel
theorem dX7_countOf_37 : decode cX7_countOf 37 = .ok (.arraylength, 1) := by decide +kernel
theorem dX7_countOf_38 : decode cX7_countOf 38 = .ok (.if_icmp .ge 19, 3) := by decide +kernel
theorem dX7_countOf_41 : decode cX7_countOf 41 = .ok (.iload_n 3, 1) := by decide +kernel
theorem dX7_countOf_42 : decode cX7_countOf 42 = .ok (.aload_n 2, 1) := by decide +kernel
theorem dX7_countOf_43 : decode cX7_countOf 43 = .ok (.iload 4, 2) := by decide +kernel
theorem dX7_countOf_45 : decode cX7_countOf 45 = .ok (.iaload, 1) := by decide +kernel
theorem dX7_countOf_46 : decode cX7_countOf 46 = .ok (.invokestatic 37, 3) := by decide +kernel
theorem dX7_countOf_49 : decode cX7_countOf 49 = .ok (.iadd, 1) := by decide +kernel
theorem dX7_countOf_50 : decode cX7_countOf 50 = .ok (.istore_n 3, 1) := by decide +kernel
theorem dX7_countOf_51 : decode cX7_countOf 51 = .ok (.iinc 4 1, 3) := by decide +kernel
theorem dX7_countOf_54 : decode cX7_countOf 54 = .ok (.goto (-20), 3) := by decide +kernel
theorem dX7_countOf_57 : decode cX7_countOf 57 = .ok (.iload_n 3, 1) := by decide +kernel
theorem dX7_countOf_58 : decode cX7_countOf 58 = .ok (.ireturn, 1) := by decide +kernel
theorem dX7_record_0 : decode cX7_record 0 = .ok (.iload_n 1, 1) := by decide +kernel
theorem dX7_record_1 : decode cX7_record 1 = .ok (.ifCond .lt 55, 3) := by decide +kernel
theorem dX7_record_4 : decode cX7_record 4 = .ok (.iload_n 1, 1) := by decide +kernel
theorem dX7_record_5 : decode cX7_record 5 = .ok (.bipush 6, 2) := by decide +kernel
theorem dX7_record_7 : decode cX7_record 7 = .ok (.if_icmp .ge 49, 3) := by decide +kernel
theorem dX7_record_10 : decode cX7_record 10 = .ok (.aload_n 0, 1) := by decide +kernel
theorem dX7_record_11 : decode cX7_record 11 = .ok (.getfield 9, 3) := by decide +kernel
theorem dX7_record_14 : decode cX7_record 14 = .ok (.iload_n 1, 1) := by decide +kernel
theorem dX7_record_15 : decode cX7_record 15 = .ok (.dup2, 1) := by decide +kernel
theorem dX7_record_16 : decode cX7_record 16 = .ok (.iaload, 1) := by decide +kernel
theorem dX7_record_17 : decode cX7_record 17 = .ok (.aload_n 2, 1) := by decide +kernel
theorem dX7_record_18 : decode cX7_record 18 = .ok (.getfield 43, 3) := by decide +kernel
theorem dX7_record_21 : decode cX7_record 21 = .ok (.aload_n 2, 1) := by decide +kernel
theorem dX7_record_22 : decode cX7_record 22 = .ok (.getfield 48, 3) := by decide +kernel
theorem dX7_record_25 : decode cX7_record 25 = .ok (.ior, 1) := by decide +kernel
theorem dX7_record_26 : decode cX7_record 26 = .ok (.iconst (-1), 1) := by decide +kernel
theorem dX7_record_27 : decode cX7_record 27 = .ok (.ixor, 1) := by decide +kernel
theorem dX7_record_28 : decode cX7_record 28 = .ok (.iand, 1) := by decide +kernel
theorem dX7_record_29 : decode cX7_record 29 = .ok (.iastore, 1) := by decide +kernel
theorem dX7_record_30 : decode cX7_record 30 = .ok (.aload_n 0, 1) := by decide +kernel
theorem dX7_record_31 : decode cX7_record 31 = .ok (.getfield 15, 3) := by decide +kernel
theorem dX7_record_34 : decode cX7_record 34 = .ok (.iload_n 1, 1) := by decide +kernel
theorem dX7_record_35 : decode cX7_record 35 = .ok (.dup2, 1) := by decide +kernel
theorem dX7_record_36 : decode cX7_record 36 = .ok (.iaload, 1) := by decide +kernel
theorem dX7_record_37 : decode cX7_record 37 = .ok (.aload_n 2, 1) := by decide +kernel
theorem dX7_record_38 : decode cX7_record 38 = .ok (.getfield 43, 3) := by decide +kernel
theorem dX7_record_41 : decode cX7_record 41 = .ok (.ior, 1) := by decide +kernel
theorem dX7_record_42 : decode cX7_record 42 = .ok (.iastore, 1) := by decide +kernel
theorem dX7_record_43 : decode cX7_record 43 = .ok (.aload_n 0, 1) := by decide +kernel
theorem dX7_record_44 : decode cX7_record 44 = .ok (.getfield 18, 3) := by decide +kernel
theorem dX7_record_47 : decode cX7_record 47 = .ok (.iload_n 1, 1) := by decide +kernel
theorem dX7_record_48 : decode cX7_record 48 = .ok (.dup2, 1) := by decide +kernel
theorem dX7_record_49 : decode cX7_record 49 = .ok (.iaload, 1) := by decide +kernel
theorem dX7_record_50 : decode cX7_record 50 = .ok (.aload_n 2, 1) := by decide +kernel
theorem dX7_record_51 : decode cX7_record 51 = .ok (.getfield 48, 3) := by decide +kernel
theorem dX7_record_54 : decode cX7_record 54 = .ok (.ior, 1) := by decide +kernel
theorem dX7_record_55 : decode cX7_record 55 = .ok (.iastore, 1) := by decide +kernel
theorem dX7_record_56 : decode cX7_record 56 = .ok (.aload_n 0, 1) := by decide +kernel
theorem dX7_record_57 : decode cX7_record 57 = .ok (.dup, 1) := by decide +kernel
theorem dX7_record_58 : decode cX7_record 58 = .ok (.getfield 27, 3) := by decide +kernel
theorem dX7_record_61 : decode cX7_record 61 = .ok (.aload_n 2, 1) := by decide +kernel
theorem dX7_record_62 : decode cX7_record 62 = .ok (.getfield 51, 3) := by decide +kernel
theorem dX7_record_65 : decode cX7_record 65 = .ok (.iadd, 1) := by decide +kernel
theorem dX7_record_66 : decode cX7_record 66 = .ok (.putfield 27, 3) := by decide +kernel
theorem dX7_record_69 : decode cX7_record 69 = .ok (.aload_n 0, 1) := by decide +kernel
theorem dX7_record_70 : decode cX7_record 70 = .ok (.dup, 1) := by decide +kernel
theorem dX7_record_71 : decode cX7_record 71 = .ok (.getfield 34, 3) := by decide +kernel
theorem dX7_record_74 : decode cX7_record 74 = .ok (.aload_n 2, 1) := by decide +kernel
theorem dX7_record_75 : decode cX7_record 75 = .ok (.invokevirtual 54, 3) := by decide +kernel
theorem dX7_record_78 : decode cX7_record 78 = .ok (.iadd, 1) := by decide +kernel
theorem dX7_record_79 : decode cX7_record 79 = .ok (.putfield 34, 3) := by decide +kernel
theorem dX7_record_82 : decode cX7_record 82 = .ok (.return_, 1) := by decide +kernel
theorem dX8_init_0 : decode cX8_init 0 = .ok (.aload_n 0, 1) := by decide +kernel
theorem dX8_init_1 : decode cX8_init 1 = .ok (.invokespecial 3, 3) := by decide +kernel
theorem dX8_init_4 : decode cX8_init 4 = .ok (.aload_n 0, 1) := by decide +kernel
theorem dX8_init_5 : decode cX8_init 5 = .ok (.bipush 16, 2) := by decide +kernel
theorem dX8_init_7 : decode cX8_init 7 = .ok (.newarray .int, 2) := by decide +kernel
theorem dX8_init_9 : decode cX8_init 9 = .ok (.putfield 9, 3) := by decide +kernel
theorem dX8_init_12 : decode cX8_init 12 = .ok (.aload_n 0, 1) := by decide +kernel
theorem dX8_init_13 : decode cX8_init 13 = .ok (.iconst (-1), 1) := by decide +kernel
theorem dX8_init_14 : decode cX8_init 14 = .ok (.putfield 15, 3) := by decide +kernel
theorem dX8_init_17 : decode cX8_init 17 = .ok (.aload_n 0, 1) := by decide +kernel
theorem dX8_init_18 : decode cX8_init 18 = .ok (.iconst (-1), 1) := by decide +kernel
theorem dX8_init_19 : decode cX8_init 19 = .ok (.putfield 19, 3) := by decide +kernel
theorem dX8_init_22 : decode cX8_init 22 = .ok (.aload_n 0, 1) := by decide +kernel
theorem dX8_init_23 : decode cX8_init 23 = .ok (.iload_n 1, 1) := by decide +kernel
theorem dX8_init_24 : decode cX8_init 24 = .ok (.putfield 22, 3) := by decide +kernel
theorem dX8_init_27 : decode cX8_init 27 = .ok (.return_, 1) := by decide +kernel
theorem dX8_weightAt_0 : decode cX8_weightAt 0 = .ok (.iload_n 1, 1) := by decide +kernel
theorem dX8_weightAt_1 : decode cX8_weightAt 1 = .ok (.ifCond .lt 21, 3) := by decide +kernel
theorem dX8_weightAt_4 : decode cX8_weightAt 4 = .ok (.iload_n 1, 1) := by decide +kernel
theorem dX8_weightAt_5 : decode cX8_weightAt 5 = .ok (.aload_n 0, 1) := by decide +kernel
theorem dX8_weightAt_6 : decode cX8_weightAt 6 = .ok (.getfield 9, 3) := by decide +kernel
theorem dX8_weightAt_9 : decode cX8_weightAt 9 = .ok (.arraylength, 1) := by decide +kernel
theorem dX8_weightAt_10 : decode cX8_weightAt 10 = .ok (.if_icmp .ge 12, 3) := by decide +kernel
theorem dX8_weightAt_13 : decode cX8_weightAt 13 = .ok (.aload_n 0, 1) := by decide +kernel
theorem dX8_weightAt_14 : decode cX8_weightAt 14 = .ok (.getfield 9, 3) := by decide +kernel
theorem dX8_weightAt_17 : decode cX8_weightAt 17 = .ok (.iload_n 1, 1) := by decide +kernel
theorem dX8_weightAt_18 : decode cX8_weightAt 18 = .ok (.iaload, 1) := by decide +kernel
theorem dX8_weightAt_19 : decode cX8_weightAt 19 = .ok (.goto 4, 3) := by decide +kernel
theorem dX8_weightAt_22 : decode cX8_weightAt 22 = .ok (.iconst 0, 1) := by decide +kernel
theorem dX8_weightAt_23 : decode cX8_weightAt 23 = .ok (.ireturn, 1) := by decide +kernel
theorem dX8_bins_0 : decode cX8_bins 0 = .ok (.iconst 0, 1) := by decide +kernel
theorem dX8_bins_1 : decode cX8_bins 1 = .ok (.istore_n 1, 1) := by decide +kernel
theorem dX8_bins_2 : decode cX8_bins 2 = .ok (.iconst 0, 1) := by decide +kernel
theorem dX8_bins_3 : decode cX8_bins 3 = .ok (.istore_n 2, 1) := by decide +kernel
theorem dX8_bins_4 : decode cX8_bins 4 = .ok (.iload_n 2, 1) := by decide +kernel
theorem dX8_bins_5 : decode cX8_bins 5 = .ok (.aload_n 0, 1) := by decide +kernel
theorem dX8_bins_6 : decode cX8_bins 6 = .ok (.getfield 9, 3) := by decide +kernel
theorem dX8_bins_9 : decode cX8_bins 9 = .ok (.arraylength, 1) := by decide +kernel
theorem dX8_bins_10 : decode cX8_bins 10 = .ok (.if_icmp .ge 24, 3) := by decide +kernel
theorem dX8_bins_13 : decode cX8_bins 13 = .ok (.aload_n 0, 1) := by decide +kernel
theorem dX8_bins_14 : decode cX8_bins 14 = .ok (.getfield 9, 3) := by decide +kernel
theorem dX8_bins_17 : decode cX8_bins 17 = .ok (.iload_n 2, 1) := by decide +kernel
theorem dX8_bins_18 : decode cX8_bins 18 = .ok (.iaload, 1) := by decide +kernel
theorem dX8_bins_19 : decode cX8_bins 19 = .ok (.ifCond .eq 9, 3) := by decide +kernel
theorem dX8_bins_22 : decode cX8_bins 22 = .ok (.iload_n 1, 1) := by decide +kernel
theorem dX8_bins_23 : decode cX8_bins 23 = .ok (.iconst 1, 1) := by decide +kernel
theorem dX8_bins_24 : decode cX8_bins 24 = .ok (.iload_n 2, 1) := by decide +kernel
theorem dX8_bins_25 : decode cX8_bins 25 = .ok (.ishl, 1) := by decide +kernel
theorem dX8_bins_26 : decode cX8_bins 26 = .ok (.ior, 1) := by decide +kernel
theorem dX8_bins_27 : decode cX8_bins 27 = .ok (.istore_n 1, 1) := by decide +kernel
theorem dX8_bins_28 : decode cX8_bins 28 = .ok (.iinc 2 1, 3) := by decide +kernel
theorem dX8_bins_31 : decode cX8_bins 31 = .ok (.goto (-27), 3) := by decide +kernel
theorem dX8_bins_34 : decode cX8_bins 34 = .ok (.iload_n 1, 1) := by decide +kernel
theorem dX8_bins_35 : decode cX8_bins 35 = .ok (.ireturn, 1) := by decide +kernel
theorem dX8_isBarred_0 : decode cX8_isBarred 0 = .ok (.iload_n 1, 1) := by decide +kernel
theorem dX8_isBarred_1 : decode cX8_isBarred 1 = .ok (.bipush 60, 2) := by decide +kernel
theorem dX8_isBarred_3 : decode cX8_isBarred 3 = .ok (.idiv, 1) := by decide +kernel
theorem dX8_isBarred_4 : decode cX8_isBarred 4 = .ok (.istore_n 2, 1) := by decide +kernel
theorem dX8_isBarred_5 : decode cX8_isBarred 5 = .ok (.aload_n 0, 1) := by decide +kernel
theorem dX8_isBarred_6 : decode cX8_isBarred 6 = .ok (.getfield 15, 3) := by decide +kernel
theorem dX8_isBarred_9 : decode cX8_isBarred 9 = .ok (.ifCond .lt 23, 3) := by decide +kernel
theorem dX8_isBarred_12 : decode cX8_isBarred 12 = .ok (.iload_n 2, 1) := by decide +kernel
theorem dX8_isBarred_13 : decode cX8_isBarred 13 = .ok (.aload_n 0, 1) := by decide +kernel
theorem dX8_isBarred_14 : decode cX8_isBarred 14 = .ok (.getfield 15, 3) := by decide +kernel
theorem dX8_isBarred_17 : decode cX8_isBarred 17 = .ok (.if_icmp .lt 15, 3) := by decide +kernel
theorem dX8_isBarred_20 : decode cX8_isBarred 20 = .ok (.iload_n 2, 1) := by decide +kernel
theorem dX8_isBarred_21 : decode cX8_isBarred 21 = .ok (.aload_n 0, 1) := by decide +kernel
theorem dX8_isBarred_22 : decode cX8_isBarred 22 = .ok (.getfield 19, 3) := by decide +kernel
theorem dX8_isBarred_25 : decode cX8_isBarred 25 = .ok (.if_icmp .gt 7, 3) := by decide +kernel
theorem dX8_isBarred_28 : decode cX8_isBarred 28 = .ok (.iconst 1, 1) := by decide +kernel
theorem dX8_isBarred_29 : decode cX8_isBarred 29 = .ok (.goto 4, 3) := by decide +kernel
theorem dX8_isBarred_32 : decode cX8_isBarred 32 = .ok (.iconst 0, 1) := by decide +kernel
theorem dX8_isBarred_33 : decode cX8_isBarred 33 = .ok (.ireturn, 1) := by decide +kernel
theorem dX8_openFrom_0 : decode cX8_openFrom 0 = .ok (.aload_n 0, 1) := by decide +kernel
theorem dX8_openFrom_1 : decode cX8_openFrom 1 = .ok (.iload_n 1, 1) := by decide +kernel
theorem dX8_openFrom_2 : decode cX8_openFrom 2 = .ok (.invokevirtual 25, 3) := by decide +kernel
theorem dX8_openFrom_5 : decode cX8_openFrom 5 = .ok (.ifCond .eq 15, 3) := by decide +kernel
theorem dX8_openFrom_8 : decode cX8_openFrom 8 = .ok (.aload_n 0, 1) := by decide +kernel
theorem dX8_openFrom_9 : decode cX8_openFrom 9 = .ok (.getfield 19, 3) := by decide +kernel
theorem dX8_openFrom_12 : decode cX8_openFrom 12 = .ok (.iconst 1, 1) := by decide +kernel
theorem dX8_openFrom_13 : decode cX8_openFrom 13 = .ok (.iadd, 1) := by decide +kernel
theorem dX8_openFrom_14 : decode cX8_openFrom 14 = .ok (.bipush 60, 2) := by decide +kernel
theorem dX8_openFrom_16 : decode cX8_openFrom 16 = .ok (.imul, 1) := by decide +kernel
theorem dX8_openFrom_17 : decode cX8_openFrom 17 = .ok (.goto 4, 3) := by decide +kernel
theorem dX8_openFrom_20 : decode cX8_openFrom 20 = .ok (.iload_n 1, 1) := by decide +kernel
theorem dX8_openFrom_21 : decode cX8_openFrom 21 = .ok (.ireturn, 1) := by decide +kernel
theorem dX8_read_0 : decode cX8_read 0 = .ok (.aload_n 1, 1) := by decide +kernel
theorem dX8_read_1 : decode cX8_read 1 = .ok (.bipush 115, 2) := by decide +kernel
theorem dX8_read_3 : decode cX8_read 3 = .ok (.invokevirtual 29, 3) := by decide +kernel
theorem dX8_read_6 : decode cX8_read 6 = .ok (.ifCond .ne 5, 3) := by decide +kernel
theorem dX8_read_9 : decode cX8_read 9 = .ok (.iconst 0, 1) := by decide +kernel
theorem dX8_read_10 : decode cX8_read 10 = .ok (.ireturn, 1) := by decide +kernel
theorem dX8_read_11 : decode cX8_read 11 = .ok (.aload_n 0, 1) := by decide +kernel
theorem dX8_read_12 : decode cX8_read 12 = .ok (.aload_n 1, 1) := by decide +kernel
theorem dX8_read_13 : decode cX8_read 13 = .ok (.iconst 2, 1) := by decide +kernel
theorem dX8_read_14 : decode cX8_read 14 = .ok (.invokevirtual 35, 3) := by decide +kernel
theorem dX8_read_17 : decode cX8_read 17 = .ok (.putfield 38, 3) := by decide +kernel
theorem dX8_read_20 : decode cX8_read 20 = .ok (.aload_n 0, 1) := by decide +kernel
theorem dX8_read_21 : decode cX8_read 21 = .ok (.getfield 38, 3) := by decide +kernel
theorem dX8_read_24 : decode cX8_read 24 = .ok (.ifCond .lt 20, 3) := by decide +kernel
theorem dX8_read_27 : decode cX8_read 27 = .ok (.aload_n 1, 1) := by decide +kernel
theorem dX8_read_28 : decode cX8_read 28 = .ok (.bipush 58, 2) := by decide +kernel
theorem dX8_read_30 : decode cX8_read 30 = .ok (.invokevirtual 29, 3) := by decide +kernel
theorem dX8_read_33 : decode cX8_read 33 = .ok (.ifCond .eq 11, 3) := by decide +kernel
theorem dX8_read_36 : decode cX8_read 36 = .ok (.aload_n 0, 1) := by decide +kernel
theorem dX8_read_37 : decode cX8_read 37 = .ok (.aload_n 1, 1) := by decide +kernel
theorem dX8_read_38 : decode cX8_read 38 = .ok (.invokevirtual 41, 3) := by decide +kernel
theorem dX8_read_41 : decode cX8_read 41 = .ok (.ifCond .ne 5, 3) := by decide +kernel
theorem dX8_read_44 : decode cX8_read 44 = .ok (.iconst 0, 1) := by decide +kernel
theorem dX8_read_45 : decode cX8_read 45 = .ok (.ireturn, 1) := by decide +kernel
theorem dX8_read_46 : decode cX8_read 46 = .ok (.aload_n 0, 1) := by decide +kernel
theorem dX8_read_47 : decode cX8_read 47 = .ok (.aload_n 1, 1) := by decide +kernel
theorem dX8_read_48 : decode cX8_read 48 = .ok (.bipush 33, 2) := by decide +kernel
theorem dX8_read_50 : decode cX8_read 50 = .ok (.invokevirtual 29, 3) := by decide +kernel
theorem dX8_read_53 : decode cX8_read 53 = .ok (.putfield 45, 3) := by decide +kernel
theorem dX8_read_56 : decode cX8_read 56 = .ok (.aload_n 0, 1) := by decide +kernel
theorem dX8_read_57 : decode cX8_read 57 = .ok (.aload_n 1, 1) := by decide +kernel
theorem dX8_read_58 : decode cX8_read 58 = .ok (.bipush 117, 2) := by decide +kernel
theorem dX8_read_60 : decode cX8_read 60 = .ok (.invokevirtual 29, 3) := by decide +kernel
theorem dX8_read_63 : decode cX8_read 63 = .ok (.ifCond .eq 7, 3) := by decide +kernel
theorem dX8_read_66 : decode cX8_read 66 = .ok (.iconst 1, 1) := by decide +kernel
theorem dX8_read_67 : decode cX8_read 67 = .ok (.goto 17, 3) := by decide +kernel
theorem dX8_read_70 : decode cX8_read 70 = .ok (.aload_n 1, 1) := by decide +kernel
theorem dX8_read_71 : decode cX8_read 71 = .ok (.bipush 100, 2) := by decide +kernel
theorem dX8_read_73 : decode cX8_read 73 = .ok (.invokevirtual 29, 3) := by decide +kernel
theorem dX8_read_76 : decode cX8_read 76 = .ok (.ifCond .eq 7, 3) := by decide +kernel
theorem dX8_read_79 : decode cX8_read 79 = .ok (.iconst (-1), 1) := by decide +kernel
theorem dX8_read_80 : decode cX8_read 80 = .ok (.goto 4, 3) := by decide +kernel
theorem dX8_read_83 : decode cX8_read 83 = .ok (.iconst 0, 1) := by decide +kernel
theorem dX8_read_84 : decode cX8_read 84 = .ok (.putfield 49, 3) := by decide +kernel
theorem dX8_read_87 : decode cX8_read 87 = .ok (.aload_n 0, 1) := by decide +kernel
theorem dX8_read_88 : decode cX8_read 88 = .ok (.aload_n 1, 1) := by decide +kernel
theorem dX8_read_89 : decode cX8_read 89 = .ok (.invokevirtual 52, 3) := by decide +kernel
theorem dX8_read_92 : decode cX8_read 92 = .ok (.ireturn, 1) := by decide +kernel
theorem dX8_readSides_0 : decode cX8_readSides 0 = .ok (.aload_n 0, 1) := by decide +kernel
theorem dX8_readSides_1 : decode cX8_readSides 1 = .ok (.getfield 9, 3) := by decide +kernel
theorem dX8_readSides_4 : decode cX8_readSides 4 = .ok (.iconst 0, 1) := by decide +kernel
theorem dX8_readSides_5 : decode cX8_readSides 5 = .ok (.invokestatic 55, 3) := by decide +kernel
theorem dX8_readSides_8 : decode cX8_readSides 8 = .ok (.aload_n 0, 1) := by decide +kernel
theorem dX8_readSides_9 : decode cX8_readSides 9 = .ok (.aload_n 0, 1) := by decide +kernel
theorem dX8_readSides_10 : decode cX8_readSides 10 = .ok (.aload_n 1, 1) := by decide +kernel
theorem dX8_readSides_11 : decode cX8_readSides 11 = .ok (.iconst 0, 1) := by decide +kernel
theorem dX8_readSides_12 : decode cX8_readSides 12 = .ok (.bipush 8, 2) := by decide +kernel
theorem dX8_readSides_14 : decode cX8_readSides 14 = .ok (.invokevirtual 61, 3) := by decide +kernel
theorem dX8_readSides_17 : decode cX8_readSides 17 = .ok (.putfield 65, 3) := by decide +kernel
theorem dX8_readSides_20 : decode cX8_readSides 20 = .ok (.aload_n 0, 1) := by decide +kernel
theorem dX8_readSides_21 : decode cX8_readSides 21 = .ok (.getfield 65, 3) := by decide +kernel
theorem dX8_readSides_24 : decode cX8_readSides 24 = .ok (.ifCond .le 34, 3) := by decide +kernel
theorem dX8_readSides_27 : decode cX8_readSides 27 = .ok (.aload_n 1, 1) := by decide +kernel
theorem dX8_readSides_28 : decode cX8_readSides 28 = .ok (.bipush 47, 2) := by decide +kernel
theorem dX8_readSides_30 : decode cX8_readSides 30 = .ok (.invokevirtual 29, 3) := by decide +kernel
theorem dX8_readSides_33 : decode cX8_readSides 33 = .ok (.ifCond .eq 25, 3) := by decide +kernel
theorem dX8_readSides_36 : decode cX8_readSides 36 = .ok (.aload_n 0, 1) := by decide +kernel
theorem dX8_readSides_37 : decode cX8_readSides 37 = .ok (.aload_n 1, 1) := by decide +kernel
theorem dX8_readSides_38 : decode cX8_readSides 38 = .ok (.bipush 8, 2) := by decide +kernel
theorem dX8_readSides_40 : decode cX8_readSides 40 = .ok (.aload_n 0, 1) := by decide +kernel
theorem dX8_readSides_41 : decode cX8_readSides 41 = .ok (.getfield 65, 3) := by decide +kernel
theorem dX8_readSides_44 : decode cX8_readSides 44 = .ok (.invokevirtual 61, 3) := by decide +kernel
theorem dX8_readSides_47 : decode cX8_readSides 47 = .ok (.aload_n 0, 1) := by decide +kernel
theorem dX8_readSides_48 : decode cX8_readSides 48 = .ok (.getfield 65, 3) := by decide +kernel
theorem dX8_readSides_51 : decode cX8_readSides 51 = .ok (.if_icmp .ne 7, 3) := by decide +kernel
theorem dX8_readSides_54 : decode cX8_readSides 54 = .ok (.iconst 1, 1) := by decide +kernel
theorem dX8_readSides_55 : decode cX8_readSides 55 = .ok (.goto 4, 3) := by decide +kernel
theorem dX8_readSides_58 : decode cX8_readSides 58 = .ok (.iconst 0, 1) := by decide +kernel
theorem dX8_readSides_59 : decode cX8_readSides 59 = .ok (.ireturn, 1) := by decide +kernel
theorem dX8_readSide_0 : decode cX8_readSide 0 = .ok (.iconst 0, 1) := by decide +kernel
theorem dX8_readSide_1 : decode cX8_readSide 1 = .ok (.istore 4, 2) := by decide +kernel
theorem dX8_readSide_3 : decode cX8_readSide 3 = .ok (.iload 4, 2) := by decide +kernel
theorem dX8_readSide_5 : decode cX8_readSide 5 = .ok (.iload_n 3, 1) := by decide +kernel
theorem dX8_readSide_6 : decode cX8_readSide 6 = .ok (.if_icmp .ge 55, 3) := by decide +kernel
theorem dX8_readSide_9 : decode cX8_readSide 9 = .ok (.aload_n 1, 1) := by decide +kernel
theorem dX8_readSide_10 : decode cX8_readSide 10 = .ok (.bipush 10, 2) := by decide +kernel
theorem dX8_readSide_12 : decode cX8_readSide 12 = .ok (.invokevirtual 68, 3) := by decide +kernel
theorem dX8_readSide_15 : decode cX8_readSide 15 = .ok (.istore 5, 2) := by decide +kernel
theorem dX8_readSide_17 : decode cX8_readSide 17 = .ok (.iload_n 2, 1) := by decide +kernel
theorem dX8_readSide_18 : decode cX8_readSide 18 = .ok (.iload 4, 2) := by decide +kernel
theorem dX8_readSide_20 : decode cX8_readSide 20 = .ok (.iadd, 1) := by decide +kernel
theorem dX8_readSide_21 : decode cX8_readSide 21 = .ok (.istore 6, 2) := by decide +kernel
theorem dX8_readSide_23 : decode cX8_readSide 23 = .ok (.iload 5, 2) := by decide +kernel
theorem dX8_readSide_25 : decode cX8_readSide 25 = .ok (.ifCond .lt 18, 3) := by decide +kernel
theorem dX8_readSide_28 : decode cX8_readSide 28 = .ok (.iload 6, 2) := by decide +kernel
theorem dX8_readSide_30 : decode cX8_readSide 30 = .ok (.ifCond .lt 13, 3) := by decide +kernel
theorem dX8_readSide_33 : decode cX8_readSide 33 = .ok (.iload 6, 2) := by decide +kernel
theorem dX8_readSide_35 : decode cX8_readSide 35 = .ok (.aload_n 0, 1) := by decide +kernel
theorem dX8_readSide_36 : decode cX8_readSide 36 = .ok (.getfield 9, 3) := by decide +kernel
theorem dX8_readSide_39 : decode cX8_readSide 39 = .ok (.arraylength, 1) := by decide +kernel
theorem dX8_readSide_40 : decode cX8_readSide 40 = .ok (.if_icmp .lt 6, 3) := by decide +kernel
theorem dX8_readSide_43 : decode cX8_readSide 43 = .ok (.iload 4, 2) := by decide +kernel
theorem dX8_readSide_45 : decode cX8_readSide 45 = .ok (.ireturn, 1) := by decide +kernel
theorem dX8_readSide_46 : decode cX8_readSide 46 = .ok (.aload_n 0, 1) := by decide +kernel
theorem dX8_readSide_47 : decode cX8_readSide 47 = .ok (.getfield 9, 3) := by decide +kernel
theorem dX8_readSide_50 : decode cX8_readSide 50 = .ok (.iload 6, 2) := by decide +kernel
theorem dX8_readSide_52 : decode cX8_readSide 52 = .ok (.iload 5, 2) := by decide +kernel
theorem dX8_readSide_54 : decode cX8_readSide 54 = .ok (.iastore, 1) := by decide +kernel
theorem dX8_readSide_55 : decode cX8_readSide 55 = .ok (.iinc 4 1, 3) := by decide +kernel
theorem dX8_readSide_58 : decode cX8_readSide 58 = .ok (.goto (-55), 3) := by decide +kernel
theorem dX8_readSide_61 : decode cX8_readSide 61 = .ok (.iload_n 3, 1) := by decide +kernel
theorem dX8_readSide_62 : decode cX8_readSide 62 = .ok (.ireturn, 1) := by decide +kernel
theorem dX8_readBarred_0 : decode cX8_readBarred 0 = .ok (.aload_n 0, 1) := by decide +kernel
theorem dX8_readBarred_1 : decode cX8_readBarred 1 = .ok (.iconst (-1), 1) := by decide +kernel
theorem dX8_readBarred_2 : decode cX8_readBarred 2 = .ok (.putfield 15, 3) := by decide +kernel
theorem dX8_readBarred_5 : decode cX8_readBarred 5 = .ok (.aload_n 0, 1) := by decide +kernel
theorem dX8_readBarred_6 : decode cX8_readBarred 6 = .ok (.iconst (-1), 1) := by decide +kernel
theorem dX8_readBarred_7 : decode cX8_readBarred 7 = .ok (.putfield 19, 3) := by decide +kernel
theorem dX8_readBarred_10 : decode cX8_readBarred 10 = .ok (.aload_n 1, 1) := by decide +kernel
theorem dX8_readBarred_11 : decode cX8_readBarred 11 = .ok (.bipush 120, 2) := by decide +kernel
theorem dX8_readBarred_13 : decode cX8_readBarred 13 = .ok (.invokevirtual 29, 3) := by decide +kernel
theorem dX8_readBarred_16 : decode cX8_readBarred 16 = .ok (.ifCond .ne 5, 3) := by decide +kernel
theorem dX8_readBarred_19 : decode cX8_readBarred 19 = .ok (.iconst 1, 1) := by decide +kernel
theorem dX8_readBarred_20 : decode cX8_readBarred 20 = .ok (.ireturn, 1) := by decide +kernel
theorem dX8_readBarred_21 : decode cX8_readBarred 21 = .ok (.aload_n 0, 1) := by decide +kernel
theorem dX8_readBarred_22 : decode cX8_readBarred 22 = .ok (.aload_n 1, 1) := by decide +kernel
theorem dX8_readBarred_23 : decode cX8_readBarred 23 = .ok (.iconst 3, 1) := by decide +kernel
theorem dX8_readBarred_24 : decode cX8_readBarred 24 = .ok (.invokevirtual 35, 3) := by decide +kernel
theorem dX8_readBarred_27 : decode cX8_readBarred 27 = .ok (.putfield 15, 3) := by decide +kernel
theorem dX8_readBarred_30 : decode cX8_readBarred 30 = .ok (.aload_n 0, 1) := by decide +kernel
theorem dX8_readBarred_31 : decode cX8_readBarred 31 = .ok (.getfield 15, 3) := by decide +kernel
theorem dX8_readBarred_34 : decode cX8_readBarred 34 = .ok (.ifCond .lt 12, 3) := by decide +kernel
theorem dX8_readBarred_37 : decode cX8_readBarred 37 = .ok (.aload_n 1, 1) := by decide +kernel
theorem dX8_readBarred_38 : decode cX8_readBarred 38 = .ok (.bipush 45, 2) := by decide +kernel
theorem dX8_readBarred_40 : decode cX8_readBarred 40 = .ok (.invokevirtual 29, 3) := by decide +kernel
theorem dX8_readBarred_43 : decode cX8_readBarred 43 = .ok (.ifCond .ne 5, 3) := by decide +kernel
theorem dX8_readBarred_46 : decode cX8_readBarred 46 = .ok (.iconst 0, 1) := by decide +kernel
theorem dX8_readBarred_47 : decode cX8_readBarred 47 = .ok (.ireturn, 1) := by decide +kernel
theorem dX8_readBarred_48 : decode cX8_readBarred 48 = .ok (.aload_n 0, 1) := by decide +kernel
theorem dX8_readBarred_49 : decode cX8_readBarred 49 = .ok (.aload_n 1, 1) := by decide +kernel
theorem dX8_readBarred_50 : decode cX8_readBarred 50 = .ok (.iconst 3, 1) := by decide +kernel
theorem dX8_readBarred_51 : decode cX8_readBarred 51 = .ok (.invokevirtual 35, 3) := by decide +kernel
theorem dX8_readBarred_54 : decode cX8_readBarred 54 = .ok (.putfield 19, 3) := by decide +kernel
theorem dX8_readBarred_57 : decode cX8_readBarred 57 = .ok (.aload_n 0, 1) := by decide +kernel
theorem dX8_readBarred_58 : decode cX8_readBarred 58 = .ok (.getfield 19, 3) := by decide +kernel
theorem dX8_readBarred_61 : decode cX8_readBarred 61 = .ok (.ifCond .ge 5, 3) := by decide +kernel
theorem dX8_readBarred_64 : decode cX8_readBarred 64 = .ok (.iconst 0, 1) := by decide +kernel
theorem dX8_readBarred_65 : decode cX8_readBarred 65 = .ok (.ireturn, 1) := by decide +kernel
theorem dX8_readBarred_66 : decode cX8_readBarred 66 = .ok (.aload_n 0, 1) := by decide +kernel
theorem dX8_readBarred_67 : decode cX8_readBarred 67 = .ok (.getfield 19, 3) := by decide +kernel
theorem dX8_readBarred_70 : decode cX8_readBarred 70 = .ok (.aload_n 0, 1) := by decide +kernel
theorem dX8_readBarred_71 : decode cX8_readBarred 71 = .ok (.getfield 15, 3) := by decide +kernel
theorem dX8_readBarred_74 : decode cX8_readBarred 74 = .ok (.if_icmp .ge 9, 3) := by decide +kernel
theorem dX8_readBarred_77 : decode cX8_readBarred 77 = .ok (.aload_n 1, 1) := by decide +kernel
theorem dX8_readBarred_78 : decode cX8_readBarred 78 = .ok (.invokevirtual 71, 3) := by decide +kernel
theorem dX8_readBarred_81 : decode cX8_readBarred 81 = .ok (.iconst 0, 1) := by decide +kernel
theorem dX8_readBarred_82 : decode cX8_readBarred 82 = .ok (.ireturn, 1) := by decide +kernel
theorem dX8_readBarred_83 : decode cX8_readBarred 83 = .ok (.iconst 1, 1) := by decide +kernel
theorem dX8_readBarred_84 : decode cX8_readBarred 84 = .ok (.ireturn, 1) := by decide +kernel
theorem dX9_init_0 : decode cX9_init 0 = .ok (.aload_n 0, 1) := by decide +kernel
theorem dX9_init_1 : decode cX9_init 1 = .ok (.invokespecial 3, 3) := by decide +kernel
theorem dX9_init_4 : decode cX9_init 4 = .ok (.aload_n 0, 1) := by decide +kernel
theorem dX9_init_5 : decode cX9_init 5 = .ok (.bipush 80, 2) := by decide +kernel
theorem dX9_init_7 : decode cX9_init 7 = .ok (.newarray .int, 2) := by decide +kernel
theorem dX9_init_9 : decode cX9_init 9 = .ok (.putfield 9, 3) := by decide +kernel
theorem dX9_init_12 : decode cX9_init 12 = .ok (.return_, 1) := by decide +kernel
theorem dX9_append_0 : decode cX9_append 0 = .ok (.aload_n 0, 1) := by decide +kernel
theorem dX9_append_1 : decode cX9_append 1 = .ok (.getfield 15, 3) := by decide +kernel
theorem dX9_append_4 : decode cX9_append 4 = .ok (.iconst 4, 1) := by decide +kernel
theorem dX9_append_5 : decode cX9_append 5 = .ok (.iadd, 1) := by decide +kernel
theorem dX9_append_6 : decode cX9_append 6 = .ok (.aload_n 0, 1) := by decide +kernel
theorem dX9_append_7 : decode cX9_append 7 = .ok (.getfield 9, 3) := by decide +kernel
theorem dX9_append_10 : decode cX9_append 10 = .ok (.arraylength, 1) := by decide +kernel
theorem dX9_append_11 : decode cX9_append 11 = .ok (.if_icmp .le 5, 3) := by decide +kernel
theorem dX9_append_14 : decode cX9_append 14 = .ok (.iconst 0, 1) := by decide +kernel
theorem dX9_append_15 : decode cX9_append 15 = .ok (.ireturn, 1) := by decide +kernel
theorem dX9_append_16 : decode cX9_append 16 = .ok (.bipush 24, 2) := by decide +kernel
theorem dX9_append_18 : decode cX9_append 18 = .ok (.istore_n 2, 1) := by decide +kernel
theorem dX9_append_19 : decode cX9_append 19 = .ok (.iload_n 2, 1) := by decide +kernel
theorem dX9_append_20 : decode cX9_append 20 = .ok (.ifCond .lt 35, 3) := by decide +kernel
theorem dX9_append_23 : decode cX9_append 23 = .ok (.aload_n 0, 1) := by decide +kernel
theorem dX9_append_24 : decode cX9_append 24 = .ok (.getfield 9, 3) := by decide +kernel
theorem dX9_append_27 : decode cX9_append 27 = .ok (.aload_n 0, 1) := by decide +kernel
theorem dX9_append_28 : decode cX9_append 28 = .ok (.getfield 15, 3) := by decide +kernel
theorem dX9_append_31 : decode cX9_append 31 = .ok (.iload_n 1, 1) := by decide +kernel
theorem dX9_append_32 : decode cX9_append 32 = .ok (.iload_n 2, 1) := by decide +kernel
theorem dX9_append_33 : decode cX9_append 33 = .ok (.iushr, 1) := by decide +kernel
theorem dX9_append_34 : decode cX9_append 34 = .ok (.sipush 255, 3) := by decide +kernel
theorem dX9_append_37 : decode cX9_append 37 = .ok (.iand, 1) := by decide +kernel
theorem dX9_append_38 : decode cX9_append 38 = .ok (.iastore, 1) := by decide +kernel
theorem dX9_append_39 : decode cX9_append 39 = .ok (.aload_n 0, 1) := by decide +kernel
theorem dX9_append_40 : decode cX9_append 40 = .ok (.dup, 1) := by decide +kernel
theorem dX9_append_41 : decode cX9_append 41 = .ok (.getfield 15, 3) := by decide +kernel
theorem dX9_append_44 : decode cX9_append 44 = .ok (.iconst 1, 1) := by decide +kernel
theorem dX9_append_45 : decode cX9_append 45 = .ok (.iadd, 1) := by decide +kernel
theorem dX9_append_46 : decode cX9_append 46 = .ok (.putfield 15, 3) := by decide +kernel
theorem dX9_append_49 : decode cX9_append 49 = .ok (.iinc 2 (-8), 3) := by decide +kernel
theorem dX9_append_52 : decode cX9_append 52 = .ok (.goto (-33), 3) := by decide +kernel
theorem dX9_append_55 : decode cX9_append 55 = .ok (.iconst 1, 1) := by decide +kernel
theorem dX9_append_56 : decode cX9_append 56 = .ok (.ireturn, 1) := by decide +kernel
theorem dX9_shorten_0 : decode cX9_shorten 0 = .ok (.iload_n 1, 1) := by decide +kernel
theorem dX9_shorten_1 : decode cX9_shorten 1 = .ok (.ifCond .lt 11, 3) := by decide +kernel
theorem dX9_shorten_4 : decode cX9_shorten 4 = .ok (.iload_n 1, 1) := by decide +kernel
theorem dX9_shorten_5 : decode cX9_shorten 5 = .ok (.aload_n 0, 1) := by decide +kernel
theorem dX9_shorten_6 : decode cX9_shorten 6 = .ok (.getfield 15, 3) := by decide +kernel
theorem dX9_shorten_9 : decode cX9_shorten 9 = .ok (.if_icmp .le 5, 3) := by decide +kernel
theorem dX9_shorten_12 : decode cX9_shorten 12 = .ok (.iconst 0, 1) := by decide +kernel
theorem dX9_shorten_13 : decode cX9_shorten 13 = .ok (.ireturn, 1) := by decide +kernel
theorem dX9_shorten_14 : decode cX9_shorten 14 = .ok (.aload_n 0, 1) := by decide +kernel
theorem dX9_shorten_15 : decode cX9_shorten 15 = .ok (.iload_n 1, 1) := by decide +kernel
theorem dX9_shorten_16 : decode cX9_shorten 16 = .ok (.putfield 15, 3) := by decide +kernel
theorem dX9_shorten_19 : decode cX9_shorten 19 = .ok (.iconst 1, 1) := by decide +kernel
theorem dX9_shorten_20 : decode cX9_shorten 20 = .ok (.ireturn, 1) := by decide +kernel
theorem dX9_clear_0 : decode cX9_clear 0 = .ok (.aload_n 0, 1) := by decide +kernel
theorem dX9_clear_1 : decode cX9_clear 1 = .ok (.iconst 0, 1) := by decide +kernel
theorem dX9_clear_2 : decode cX9_clear 2 = .ok (.putfield 15, 3) := by decide +kernel
theorem dX9_clear_5 : decode cX9_clear 5 = .ok (.return_, 1) := by decide +kernel
theorem dX9_begin_0 : decode cX9_begin 0 = .ok (.aload_n 0, 1) := by decide +kernel
theorem dX9_begin_1 : decode cX9_begin 1 = .ok (.iconst 0, 1) := by decide +kernel
theorem dX9_begin_2 : decode cX9_begin 2 = .ok (.putfield 19, 3) := by decide +kernel
theorem dX9_begin_5 : decode cX9_begin 5 = .ok (.aload_n 0, 1) := by decide +kernel
theorem dX9_begin_6 : decode cX9_begin 6 = .ok (.aload_n 0, 1) := by decide +kernel
theorem dX9_begin_7 : decode cX9_begin 7 = .ok (.getfield 15, 3) := by decide +kernel
theorem dX9_begin_10 : decode cX9_begin 10 = .ok (.iload_n 1, 1) := by decide +kernel
theorem dX9_begin_11 : decode cX9_begin 11 = .ok (.invokestatic 22, 3) := by decide +kernel
theorem dX9_begin_14 : decode cX9_begin 14 = .ok (.putfield 28, 3) := by decide +kernel
theorem dX9_begin_17 : decode cX9_begin 17 = .ok (.return_, 1) := by decide +kernel
theorem dX9_isRead_0 : decode cX9_isRead 0 = .ok (.aload_n 0, 1) := by decide +kernel
theorem dX9_isRead_1 : decode cX9_isRead 1 = .ok (.getfield 19, 3) := by decide +kernel
theorem dX9_isRead_4 : decode cX9_isRead 4 = .ok (.aload_n 0, 1) := by decide +kernel
theorem dX9_isRead_5 : decode cX9_isRead 5 = .ok (.getfield 15, 3) := by decide +kernel
theorem dX9_isRead_8 : decode cX9_isRead 8 = .ok (.if_icmp .lt 7, 3) := by decide +kernel
theorem dX9_isRead_11 : decode cX9_isRead 11 = .ok (.iconst 1, 1) := by decide +kernel
theorem dX9_isRead_12 : decode cX9_isRead 12 = .ok (.goto 4, 3) := by decide +kernel
theorem dX9_isRead_15 : decode cX9_isRead 15 = .ok (.iconst 0, 1) := by decide +kernel
theorem dX9_isRead_16 : decode cX9_isRead 16 = .ok (.ireturn, 1) := by decide +kernel
theorem dX9_fault_0 : decode cX9_fault 0 = .ok (.iconst (-1), 1) := by decide +kernel
theorem dX9_fault_1 : decode cX9_fault 1 = .ok (.aload_n 0, 1) := by decide +kernel
theorem dX9_fault_2 : decode cX9_fault 2 = .ok (.getfield 19, 3) := by decide +kernel
theorem dX9_fault_5 : decode cX9_fault 5 = .ok (.isub, 1) := by decide +kernel
theorem dX9_fault_6 : decode cX9_fault 6 = .ok (.ireturn, 1) := by decide +kernel
theorem dX9_look_0 : decode cX9_look 0 = .ok (.aload_n 0, 1) := by decide +kernel
theorem dX9_look_1 : decode cX9_look 1 = .ok (.getfield 19, 3) := by decide +kernel
theorem dX9_look_4 : decode cX9_look 4 = .ok (.ifCond .lt 38, 3) := by decide +kernel
theorem dX9_look_7 : decode cX9_look 7 = .ok (.aload_n 0, 1) := by decide +kernel
theorem dX9_look_8 : decode cX9_look 8 = .ok (.getfield 19, 3) := by decide +kernel
theorem dX9_look_11 : decode cX9_look 11 = .ok (.aload_n 0, 1) := by decide +kernel
theorem dX9_look_12 : decode cX9_look 12 = .ok (.getfield 28, 3) := by decide +kernel
theorem dX9_look_15 : decode cX9_look 15 = .ok (.if_icmp .ge 27, 3) := by decide +kernel
theorem dX9_look_18 : decode cX9_look 18 = .ok (.aload_n 0, 1) := by decide +kernel
theorem dX9_look_19 : decode cX9_look 19 = .ok (.getfield 19, 3) := by decide +kernel
theorem dX9_look_22 : decode cX9_look 22 = .ok (.aload_n 0, 1) := by decide +kernel
theorem dX9_look_23 : decode cX9_look 23 = .ok (.getfield 9, 3) := by decide +kernel
theorem dX9_look_26 : decode cX9_look 26 = .ok (.arraylength, 1) := by decide +kernel
theorem dX9_look_27 : decode cX9_look 27 = .ok (.if_icmp .ge 15, 3) := by decide +kernel
theorem dX9_look_30 : decode cX9_look 30 = .ok (.aload_n 0, 1) := by decide +kernel
theorem dX9_look_31 : decode cX9_look 31 = .ok (.getfield 9, 3) := by decide +kernel
theorem dX9_look_34 : decode cX9_look 34 = .ok (.aload_n 0, 1) := by decide +kernel
theorem dX9_look_35 : decode cX9_look 35 = .ok (.getfield 19, 3) := by decide +kernel
theorem dX9_look_38 : decode cX9_look 38 = .ok (.iaload, 1) := by decide +kernel
theorem dX9_look_39 : decode cX9_look 39 = .ok (.goto 4, 3) := by decide +kernel
theorem dX9_look_42 : decode cX9_look 42 = .ok (.iconst (-1), 1) := by decide +kernel
theorem dX9_look_43 : decode cX9_look 43 = .ok (.ireturn, 1) := by decide +kernel
theorem dX9_pass_0 : decode cX9_pass 0 = .ok (.aload_n 0, 1) := by decide +kernel
theorem dX9_pass_1 : decode cX9_pass 1 = .ok (.dup, 1) := by decide +kernel
theorem dX9_pass_2 : decode cX9_pass 2 = .ok (.getfield 19, 3) := by decide +kernel
theorem dX9_pass_5 : decode cX9_pass 5 = .ok (.iconst 1, 1) := by decide +kernel
theorem dX9_pass_6 : decode cX9_pass 6 = .ok (.iadd, 1) := by decide +kernel
theorem dX9_pass_7 : decode cX9_pass 7 = .ok (.putfield 19, 3) := by decide +kernel
theorem dX9_pass_10 : decode cX9_pass 10 = .ok (.return_, 1) := by decide +kernel
theorem dX9_stepBack_0 : decode cX9_stepBack 0 = .ok (.aload_n 0, 1) := by decide +kernel
theorem dX9_stepBack_1 : decode cX9_stepBack 1 = .ok (.dup, 1) := by decide +kernel
theorem dX9_stepBack_2 : decode cX9_stepBack 2 = .ok (.getfield 19, 3) := by decide +kernel
theorem dX9_stepBack_5 : decode cX9_stepBack 5 = .ok (.iconst 1, 1) := by decide +kernel
theorem dX9_stepBack_6 : decode cX9_stepBack 6 = .ok (.isub, 1) := by decide +kernel
theorem dX9_stepBack_7 : decode cX9_stepBack 7 = .ok (.putfield 19, 3) := by decide +kernel
theorem dX9_stepBack_10 : decode cX9_stepBack 10 = .ok (.return_, 1) := by decide +kernel
theorem dX9_accept_0 : decode cX9_accept 0 = .ok (.aload_n 0, 1) := by decide +kernel
theorem dX9_accept_1 : decode cX9_accept 1 = .ok (.invokevirtual 31, 3) := by decide +kernel
theorem dX9_accept_4 : decode cX9_accept 4 = .ok (.iload_n 1, 1) := by decide +kernel
theorem dX9_accept_5 : decode cX9_accept 5 = .ok (.if_icmp .eq 5, 3) := by decide +kernel
theorem dX9_accept_8 : decode cX9_accept 8 = .ok (.iconst 0, 1) := by decide +kernel
theorem dX9_accept_9 : decode cX9_accept 9 = .ok (.ireturn, 1) := by decide +kernel
theorem dX9_accept_10 : decode cX9_accept 10 = .ok (.aload_n 0, 1) := by decide +kernel
theorem dX9_accept_11 : decode cX9_accept 11 = .ok (.invokevirtual 35, 3) := by decide +kernel
theorem dX9_accept_14 : decode cX9_accept 14 = .ok (.iconst 1, 1) := by decide +kernel
theorem dX9_accept_15 : decode cX9_accept 15 = .ok (.ireturn, 1) := by decide +kernel
theorem dX9_digitBelow_0 : decode cX9_digitBelow 0 = .ok (.aload_n 0, 1) := by decide +kernel
theorem dX9_digitBelow_1 : decode cX9_digitBelow 1 = .ok (.invokevirtual 31, 3) := by decide +kernel
theorem dX9_digitBelow_4 : decode cX9_digitBelow 4 = .ok (.bipush 48, 2) := by decide +kernel
theorem dX9_digitBelow_6 : decode cX9_digitBelow 6 = .ok (.isub, 1) := by decide +kernel
theorem dX9_digitBelow_7 : decode cX9_digitBelow 7 = .ok (.istore_n 2, 1) := by decide +kernel
theorem dX9_digitBelow_8 : decode cX9_digitBelow 8 = .ok (.iload_n 2, 1) := by decide +kernel
theorem dX9_digitBelow_9 : decode cX9_digitBelow 9 = .ok (.ifCond .lt 8, 3) := by decide +kernel
theorem dX9_digitBelow_12 : decode cX9_digitBelow 12 = .ok (.iload_n 2, 1) := by decide +kernel
theorem dX9_digitBelow_13 : decode cX9_digitBelow 13 = .ok (.iload_n 1, 1) := by decide +kernel
theorem dX9_digitBelow_14 : decode cX9_digitBelow 14 = .ok (.if_icmp .lt 5, 3) := by decide +kernel
theorem dX9_digitBelow_17 : decode cX9_digitBelow 17 = .ok (.iconst (-1), 1) := by decide +kernel
theorem dX9_digitBelow_18 : decode cX9_digitBelow 18 = .ok (.ireturn, 1) := by decide +kernel
theorem dX9_digitBelow_19 : decode cX9_digitBelow 19 = .ok (.aload_n 0, 1) := by decide +kernel
theorem dX9_digitBelow_20 : decode cX9_digitBelow 20 = .ok (.invokevirtual 35, 3) := by decide +kernel
theorem dX9_digitBelow_23 : decode cX9_digitBelow 23 = .ok (.iload_n 2, 1) := by decide +kernel
theorem dX9_digitBelow_24 : decode cX9_digitBelow 24 = .ok (.ireturn, 1) := by decide +kernel
theorem dX9_number_0 : decode cX9_number 0 = .ok (.iconst (-1), 1) := by decide +kernel
theorem dX9_number_1 : decode cX9_number 1 = .ok (.istore_n 2, 1) := by decide +kernel
theorem dX9_number_2 : decode cX9_number 2 = .ok (.iconst 0, 1) := by decide +kernel
theorem dX9_number_3 : decode cX9_number 3 = .ok (.istore_n 3, 1) := by decide +kernel
theorem dX9_number_4 : decode cX9_number 4 = .ok (.iload_n 3, 1) := by decide +kernel
theorem dX9_number_5 : decode cX9_number 5 = .ok (.iload_n 1, 1) := by decide +kernel
theorem dX9_number_6 : decode cX9_number 6 = .ok (.if_icmp .ge 53, 3) := by decide +kernel
theorem dX9_number_9 : decode cX9_number 9 = .ok (.aload_n 0, 1) := by decide +kernel
theorem dX9_number_10 : decode cX9_number 10 = .ok (.invokevirtual 31, 3) := by decide +kernel
theorem dX9_number_13 : decode cX9_number 13 = .ok (.bipush 48, 2) := by decide +kernel
theorem dX9_number_15 : decode cX9_number 15 = .ok (.isub, 1) := by decide +kernel
theorem dX9_number_16 : decode cX9_number 16 = .ok (.istore 4, 2) := by decide +kernel
theorem dX9_number_18 : decode cX9_number 18 = .ok (.iload 4, 2) := by decide +kernel
theorem dX9_number_20 : decode cX9_number 20 = .ok (.ifCond .lt 10, 3) := by decide +kernel
theorem dX9_number_23 : decode cX9_number 23 = .ok (.iload 4, 2) := by decide +kernel
theorem dX9_number_25 : decode cX9_number 25 = .ok (.bipush 9, 2) := by decide +kernel
theorem dX9_number_27 : decode cX9_number 27 = .ok (.if_icmp .le 5, 3) := by decide +kernel
theorem dX9_number_30 : decode cX9_number 30 = .ok (.iload_n 2, 1) := by decide +kernel
theorem dX9_number_31 : decode cX9_number 31 = .ok (.ireturn, 1) := by decide +kernel
theorem dX9_number_32 : decode cX9_number 32 = .ok (.aload_n 0, 1) := by decide +kernel
theorem dX9_number_33 : decode cX9_number 33 = .ok (.invokevirtual 35, 3) := by decide +kernel
theorem dX9_number_36 : decode cX9_number 36 = .ok (.iload_n 3, 1) := by decide +kernel
theorem dX9_number_37 : decode cX9_number 37 = .ok (.ifCond .ne 8, 3) := by decide +kernel
theorem dX9_number_40 : decode cX9_number 40 = .ok (.iload 4, 2) := by decide +kernel
theorem dX9_number_42 : decode cX9_number 42 = .ok (.goto 10, 3) := by decide +kernel
theorem dX9_number_45 : decode cX9_number 45 = .ok (.iload_n 2, 1) := by decide +kernel
theorem dX9_number_46 : decode cX9_number 46 = .ok (.bipush 10, 2) := by decide +kernel
theorem dX9_number_48 : decode cX9_number 48 = .ok (.imul, 1) := by decide +kernel
theorem dX9_number_49 : decode cX9_number 49 = .ok (.iload 4, 2) := by decide +kernel
theorem dX9_number_51 : decode cX9_number 51 = .ok (.iadd, 1) := by decide +kernel
theorem dX9_number_52 : decode cX9_number 52 = .ok (.istore_n 2, 1) := by decide +kernel
theorem dX9_number_53 : decode cX9_number 53 = .ok (.iinc 3 1, 3) := by decide +kernel
