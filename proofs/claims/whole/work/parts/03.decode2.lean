theorem dX9_number_56 : decode cX9_number 56 = .ok (.goto (-52), 3) := by decide +kernel
theorem dX9_number_59 : decode cX9_number 59 = .ok (.iload_n 2, 1) := by decide +kernel
theorem dX9_number_60 : decode cX9_number 60 = .ok (.ireturn, 1) := by decide +kernel
theorem dX10_init_0 : decode cX10_init 0 = .ok (.aload_n 0, 1) := by decide +kernel
theorem dX10_init_1 : decode cX10_init 1 = .ok (.invokespecial 3, 3) := by decide +kernel
theorem dX10_init_4 : decode cX10_init 4 = .ok (.aload_n 0, 1) := by decide +kernel
theorem dX10_init_5 : decode cX10_init 5 = .ok (.bipush 6, 2) := by decide +kernel
theorem dX10_init_7 : decode cX10_init 7 = .ok (.anewarray 9, 3) := by decide +kernel
theorem dX10_init_10 : decode cX10_init 10 = .ok (.putfield 11, 3) := by decide +kernel
theorem dX10_init_13 : decode cX10_init 13 = .ok (.iconst 0, 1) := by decide +kernel
theorem dX10_init_14 : decode cX10_init 14 = .ok (.istore_n 1, 1) := by decide +kernel
theorem dX10_init_15 : decode cX10_init 15 = .ok (.iload_n 1, 1) := by decide +kernel
theorem dX10_init_16 : decode cX10_init 16 = .ok (.aload_n 0, 1) := by decide +kernel
theorem dX10_init_17 : decode cX10_init 17 = .ok (.getfield 11, 3) := by decide +kernel
theorem dX10_init_20 : decode cX10_init 20 = .ok (.arraylength, 1) := by decide +kernel
theorem dX10_init_21 : decode cX10_init 21 = .ok (.if_icmp .ge 23, 3) := by decide +kernel
theorem dX10_init_24 : decode cX10_init 24 = .ok (.aload_n 0, 1) := by decide +kernel
theorem dX10_init_25 : decode cX10_init 25 = .ok (.getfield 11, 3) := by decide +kernel
theorem dX10_init_28 : decode cX10_init 28 = .ok (.iload_n 1, 1) := by decide +kernel
theorem dX10_init_29 : decode cX10_init 29 = .ok (.new 9, 3) := by decide +kernel
theorem dX10_init_32 : decode cX10_init 32 = .ok (.dup, 1) := by decide +kernel
theorem dX10_init_33 : decode cX10_init 33 = .ok (.iload_n 1, 1) := by decide +kernel
theorem dX10_init_34 : decode cX10_init 34 = .ok (.invokespecial 17, 3) := by decide +kernel
theorem dX10_init_37 : decode cX10_init 37 = .ok (.aastore, 1) := by decide +kernel
theorem dX10_init_38 : decode cX10_init 38 = .ok (.iinc 1 1, 3) := by decide +kernel
theorem dX10_init_41 : decode cX10_init 41 = .ok (.goto (-26), 3) := by decide +kernel
theorem dX10_init_44 : decode cX10_init 44 = .ok (.return_, 1) := by decide +kernel
theorem dX10_at_0 : decode cX10_at 0 = .ok (.iload_n 1, 1) := by decide +kernel
theorem dX10_at_1 : decode cX10_at 1 = .ok (.ifCond .lt 29, 3) := by decide +kernel
theorem dX10_at_4 : decode cX10_at 4 = .ok (.iload_n 1, 1) := by decide +kernel
theorem dX10_at_5 : decode cX10_at 5 = .ok (.aload_n 0, 1) := by decide +kernel
theorem dX10_at_6 : decode cX10_at 6 = .ok (.getfield 20, 3) := by decide +kernel
theorem dX10_at_9 : decode cX10_at 9 = .ok (.if_icmp .ge 21, 3) := by decide +kernel
theorem dX10_at_12 : decode cX10_at 12 = .ok (.iload_n 1, 1) := by decide +kernel
theorem dX10_at_13 : decode cX10_at 13 = .ok (.aload_n 0, 1) := by decide +kernel
theorem dX10_at_14 : decode cX10_at 14 = .ok (.getfield 11, 3) := by decide +kernel
theorem dX10_at_17 : decode cX10_at 17 = .ok (.arraylength, 1) := by decide +kernel
theorem dX10_at_18 : decode cX10_at 18 = .ok (.if_icmp .ge 12, 3) := by decide +kernel
theorem dX10_at_21 : decode cX10_at 21 = .ok (.aload_n 0, 1) := by decide +kernel
theorem dX10_at_22 : decode cX10_at 22 = .ok (.getfield 11, 3) := by decide +kernel
theorem dX10_at_25 : decode cX10_at 25 = .ok (.iload_n 1, 1) := by decide +kernel
theorem dX10_at_26 : decode cX10_at 26 = .ok (.aaload, 1) := by decide +kernel
theorem dX10_at_27 : decode cX10_at 27 = .ok (.goto 4, 3) := by decide +kernel
theorem dX10_at_30 : decode cX10_at 30 = .ok (.aconst_null, 1) := by decide +kernel
theorem dX10_at_31 : decode cX10_at 31 = .ok (.areturn, 1) := by decide +kernel
theorem dX10_binsOf_0 : decode cX10_binsOf 0 = .ok (.aload_n 0, 1) := by decide +kernel
theorem dX10_binsOf_1 : decode cX10_binsOf 1 = .ok (.iload_n 1, 1) := by decide +kernel
theorem dX10_binsOf_2 : decode cX10_binsOf 2 = .ok (.invokevirtual 24, 3) := by decide +kernel
theorem dX10_binsOf_5 : decode cX10_binsOf 5 = .ok (.astore_n 2, 1) := by decide +kernel
theorem dX10_binsOf_6 : decode cX10_binsOf 6 = .ok (.aload_n 2, 1) := by decide +kernel
theorem dX10_binsOf_7 : decode cX10_binsOf 7 = .ok (.ifnonnull 7, 3) := by decide +kernel
theorem dX10_binsOf_10 : decode cX10_binsOf 10 = .ok (.iconst 0, 1) := by decide +kernel
theorem dX10_binsOf_11 : decode cX10_binsOf 11 = .ok (.goto 7, 3) := by decide +kernel
theorem dX10_binsOf_14 : decode cX10_binsOf 14 = .ok (.aload_n 2, 1) := by decide +kernel
theorem dX10_binsOf_15 : decode cX10_binsOf 15 = .ok (.invokevirtual 28, 3) := by decide +kernel
theorem dX10_binsOf_18 : decode cX10_binsOf 18 = .ok (.ireturn, 1) := by decide +kernel
theorem dX10_hasAll_0 : decode cX10_hasAll 0 = .ok (.iload_n 1, 1) := by decide +kernel
theorem dX10_hasAll_1 : decode cX10_hasAll 1 = .ok (.iconst 1, 1) := by decide +kernel
theorem dX10_hasAll_2 : decode cX10_hasAll 2 = .ok (.aload_n 0, 1) := by decide +kernel
theorem dX10_hasAll_3 : decode cX10_hasAll 3 = .ok (.getfield 20, 3) := by decide +kernel
theorem dX10_hasAll_6 : decode cX10_hasAll 6 = .ok (.ishl, 1) := by decide +kernel
theorem dX10_hasAll_7 : decode cX10_hasAll 7 = .ok (.ineg, 1) := by decide +kernel
theorem dX10_hasAll_8 : decode cX10_hasAll 8 = .ok (.iand, 1) := by decide +kernel
theorem dX10_hasAll_9 : decode cX10_hasAll 9 = .ok (.ifCond .ne 7, 3) := by decide +kernel
theorem dX10_hasAll_12 : decode cX10_hasAll 12 = .ok (.iconst 1, 1) := by decide +kernel
theorem dX10_hasAll_13 : decode cX10_hasAll 13 = .ok (.goto 4, 3) := by decide +kernel
theorem dX10_hasAll_16 : decode cX10_hasAll 16 = .ok (.iconst 0, 1) := by decide +kernel
theorem dX10_hasAll_17 : decode cX10_hasAll 17 = .ok (.ireturn, 1) := by decide +kernel
theorem dX10_read_0 : decode cX10_read 0 = .ok (.aload_n 1, 1) := by decide +kernel
theorem dX10_read_1 : decode cX10_read 1 = .ok (.bipush 76, 2) := by decide +kernel
theorem dX10_read_3 : decode cX10_read 3 = .ok (.invokevirtual 32, 3) := by decide +kernel
theorem dX10_read_6 : decode cX10_read 6 = .ok (.aload_n 1, 1) := by decide +kernel
theorem dX10_read_7 : decode cX10_read 7 = .ok (.invokevirtual 37, 3) := by decide +kernel
theorem dX10_read_10 : decode cX10_read 10 = .ok (.ifCond .eq 5, 3) := by decide +kernel
theorem dX10_read_13 : decode cX10_read 13 = .ok (.iconst 0, 1) := by decide +kernel
theorem dX10_read_14 : decode cX10_read 14 = .ok (.ireturn, 1) := by decide +kernel
theorem dX10_read_15 : decode cX10_read 15 = .ok (.aload_n 0, 1) := by decide +kernel
theorem dX10_read_16 : decode cX10_read 16 = .ok (.getfield 20, 3) := by decide +kernel
theorem dX10_read_19 : decode cX10_read 19 = .ok (.istore_n 2, 1) := by decide +kernel
theorem dX10_read_20 : decode cX10_read 20 = .ok (.iload_n 2, 1) := by decide +kernel
theorem dX10_read_21 : decode cX10_read 21 = .ok (.aload_n 0, 1) := by decide +kernel
theorem dX10_read_22 : decode cX10_read 22 = .ok (.getfield 11, 3) := by decide +kernel
theorem dX10_read_25 : decode cX10_read 25 = .ok (.arraylength, 1) := by decide +kernel
theorem dX10_read_26 : decode cX10_read 26 = .ok (.if_icmp .ge 66, 3) := by decide +kernel
theorem dX10_read_29 : decode cX10_read 29 = .ok (.aload_n 0, 1) := by decide +kernel
theorem dX10_read_30 : decode cX10_read 30 = .ok (.getfield 11, 3) := by decide +kernel
theorem dX10_read_33 : decode cX10_read 33 = .ok (.iload_n 2, 1) := by decide +kernel
theorem dX10_read_34 : decode cX10_read 34 = .ok (.aaload, 1) := by decide +kernel
theorem dX10_read_35 : decode cX10_read 35 = .ok (.aload_n 1, 1) := by decide +kernel
theorem dX10_read_36 : decode cX10_read 36 = .ok (.invokevirtual 41, 3) := by decide +kernel
theorem dX10_read_39 : decode cX10_read 39 = .ok (.ifCond .ne 8, 3) := by decide +kernel
theorem dX10_read_42 : decode cX10_read 42 = .ok (.aload_n 1, 1) := by decide +kernel
theorem dX10_read_43 : decode cX10_read 43 = .ok (.invokevirtual 45, 3) := by decide +kernel
theorem dX10_read_46 : decode cX10_read 46 = .ok (.ireturn, 1) := by decide +kernel
theorem dX10_read_47 : decode cX10_read 47 = .ok (.aload_n 1, 1) := by decide +kernel
theorem dX10_read_48 : decode cX10_read 48 = .ok (.invokevirtual 37, 3) := by decide +kernel
theorem dX10_read_51 : decode cX10_read 51 = .ok (.ifCond .eq 21, 3) := by decide +kernel
theorem dX10_read_54 : decode cX10_read 54 = .ok (.iload_n 2, 1) := by decide +kernel
theorem dX10_read_55 : decode cX10_read 55 = .ok (.iconst 1, 1) := by decide +kernel
theorem dX10_read_56 : decode cX10_read 56 = .ok (.iadd, 1) := by decide +kernel
theorem dX10_read_57 : decode cX10_read 57 = .ok (.aload_n 0, 1) := by decide +kernel
theorem dX10_read_58 : decode cX10_read 58 = .ok (.getfield 20, 3) := by decide +kernel
theorem dX10_read_61 : decode cX10_read 61 = .ok (.isub, 1) := by decide +kernel
theorem dX10_read_62 : decode cX10_read 62 = .ok (.istore_n 3, 1) := by decide +kernel
theorem dX10_read_63 : decode cX10_read 63 = .ok (.aload_n 0, 1) := by decide +kernel
theorem dX10_read_64 : decode cX10_read 64 = .ok (.iload_n 2, 1) := by decide +kernel
theorem dX10_read_65 : decode cX10_read 65 = .ok (.iconst 1, 1) := by decide +kernel
theorem dX10_read_66 : decode cX10_read 66 = .ok (.iadd, 1) := by decide +kernel
theorem dX10_read_67 : decode cX10_read 67 = .ok (.putfield 20, 3) := by decide +kernel
theorem dX10_read_70 : decode cX10_read 70 = .ok (.iload_n 3, 1) := by decide +kernel
theorem dX10_read_71 : decode cX10_read 71 = .ok (.ireturn, 1) := by decide +kernel
theorem dX10_read_72 : decode cX10_read 72 = .ok (.aload_n 1, 1) := by decide +kernel
theorem dX10_read_73 : decode cX10_read 73 = .ok (.bipush 59, 2) := by decide +kernel
theorem dX10_read_75 : decode cX10_read 75 = .ok (.invokevirtual 48, 3) := by decide +kernel
theorem dX10_read_78 : decode cX10_read 78 = .ok (.ifCond .ne 8, 3) := by decide +kernel
theorem dX10_read_81 : decode cX10_read 81 = .ok (.aload_n 1, 1) := by decide +kernel
theorem dX10_read_82 : decode cX10_read 82 = .ok (.invokevirtual 45, 3) := by decide +kernel
theorem dX10_read_85 : decode cX10_read 85 = .ok (.ireturn, 1) := by decide +kernel
theorem dX10_read_86 : decode cX10_read 86 = .ok (.iinc 2 1, 3) := by decide +kernel
theorem dX10_read_89 : decode cX10_read 89 = .ok (.goto (-69), 3) := by decide +kernel
theorem dX10_read_92 : decode cX10_read 92 = .ok (.aload_n 1, 1) := by decide +kernel
theorem dX10_read_93 : decode cX10_read 93 = .ok (.invokevirtual 45, 3) := by decide +kernel
theorem dX10_read_96 : decode cX10_read 96 = .ok (.ireturn, 1) := by decide +kernel
theorem dX10_placeAll_0 : decode cX10_placeAll 0 = .ok (.iconst 0, 1) := by decide +kernel
theorem dX10_placeAll_1 : decode cX10_placeAll 1 = .ok (.istore 5, 2) := by decide +kernel
theorem dX10_placeAll_3 : decode cX10_placeAll 3 = .ok (.iconst 0, 1) := by decide +kernel
theorem dX10_placeAll_4 : decode cX10_placeAll 4 = .ok (.istore 6, 2) := by decide +kernel
theorem dX10_placeAll_6 : decode cX10_placeAll 6 = .ok (.iload 6, 2) := by decide +kernel
theorem dX10_placeAll_8 : decode cX10_placeAll 8 = .ok (.aload_n 0, 1) := by decide +kernel
theorem dX10_placeAll_9 : decode cX10_placeAll 9 = .ok (.getfield 20, 3) := by decide +kernel
theorem dX10_placeAll_12 : decode cX10_placeAll 12 = .ok (.if_icmp .ge 79, 3) := by decide +kernel
theorem dX10_placeAll_15 : decode cX10_placeAll 15 = .ok (.iload 6, 2) := by decide +kernel
theorem dX10_placeAll_17 : decode cX10_placeAll 17 = .ok (.aload_n 0, 1) := by decide +kernel
theorem dX10_placeAll_18 : decode cX10_placeAll 18 = .ok (.getfield 11, 3) := by decide +kernel
theorem dX10_placeAll_21 : decode cX10_placeAll 21 = .ok (.arraylength, 1) := by decide +kernel
theorem dX10_placeAll_22 : decode cX10_placeAll 22 = .ok (.if_icmp .ge 69, 3) := by decide +kernel
theorem dX10_placeAll_25 : decode cX10_placeAll 25 = .ok (.iload 6, 2) := by decide +kernel
theorem dX10_placeAll_27 : decode cX10_placeAll 27 = .ok (.iload_n 2, 1) := by decide +kernel
theorem dX10_placeAll_28 : decode cX10_placeAll 28 = .ok (.if_icmp .ge 18, 3) := by decide +kernel
theorem dX10_placeAll_31 : decode cX10_placeAll 31 = .ok (.aload_n 0, 1) := by decide +kernel
theorem dX10_placeAll_32 : decode cX10_placeAll 32 = .ok (.iload_n 1, 1) := by decide +kernel
theorem dX10_placeAll_33 : decode cX10_placeAll 33 = .ok (.iload_n 3, 1) := by decide +kernel
theorem dX10_placeAll_34 : decode cX10_placeAll 34 = .ok (.iload 6, 2) := by decide +kernel
theorem dX10_placeAll_36 : decode cX10_placeAll 36 = .ok (.iload 4, 2) := by decide +kernel
theorem dX10_placeAll_38 : decode cX10_placeAll 38 = .ok (.imul, 1) := by decide +kernel
theorem dX10_placeAll_39 : decode cX10_placeAll 39 = .ok (.iadd, 1) := by decide +kernel
theorem dX10_placeAll_40 : decode cX10_placeAll 40 = .ok (.invokevirtual 52, 3) := by decide +kernel
theorem dX10_placeAll_43 : decode cX10_placeAll 43 = .ok (.goto 4, 3) := by decide +kernel
theorem dX10_placeAll_46 : decode cX10_placeAll 46 = .ok (.iconst 0, 1) := by decide +kernel
theorem dX10_placeAll_47 : decode cX10_placeAll 47 = .ok (.istore 7, 2) := by decide +kernel
theorem dX10_placeAll_49 : decode cX10_placeAll 49 = .ok (.aload_n 0, 1) := by decide +kernel
theorem dX10_placeAll_50 : decode cX10_placeAll 50 = .ok (.getfield 11, 3) := by decide +kernel
theorem dX10_placeAll_53 : decode cX10_placeAll 53 = .ok (.iload 6, 2) := by decide +kernel
theorem dX10_placeAll_55 : decode cX10_placeAll 55 = .ok (.aaload, 1) := by decide +kernel
theorem dX10_placeAll_56 : decode cX10_placeAll 56 = .ok (.iconst 0, 1) := by decide +kernel
theorem dX10_placeAll_57 : decode cX10_placeAll 57 = .ok (.bipush 99, 2) := by decide +kernel
theorem dX10_placeAll_59 : decode cX10_placeAll 59 = .ok (.iload 7, 2) := by decide +kernel
theorem dX10_placeAll_61 : decode cX10_placeAll 61 = .ok (.invokestatic 56, 3) := by decide +kernel
theorem dX10_placeAll_64 : decode cX10_placeAll 64 = .ok (.invokestatic 61, 3) := by decide +kernel
theorem dX10_placeAll_67 : decode cX10_placeAll 67 = .ok (.putfield 64, 3) := by decide +kernel
theorem dX10_placeAll_70 : decode cX10_placeAll 70 = .ok (.iload 5, 2) := by decide +kernel
theorem dX10_placeAll_72 : decode cX10_placeAll 72 = .ok (.aload_n 0, 1) := by decide +kernel
theorem dX10_placeAll_73 : decode cX10_placeAll 73 = .ok (.getfield 11, 3) := by decide +kernel
theorem dX10_placeAll_76 : decode cX10_placeAll 76 = .ok (.iload 6, 2) := by decide +kernel
theorem dX10_placeAll_78 : decode cX10_placeAll 78 = .ok (.aaload, 1) := by decide +kernel
theorem dX10_placeAll_79 : decode cX10_placeAll 79 = .ok (.getfield 64, 3) := by decide +kernel
theorem dX10_placeAll_82 : decode cX10_placeAll 82 = .ok (.iadd, 1) := by decide +kernel
theorem dX10_placeAll_83 : decode cX10_placeAll 83 = .ok (.istore 5, 2) := by decide +kernel
theorem dX10_placeAll_85 : decode cX10_placeAll 85 = .ok (.iinc 6 1, 3) := by decide +kernel
theorem dX10_placeAll_88 : decode cX10_placeAll 88 = .ok (.goto (-82), 3) := by decide +kernel
theorem dX10_placeAll_91 : decode cX10_placeAll 91 = .ok (.iload 5, 2) := by decide +kernel
theorem dX10_placeAll_93 : decode cX10_placeAll 93 = .ok (.ireturn, 1) := by decide +kernel
theorem dX10_entryOf_0 : decode cX10_entryOf 0 = .ok (.iload_n 1, 1) := by decide +kernel
theorem dX10_entryOf_1 : decode cX10_entryOf 1 = .ok (.ifCond .ne 6, 3) := by decide +kernel
theorem dX10_entryOf_4 : decode cX10_entryOf 4 = .ok (.iload_n 2, 1) := by decide +kernel
theorem dX10_entryOf_5 : decode cX10_entryOf 5 = .ok (.i2b, 1) := by decide +kernel
theorem dX10_entryOf_6 : decode cX10_entryOf 6 = .ok (.ireturn, 1) := by decide +kernel
theorem dX10_entryOf_7 : decode cX10_entryOf 7 = .ok (.iload_n 1, 1) := by decide +kernel
theorem dX10_entryOf_8 : decode cX10_entryOf 8 = .ok (.iconst 1, 1) := by decide +kernel
theorem dX10_entryOf_9 : decode cX10_entryOf 9 = .ok (.if_icmp .ne 8, 3) := by decide +kernel
theorem dX10_entryOf_12 : decode cX10_entryOf 12 = .ok (.iload_n 2, 1) := by decide +kernel
theorem dX10_entryOf_13 : decode cX10_entryOf 13 = .ok (.i2s, 1) := by decide +kernel
theorem dX10_entryOf_14 : decode cX10_entryOf 14 = .ok (.goto 4, 3) := by decide +kernel
theorem dX10_entryOf_17 : decode cX10_entryOf 17 = .ok (.iload_n 2, 1) := by decide +kernel
theorem dX10_entryOf_18 : decode cX10_entryOf 18 = .ok (.ireturn, 1) := by decide +kernel
theorem dX11_init_0 : decode cX11_init 0 = .ok (.aload_n 0, 1) := by decide +kernel
theorem dX11_init_1 : decode cX11_init 1 = .ok (.invokespecial 3, 3) := by decide +kernel
theorem dX11_init_4 : decode cX11_init 4 = .ok (.aload_n 0, 1) := by decide +kernel
theorem dX11_init_5 : decode cX11_init 5 = .ok (.new 9, 3) := by decide +kernel
theorem dX11_init_8 : decode cX11_init 8 = .ok (.dup, 1) := by decide +kernel
theorem dX11_init_9 : decode cX11_init 9 = .ok (.invokespecial 11, 3) := by decide +kernel
theorem dX11_init_12 : decode cX11_init 12 = .ok (.putfield 12, 3) := by decide +kernel
theorem dX11_init_15 : decode cX11_init 15 = .ok (.aload_n 0, 1) := by decide +kernel
theorem dX11_init_16 : decode cX11_init 16 = .ok (.new 16, 3) := by decide +kernel
theorem dX11_init_19 : decode cX11_init 19 = .ok (.dup, 1) := by decide +kernel
theorem dX11_init_20 : decode cX11_init 20 = .ok (.invokespecial 18, 3) := by decide +kernel
theorem dX11_init_23 : decode cX11_init 23 = .ok (.putfield 19, 3) := by decide +kernel
theorem dX11_init_26 : decode cX11_init 26 = .ok (.aload_n 0, 1) := by decide +kernel
theorem dX11_init_27 : decode cX11_init 27 = .ok (.new 23, 3) := by decide +kernel
theorem dX11_init_30 : decode cX11_init 30 = .ok (.dup, 1) := by decide +kernel
theorem dX11_init_31 : decode cX11_init 31 = .ok (.invokespecial 25, 3) := by decide +kernel
theorem dX11_init_34 : decode cX11_init 34 = .ok (.putfield 26, 3) := by decide +kernel
theorem dX11_init_37 : decode cX11_init 37 = .ok (.aload_n 0, 1) := by decide +kernel
theorem dX11_init_38 : decode cX11_init 38 = .ok (.new 30, 3) := by decide +kernel
theorem dX11_init_41 : decode cX11_init 41 = .ok (.dup, 1) := by decide +kernel
theorem dX11_init_42 : decode cX11_init 42 = .ok (.invokespecial 32, 3) := by decide +kernel
theorem dX11_init_45 : decode cX11_init 45 = .ok (.putfield 33, 3) := by decide +kernel
theorem dX11_init_48 : decode cX11_init 48 = .ok (.aload_n 0, 1) := by decide +kernel
theorem dX11_init_49 : decode cX11_init 49 = .ok (.new 37, 3) := by decide +kernel
theorem dX11_init_52 : decode cX11_init 52 = .ok (.dup, 1) := by decide +kernel
theorem dX11_init_53 : decode cX11_init 53 = .ok (.invokespecial 39, 3) := by decide +kernel
theorem dX11_init_56 : decode cX11_init 56 = .ok (.putfield 40, 3) := by decide +kernel
theorem dX11_init_59 : decode cX11_init 59 = .ok (.aload_n 0, 1) := by decide +kernel
theorem dX11_init_60 : decode cX11_init 60 = .ok (.new 44, 3) := by decide +kernel
theorem dX11_init_63 : decode cX11_init 63 = .ok (.dup, 1) := by decide +kernel
theorem dX11_init_64 : decode cX11_init 64 = .ok (.invokespecial 46, 3) := by decide +kernel
theorem dX11_init_67 : decode cX11_init 67 = .ok (.putfield 47, 3) := by decide +kernel
theorem dX11_init_70 : decode cX11_init 70 = .ok (.aload_n 0, 1) := by decide +kernel
theorem dX11_init_71 : decode cX11_init 71 = .ok (.new 51, 3) := by decide +kernel
theorem dX11_init_74 : decode cX11_init 74 = .ok (.dup, 1) := by decide +kernel
theorem dX11_init_75 : decode cX11_init 75 = .ok (.aload_n 0, 1) := by decide +kernel
theorem dX11_init_76 : decode cX11_init 76 = .ok (.getfield 33, 3) := by decide +kernel
theorem dX11_init_79 : decode cX11_init 79 = .ok (.aload_n 0, 1) := by decide +kernel
theorem dX11_init_80 : decode cX11_init 80 = .ok (.getfield 19, 3) := by decide +kernel
theorem dX11_init_83 : decode cX11_init 83 = .ok (.invokespecial 53, 3) := by decide +kernel
theorem dX11_init_86 : decode cX11_init 86 = .ok (.putfield 56, 3) := by decide +kernel
theorem dX11_init_89 : decode cX11_init 89 = .ok (.aload_n 0, 1) := by decide +kernel
theorem dX11_init_90 : decode cX11_init 90 = .ok (.new 60, 3) := by decide +kernel
theorem dX11_init_93 : decode cX11_init 93 = .ok (.dup, 1) := by decide +kernel
theorem dX11_init_94 : decode cX11_init 94 = .ok (.aload_n 0, 1) := by decide +kernel
theorem dX11_init_95 : decode cX11_init 95 = .ok (.getfield 19, 3) := by decide +kernel
theorem dX11_init_98 : decode cX11_init 98 = .ok (.aload_n 0, 1) := by decide +kernel
theorem dX11_init_99 : decode cX11_init 99 = .ok (.getfield 26, 3) := by decide +kernel
theorem dX11_init_102 : decode cX11_init 102 = .ok (.invokespecial 62, 3) := by decide +kernel
theorem dX11_init_105 : decode cX11_init 105 = .ok (.putfield 65, 3) := by decide +kernel
theorem dX11_init_108 : decode cX11_init 108 = .ok (.aload_n 0, 1) := by decide +kernel
theorem dX11_init_109 : decode cX11_init 109 = .ok (.new 69, 3) := by decide +kernel
theorem dX11_init_112 : decode cX11_init 112 = .ok (.dup, 1) := by decide +kernel
theorem dX11_init_113 : decode cX11_init 113 = .ok (.aload_n 0, 1) := by decide +kernel
theorem dX11_init_114 : decode cX11_init 114 = .ok (.getfield 33, 3) := by decide +kernel
theorem dX11_init_117 : decode cX11_init 117 = .ok (.aload_n 0, 1) := by decide +kernel
theorem dX11_init_118 : decode cX11_init 118 = .ok (.getfield 19, 3) := by decide +kernel
theorem dX11_init_121 : decode cX11_init 121 = .ok (.aload_n 0, 1) := by decide +kernel
theorem dX11_init_122 : decode cX11_init 122 = .ok (.getfield 26, 3) := by decide +kernel
theorem dX11_init_125 : decode cX11_init 125 = .ok (.invokespecial 71, 3) := by decide +kernel
theorem dX11_init_128 : decode cX11_init 128 = .ok (.putfield 74, 3) := by decide +kernel
theorem dX11_init_131 : decode cX11_init 131 = .ok (.aload_n 0, 1) := by decide +kernel
theorem dX11_init_132 : decode cX11_init 132 = .ok (.new 78, 3) := by decide +kernel
theorem dX11_init_135 : decode cX11_init 135 = .ok (.dup, 1) := by decide +kernel
theorem dX11_init_136 : decode cX11_init 136 = .ok (.aload_n 0, 1) := by decide +kernel
theorem dX11_init_137 : decode cX11_init 137 = .ok (.getfield 33, 3) := by decide +kernel
theorem dX11_init_140 : decode cX11_init 140 = .ok (.invokespecial 80, 3) := by decide +kernel
theorem dX11_init_143 : decode cX11_init 143 = .ok (.putfield 83, 3) := by decide +kernel
theorem dX11_init_146 : decode cX11_init 146 = .ok (.aload_n 0, 1) := by decide +kernel
theorem dX11_init_147 : decode cX11_init 147 = .ok (.iconst 3, 1) := by decide +kernel
theorem dX11_init_148 : decode cX11_init 148 = .ok (.anewarray 37, 3) := by decide +kernel
theorem dX11_init_151 : decode cX11_init 151 = .ok (.dup, 1) := by decide +kernel
theorem dX11_init_152 : decode cX11_init 152 = .ok (.iconst 0, 1) := by decide +kernel
theorem dX11_init_153 : decode cX11_init 153 = .ok (.new 37, 3) := by decide +kernel
theorem dX11_init_156 : decode cX11_init 156 = .ok (.dup, 1) := by decide +kernel
theorem dX11_init_157 : decode cX11_init 157 = .ok (.invokespecial 39, 3) := by decide +kernel
theorem dX11_init_160 : decode cX11_init 160 = .ok (.aastore, 1) := by decide +kernel
theorem dX11_init_161 : decode cX11_init 161 = .ok (.dup, 1) := by decide +kernel
theorem dX11_init_162 : decode cX11_init 162 = .ok (.iconst 1, 1) := by decide +kernel
theorem dX11_init_163 : decode cX11_init 163 = .ok (.new 37, 3) := by decide +kernel
theorem dX11_init_166 : decode cX11_init 166 = .ok (.dup, 1) := by decide +kernel
theorem dX11_init_167 : decode cX11_init 167 = .ok (.invokespecial 39, 3) := by decide +kernel
theorem dX11_init_170 : decode cX11_init 170 = .ok (.aastore, 1) := by decide +kernel
theorem dX11_init_171 : decode cX11_init 171 = .ok (.dup, 1) := by decide +kernel
theorem dX11_init_172 : decode cX11_init 172 = .ok (.iconst 2, 1) := by decide +kernel
theorem dX11_init_173 : decode cX11_init 173 = .ok (.new 37, 3) := by decide +kernel
theorem dX11_init_176 : decode cX11_init 176 = .ok (.dup, 1) := by decide +kernel
theorem dX11_init_177 : decode cX11_init 177 = .ok (.invokespecial 39, 3) := by decide +kernel
theorem dX11_init_180 : decode cX11_init 180 = .ok (.aastore, 1) := by decide +kernel
theorem dX11_init_181 : decode cX11_init 181 = .ok (.putfield 87, 3) := by decide +kernel
theorem dX11_init_184 : decode cX11_init 184 = .ok (.aload_n 0, 1) := by decide +kernel
theorem dX11_init_185 : decode cX11_init 185 = .ok (.iconst 3, 1) := by decide +kernel
theorem dX11_init_186 : decode cX11_init 186 = .ok (.newarray .int, 2) := by decide +kernel
theorem dX11_init_188 : decode cX11_init 188 = .ok (.dup, 1) := by decide +kernel
theorem dX11_init_189 : decode cX11_init 189 = .ok (.iconst 0, 1) := by decide +kernel
theorem dX11_init_190 : decode cX11_init 190 = .ok (.iconst (-1), 1) := by decide +kernel
theorem dX11_init_191 : decode cX11_init 191 = .ok (.iastore, 1) := by decide +kernel
theorem dX11_init_192 : decode cX11_init 192 = .ok (.dup, 1) := by decide +kernel
theorem dX11_init_193 : decode cX11_init 193 = .ok (.iconst 1, 1) := by decide +kernel
theorem dX11_init_194 : decode cX11_init 194 = .ok (.iconst (-1), 1) := by decide +kernel
theorem dX11_init_195 : decode cX11_init 195 = .ok (.iastore, 1) := by decide +kernel
theorem dX11_init_196 : decode cX11_init 196 = .ok (.dup, 1) := by decide +kernel
theorem dX11_init_197 : decode cX11_init 197 = .ok (.iconst 2, 1) := by decide +kernel
theorem dX11_init_198 : decode cX11_init 198 = .ok (.iconst (-1), 1) := by decide +kernel
theorem dX11_init_199 : decode cX11_init 199 = .ok (.iastore, 1) := by decide +kernel
theorem dX11_init_200 : decode cX11_init 200 = .ok (.putfield 91, 3) := by decide +kernel
theorem dX11_init_203 : decode cX11_init 203 = .ok (.aload_n 0, 1) := by decide +kernel
theorem dX11_init_204 : decode cX11_init 204 = .ok (.bipush 30, 2) := by decide +kernel
theorem dX11_init_206 : decode cX11_init 206 = .ok (.newarray .int, 2) := by decide +kernel
theorem dX11_init_208 : decode cX11_init 208 = .ok (.putfield 95, 3) := by decide +kernel
theorem dX11_init_211 : decode cX11_init 211 = .ok (.aload_n 0, 1) := by decide +kernel
theorem dX11_init_212 : decode cX11_init 212 = .ok (.bipush 6, 2) := by decide +kernel
theorem dX11_init_214 : decode cX11_init 214 = .ok (.newarray .long, 2) := by decide +kernel
theorem dX11_init_216 : decode cX11_init 216 = .ok (.putfield 98, 3) := by decide +kernel
theorem dX11_init_219 : decode cX11_init 219 = .ok (.return_, 1) := by decide +kernel
theorem dX11_sign_0 : decode cX11_sign 0 = .ok (.aload_n 0, 1) := by decide +kernel
theorem dX11_sign_1 : decode cX11_sign 1 = .ok (.getfield 12, 3) := by decide +kernel
theorem dX11_sign_4 : decode cX11_sign 4 = .ok (.iload_n 1, 1) := by decide +kernel
theorem dX11_sign_5 : decode cX11_sign 5 = .ok (.invokevirtual 102, 3) := by decide +kernel
theorem dX11_sign_8 : decode cX11_sign 8 = .ok (.ifCond .eq 13, 3) := by decide +kernel
theorem dX11_sign_11 : decode cX11_sign 11 = .ok (.aload_n 0, 1) := by decide +kernel
theorem dX11_sign_12 : decode cX11_sign 12 = .ok (.getfield 12, 3) := by decide +kernel
theorem dX11_sign_15 : decode cX11_sign 15 = .ok (.getfield 106, 3) := by decide +kernel
theorem dX11_sign_18 : decode cX11_sign 18 = .ok (.goto 4, 3) := by decide +kernel
theorem dX11_sign_21 : decode cX11_sign 21 = .ok (.iconst (-1), 1) := by decide +kernel
theorem dX11_sign_22 : decode cX11_sign 22 = .ok (.ireturn, 1) := by decide +kernel
theorem dX11_end_0 : decode cX11_end 0 = .ok (.aload_n 0, 1) := by decide +kernel
theorem dX11_end_1 : decode cX11_end 1 = .ok (.getfield 12, 3) := by decide +kernel
theorem dX11_end_4 : decode cX11_end 4 = .ok (.iload_n 1, 1) := by decide +kernel
theorem dX11_end_5 : decode cX11_end 5 = .ok (.invokevirtual 110, 3) := by decide +kernel
theorem dX11_end_8 : decode cX11_end 8 = .ok (.ireturn, 1) := by decide +kernel
theorem dX11_streets_0 : decode cX11_streets 0 = .ok (.aload_n 0, 1) := by decide +kernel
theorem dX11_streets_1 : decode cX11_streets 1 = .ok (.getfield 33, 3) := by decide +kernel
theorem dX11_streets_4 : decode cX11_streets 4 = .ok (.getfield 113, 3) := by decide +kernel
theorem dX11_streets_7 : decode cX11_streets 7 = .ok (.istore_n 1, 1) := by decide +kernel
theorem dX11_streets_8 : decode cX11_streets 8 = .ok (.aload_n 0, 1) := by decide +kernel
theorem dX11_streets_9 : decode cX11_streets 9 = .ok (.getfield 33, 3) := by decide +kernel
theorem dX11_streets_12 : decode cX11_streets 12 = .ok (.aload_n 0, 1) := by decide +kernel
theorem dX11_streets_13 : decode cX11_streets 13 = .ok (.getfield 12, 3) := by decide +kernel
theorem dX11_streets_16 : decode cX11_streets 16 = .ok (.invokevirtual 116, 3) := by decide +kernel
theorem dX11_streets_19 : decode cX11_streets 19 = .ok (.istore_n 2, 1) := by decide +kernel
theorem dX11_streets_20 : decode cX11_streets 20 = .ok (.aload_n 0, 1) := by decide +kernel
theorem dX11_streets_21 : decode cX11_streets 21 = .ok (.getfield 12, 3) := by decide +kernel
theorem dX11_streets_24 : decode cX11_streets 24 = .ok (.invokevirtual 120, 3) := by decide +kernel
theorem dX11_streets_27 : decode cX11_streets 27 = .ok (.iload_n 1, 1) := by decide +kernel
theorem dX11_streets_28 : decode cX11_streets 28 = .ok (.istore_n 3, 1) := by decide +kernel
theorem dX11_streets_29 : decode cX11_streets 29 = .ok (.iload_n 3, 1) := by decide +kernel
theorem dX11_streets_30 : decode cX11_streets 30 = .ok (.aload_n 0, 1) := by decide +kernel
theorem dX11_streets_31 : decode cX11_streets 31 = .ok (.getfield 33, 3) := by decide +kernel
theorem dX11_streets_34 : decode cX11_streets 34 = .ok (.getfield 113, 3) := by decide +kernel
theorem dX11_streets_37 : decode cX11_streets 37 = .ok (.if_icmp .ge 25, 3) := by decide +kernel
theorem dX11_streets_40 : decode cX11_streets 40 = .ok (.aload_n 0, 1) := by decide +kernel
theorem dX11_streets_41 : decode cX11_streets 41 = .ok (.getfield 40, 3) := by decide +kernel
theorem dX11_streets_44 : decode cX11_streets 44 = .ok (.iload_n 3, 1) := by decide +kernel
theorem dX11_streets_45 : decode cX11_streets 45 = .ok (.aload_n 0, 1) := by decide +kernel
theorem dX11_streets_46 : decode cX11_streets 46 = .ok (.getfield 33, 3) := by decide +kernel
theorem dX11_streets_49 : decode cX11_streets 49 = .ok (.iload_n 3, 1) := by decide +kernel
theorem dX11_streets_50 : decode cX11_streets 50 = .ok (.invokevirtual 123, 3) := by decide +kernel
theorem dX11_streets_53 : decode cX11_streets 53 = .ok (.invokevirtual 127, 3) := by decide +kernel
theorem dX11_streets_56 : decode cX11_streets 56 = .ok (.iinc 3 1, 3) := by decide +kernel
theorem dX11_streets_59 : decode cX11_streets 59 = .ok (.goto (-30), 3) := by decide +kernel
theorem dX11_streets_62 : decode cX11_streets 62 = .ok (.iload_n 2, 1) := by decide +kernel
theorem dX11_streets_63 : decode cX11_streets 63 = .ok (.ifCond .le 10, 3) := by decide +kernel
theorem dX11_streets_66 : decode cX11_streets 66 = .ok (.aload_n 0, 1) := by decide +kernel
theorem dX11_streets_67 : decode cX11_streets 67 = .ok (.getfield 47, 3) := by decide +kernel
theorem dX11_streets_70 : decode cX11_streets 70 = .ok (.invokevirtual 131, 3) := by decide +kernel
theorem dX11_streets_73 : decode cX11_streets 73 = .ok (.iload_n 2, 1) := by decide +kernel
theorem dX11_streets_74 : decode cX11_streets 74 = .ok (.ireturn, 1) := by decide +kernel
theorem dX11_rule_0 : decode cX11_rule 0 = .ok (.aload_n 0, 1) := by decide +kernel
theorem dX11_rule_1 : decode cX11_rule 1 = .ok (.getfield 26, 3) := by decide +kernel
theorem dX11_rule_4 : decode cX11_rule 4 = .ok (.aload_n 0, 1) := by decide +kernel
theorem dX11_rule_5 : decode cX11_rule 5 = .ok (.getfield 12, 3) := by decide +kernel
theorem dX11_rule_8 : decode cX11_rule 8 = .ok (.invokevirtual 132, 3) := by decide +kernel
theorem dX11_rule_11 : decode cX11_rule 11 = .ok (.istore_n 1, 1) := by decide +kernel
theorem dX11_rule_12 : decode cX11_rule 12 = .ok (.aload_n 0, 1) := by decide +kernel
theorem dX11_rule_13 : decode cX11_rule 13 = .ok (.getfield 12, 3) := by decide +kernel
theorem dX11_rule_16 : decode cX11_rule 16 = .ok (.invokevirtual 120, 3) := by decide +kernel
theorem dX11_rule_19 : decode cX11_rule 19 = .ok (.iload_n 1, 1) := by decide +kernel
theorem dX11_rule_20 : decode cX11_rule 20 = .ok (.ireturn, 1) := by decide +kernel
theorem dX11_street_0 : decode cX11_street 0 = .ok (.aload_n 0, 1) := by decide +kernel
theorem dX11_street_1 : decode cX11_street 1 = .ok (.getfield 33, 3) := by decide +kernel
theorem dX11_street_4 : decode cX11_street 4 = .ok (.iload_n 1, 1) := by decide +kernel
theorem dX11_street_5 : decode cX11_street 5 = .ok (.invokevirtual 133, 3) := by decide +kernel
theorem dX11_street_8 : decode cX11_street 8 = .ok (.astore_n 3, 1) := by decide +kernel
theorem dX11_street_9 : decode cX11_street 9 = .ok (.aload_n 3, 1) := by decide +kernel
theorem dX11_street_10 : decode cX11_street 10 = .ok (.ifnonnull 13, 3) := by decide +kernel
theorem dX11_street_13 : decode cX11_street 13 = .ok (.new 137, 3) := by decide +kernel
theorem dX11_street_16 : decode cX11_street 16 = .ok (.dup, 1) := by decide +kernel
theorem dX11_street_17 : decode cX11_street 17 = .ok (.ldc 139, 2) := by decide +kernel
theorem dX11_street_19 : decode cX11_street 19 = .ok (.invokespecial 141, 3) := by decide +kernel
theorem dX11_street_22 : decode cX11_street 22 = .ok (.athrow, 1) := by decide +kernel
theorem dX11_street_23 : decode cX11_street 23 = .ok (.iload_n 2, 1) := by decide +kernel
theorem dX11_street_24 : decode cX11_street 24 = .ok (.tableswitch 132 0 8 #[52, 57, 62, 67, 80, 85, 90, 95, 107], 52) := by decide +kernel
theorem dX11_street_76 : decode cX11_street 76 = .ok (.aload_n 3, 1) := by decide +kernel
theorem dX11_street_77 : decode cX11_street 77 = .ok (.getfield 144, 3) := by decide +kernel
theorem dX11_street_80 : decode cX11_street 80 = .ok (.ireturn, 1) := by decide +kernel
theorem dX11_street_81 : decode cX11_street 81 = .ok (.aload_n 3, 1) := by decide +kernel
theorem dX11_street_82 : decode cX11_street 82 = .ok (.getfield 149, 3) := by decide +kernel
theorem dX11_street_85 : decode cX11_street 85 = .ok (.ireturn, 1) := by decide +kernel
theorem dX11_street_86 : decode cX11_street 86 = .ok (.aload_n 3, 1) := by decide +kernel
theorem dX11_street_87 : decode cX11_street 87 = .ok (.getfield 152, 3) := by decide +kernel
theorem dX11_street_90 : decode cX11_street 90 = .ok (.ireturn, 1) := by decide +kernel
theorem dX11_street_91 : decode cX11_street 91 = .ok (.aload_n 3, 1) := by decide +kernel
theorem dX11_street_92 : decode cX11_street 92 = .ok (.getfield 155, 3) := by decide +kernel
theorem dX11_street_95 : decode cX11_street 95 = .ok (.ifCond .eq 7, 3) := by decide +kernel
theorem dX11_street_98 : decode cX11_street 98 = .ok (.iconst 1, 1) := by decide +kernel
theorem dX11_street_99 : decode cX11_street 99 = .ok (.goto 4, 3) := by decide +kernel
theorem dX11_street_102 : decode cX11_street 102 = .ok (.iconst 0, 1) := by decide +kernel
theorem dX11_street_103 : decode cX11_street 103 = .ok (.ireturn, 1) := by decide +kernel
theorem dX11_street_104 : decode cX11_street 104 = .ok (.aload_n 3, 1) := by decide +kernel
theorem dX11_street_105 : decode cX11_street 105 = .ok (.getfield 159, 3) := by decide +kernel
theorem dX11_street_108 : decode cX11_street 108 = .ok (.ireturn, 1) := by decide +kernel
theorem dX11_street_109 : decode cX11_street 109 = .ok (.aload_n 3, 1) := by decide +kernel
theorem dX11_street_110 : decode cX11_street 110 = .ok (.getfield 162, 3) := by decide +kernel
theorem dX11_street_113 : decode cX11_street 113 = .ok (.ireturn, 1) := by decide +kernel
theorem dX11_street_114 : decode cX11_street 114 = .ok (.aload_n 3, 1) := by decide +kernel
theorem dX11_street_115 : decode cX11_street 115 = .ok (.getfield 165, 3) := by decide +kernel
theorem dX11_street_118 : decode cX11_street 118 = .ok (.ireturn, 1) := by decide +kernel
theorem dX11_street_119 : decode cX11_street 119 = .ok (.aload_n 0, 1) := by decide +kernel
theorem dX11_street_120 : decode cX11_street 120 = .ok (.getfield 40, 3) := by decide +kernel
theorem dX11_street_123 : decode cX11_street 123 = .ok (.iload_n 1, 1) := by decide +kernel
theorem dX11_street_124 : decode cX11_street 124 = .ok (.invokevirtual 168, 3) := by decide +kernel
theorem dX11_street_127 : decode cX11_street 127 = .ok (.invokestatic 171, 3) := by decide +kernel
theorem dX11_street_130 : decode cX11_street 130 = .ok (.ireturn, 1) := by decide +kernel
theorem dX11_street_131 : decode cX11_street 131 = .ok (.aload_n 0, 1) := by decide +kernel
theorem dX11_street_132 : decode cX11_street 132 = .ok (.getfield 19, 3) := by decide +kernel
theorem dX11_street_135 : decode cX11_street 135 = .ok (.aload_n 3, 1) := by decide +kernel
theorem dX11_street_136 : decode cX11_street 136 = .ok (.aload_n 0, 1) := by decide +kernel
theorem dX11_street_137 : decode cX11_street 137 = .ok (.getfield 40, 3) := by decide +kernel
theorem dX11_street_140 : decode cX11_street 140 = .ok (.iload_n 1, 1) := by decide +kernel
theorem dX11_street_141 : decode cX11_street 141 = .ok (.invokevirtual 168, 3) := by decide +kernel
theorem dX11_street_144 : decode cX11_street 144 = .ok (.aload_n 0, 1) := by decide +kernel
theorem dX11_street_145 : decode cX11_street 145 = .ok (.getfield 19, 3) := by decide +kernel
theorem dX11_street_148 : decode cX11_street 148 = .ok (.iconst 2, 1) := by decide +kernel
theorem dX11_street_149 : decode cX11_street 149 = .ok (.invokevirtual 176, 3) := by decide +kernel
theorem dX11_street_152 : decode cX11_street 152 = .ok (.invokevirtual 179, 3) := by decide +kernel
theorem dX11_street_155 : decode cX11_street 155 = .ok (.ireturn, 1) := by decide +kernel
theorem dX11_street_156 : decode cX11_street 156 = .ok (.new 137, 3) := by decide +kernel
theorem dX11_street_159 : decode cX11_street 159 = .ok (.dup, 1) := by decide +kernel
theorem dX11_street_160 : decode cX11_street 160 = .ok (.ldc 183, 2) := by decide +kernel
theorem dX11_street_162 : decode cX11_street 162 = .ok (.invokespecial 141, 3) := by decide +kernel
theorem dX11_street_165 : decode cX11_street 165 = .ok (.athrow, 1) := by decide +kernel
theorem dX11_bin_0 : decode cX11_bin 0 = .ok (.aload_n 0, 1) := by decide +kernel
theorem dX11_bin_1 : decode cX11_bin 1 = .ok (.getfield 33, 3) := by decide +kernel
theorem dX11_bin_4 : decode cX11_bin 4 = .ok (.iload_n 1, 1) := by decide +kernel
theorem dX11_bin_5 : decode cX11_bin 5 = .ok (.invokevirtual 133, 3) := by decide +kernel
theorem dX11_bin_8 : decode cX11_bin 8 = .ok (.astore 5, 2) := by decide +kernel
theorem dX11_bin_10 : decode cX11_bin 10 = .ok (.aload 5, 2) := by decide +kernel
theorem dX11_bin_12 : decode cX11_bin 12 = .ok (.ifnull 25, 3) := by decide +kernel
theorem dX11_bin_15 : decode cX11_bin 15 = .ok (.iload_n 2, 1) := by decide +kernel
theorem dX11_bin_16 : decode cX11_bin 16 = .ok (.ifCond .lt 21, 3) := by decide +kernel
theorem dX11_bin_19 : decode cX11_bin 19 = .ok (.iload_n 2, 1) := by decide +kernel
theorem dX11_bin_20 : decode cX11_bin 20 = .ok (.iconst 1, 1) := by decide +kernel
theorem dX11_bin_21 : decode cX11_bin 21 = .ok (.if_icmp .gt 16, 3) := by decide +kernel
theorem dX11_bin_24 : decode cX11_bin 24 = .ok (.iload_n 3, 1) := by decide +kernel
theorem dX11_bin_25 : decode cX11_bin 25 = .ok (.ifCond .lt 12, 3) := by decide +kernel
theorem dX11_bin_28 : decode cX11_bin 28 = .ok (.iload_n 3, 1) := by decide +kernel
theorem dX11_bin_29 : decode cX11_bin 29 = .ok (.aload 5, 2) := by decide +kernel
theorem dX11_bin_31 : decode cX11_bin 31 = .ok (.getfield 149, 3) := by decide +kernel
theorem dX11_bin_34 : decode cX11_bin 34 = .ok (.if_icmp .lt 13, 3) := by decide +kernel
theorem dX11_bin_37 : decode cX11_bin 37 = .ok (.new 137, 3) := by decide +kernel
theorem dX11_bin_40 : decode cX11_bin 40 = .ok (.dup, 1) := by decide +kernel
theorem dX11_bin_41 : decode cX11_bin 41 = .ok (.ldc 185, 2) := by decide +kernel
theorem dX11_bin_43 : decode cX11_bin 43 = .ok (.invokespecial 141, 3) := by decide +kernel
theorem dX11_bin_46 : decode cX11_bin 46 = .ok (.athrow, 1) := by decide +kernel
theorem dX11_bin_47 : decode cX11_bin 47 = .ok (.iload_n 2, 1) := by decide +kernel
theorem dX11_bin_48 : decode cX11_bin 48 = .ok (.bipush 8, 2) := by decide +kernel
theorem dX11_bin_50 : decode cX11_bin 50 = .ok (.imul, 1) := by decide +kernel
theorem dX11_bin_51 : decode cX11_bin 51 = .ok (.iload_n 3, 1) := by decide +kernel
theorem dX11_bin_52 : decode cX11_bin 52 = .ok (.iadd, 1) := by decide +kernel
theorem dX11_bin_53 : decode cX11_bin 53 = .ok (.istore 6, 2) := by decide +kernel
theorem dX11_bin_55 : decode cX11_bin 55 = .ok (.iload 4, 2) := by decide +kernel
theorem dX11_bin_57 : decode cX11_bin 57 = .ok (.tableswitch 106 0 3 #[31, 39, 62, 73], 31) := by decide +kernel
theorem dX11_bin_88 : decode cX11_bin 88 = .ok (.aload 5, 2) := by decide +kernel
theorem dX11_bin_90 : decode cX11_bin 90 = .ok (.iload 6, 2) := by decide +kernel
theorem dX11_bin_92 : decode cX11_bin 92 = .ok (.invokevirtual 187, 3) := by decide +kernel
theorem dX11_bin_95 : decode cX11_bin 95 = .ok (.ireturn, 1) := by decide +kernel
theorem dX11_bin_96 : decode cX11_bin 96 = .ok (.aload_n 0, 1) := by decide +kernel
theorem dX11_bin_97 : decode cX11_bin 97 = .ok (.getfield 19, 3) := by decide +kernel
theorem dX11_bin_100 : decode cX11_bin 100 = .ok (.aload 5, 2) := by decide +kernel
theorem dX11_bin_102 : decode cX11_bin 102 = .ok (.iload 6, 2) := by decide +kernel
theorem dX11_bin_104 : decode cX11_bin 104 = .ok (.invokevirtual 187, 3) := by decide +kernel
theorem dX11_bin_107 : decode cX11_bin 107 = .ok (.aload_n 0, 1) := by decide +kernel
theorem dX11_bin_108 : decode cX11_bin 108 = .ok (.getfield 19, 3) := by decide +kernel
theorem dX11_bin_111 : decode cX11_bin 111 = .ok (.iconst 2, 1) := by decide +kernel
theorem dX11_bin_112 : decode cX11_bin 112 = .ok (.invokevirtual 176, 3) := by decide +kernel
theorem dX11_bin_115 : decode cX11_bin 115 = .ok (.invokevirtual 190, 3) := by decide +kernel
theorem dX11_bin_118 : decode cX11_bin 118 = .ok (.ireturn, 1) := by decide +kernel
theorem dX11_bin_119 : decode cX11_bin 119 = .ok (.aload_n 0, 1) := by decide +kernel
theorem dX11_bin_120 : decode cX11_bin 120 = .ok (.getfield 40, 3) := by decide +kernel
theorem dX11_bin_123 : decode cX11_bin 123 = .ok (.iload_n 1, 1) := by decide +kernel
theorem dX11_bin_124 : decode cX11_bin 124 = .ok (.iload 6, 2) := by decide +kernel
theorem dX11_bin_126 : decode cX11_bin 126 = .ok (.invokevirtual 194, 3) := by decide +kernel
theorem dX11_bin_129 : decode cX11_bin 129 = .ok (.ireturn, 1) := by decide +kernel
theorem dX11_bin_130 : decode cX11_bin 130 = .ok (.aload_n 0, 1) := by decide +kernel
theorem dX11_bin_131 : decode cX11_bin 131 = .ok (.getfield 65, 3) := by decide +kernel
theorem dX11_bin_134 : decode cX11_bin 134 = .ok (.aload_n 0, 1) := by decide +kernel
theorem dX11_bin_135 : decode cX11_bin 135 = .ok (.getfield 19, 3) := by decide +kernel
theorem dX11_bin_138 : decode cX11_bin 138 = .ok (.iconst 1, 1) := by decide +kernel
theorem dX11_bin_139 : decode cX11_bin 139 = .ok (.invokevirtual 176, 3) := by decide +kernel
theorem dX11_bin_142 : decode cX11_bin 142 = .ok (.aload 5, 2) := by decide +kernel
theorem dX11_bin_144 : decode cX11_bin 144 = .ok (.getfield 152, 3) := by decide +kernel
theorem dX11_bin_147 : decode cX11_bin 147 = .ok (.invokevirtual 197, 3) := by decide +kernel
theorem dX11_bin_150 : decode cX11_bin 150 = .ok (.aload_n 0, 1) := by decide +kernel
theorem dX11_bin_151 : decode cX11_bin 151 = .ok (.getfield 65, 3) := by decide +kernel
theorem dX11_bin_154 : decode cX11_bin 154 = .ok (.aload 5, 2) := by decide +kernel
theorem dX11_bin_156 : decode cX11_bin 156 = .ok (.iload 6, 2) := by decide +kernel
theorem dX11_bin_158 : decode cX11_bin 158 = .ok (.iconst 0, 1) := by decide +kernel
theorem dX11_bin_159 : decode cX11_bin 159 = .ok (.invokevirtual 200, 3) := by decide +kernel
theorem dX11_bin_162 : decode cX11_bin 162 = .ok (.ireturn, 1) := by decide +kernel
theorem dX11_bin_163 : decode cX11_bin 163 = .ok (.new 137, 3) := by decide +kernel
theorem dX11_bin_166 : decode cX11_bin 166 = .ok (.dup, 1) := by decide +kernel
theorem dX11_bin_167 : decode cX11_bin 167 = .ok (.ldc 183, 2) := by decide +kernel
theorem dX11_bin_169 : decode cX11_bin 169 = .ok (.invokespecial 141, 3) := by decide +kernel
theorem dX11_bin_172 : decode cX11_bin 172 = .ok (.athrow, 1) := by decide +kernel
theorem dX11_set_0 : decode cX11_set 0 = .ok (.iload_n 1, 1) := by decide +kernel
theorem dX11_set_1 : decode cX11_set 1 = .ok (.ifCond .ne 16, 3) := by decide +kernel
theorem dX11_set_4 : decode cX11_set 4 = .ok (.iload_n 2, 1) := by decide +kernel
theorem dX11_set_5 : decode cX11_set 5 = .ok (.aload_n 0, 1) := by decide +kernel
theorem dX11_set_6 : decode cX11_set 6 = .ok (.getfield 40, 3) := by decide +kernel
theorem dX11_set_9 : decode cX11_set 9 = .ok (.getfield 203, 3) := by decide +kernel
theorem dX11_set_12 : decode cX11_set 12 = .ok (.if_icmp .ge 5, 3) := by decide +kernel
theorem dX11_set_15 : decode cX11_set 15 = .ok (.iconst (-1), 1) := by decide +kernel
theorem dX11_set_16 : decode cX11_set 16 = .ok (.ireturn, 1) := by decide +kernel
theorem dX11_set_17 : decode cX11_set 17 = .ok (.aload_n 0, 1) := by decide +kernel
theorem dX11_set_18 : decode cX11_set 18 = .ok (.getfield 19, 3) := by decide +kernel
theorem dX11_set_21 : decode cX11_set 21 = .ok (.iload_n 1, 1) := by decide +kernel
theorem dX11_set_22 : decode cX11_set 22 = .ok (.iload_n 2, 1) := by decide +kernel
theorem dX11_set_23 : decode cX11_set 23 = .ok (.invokevirtual 206, 3) := by decide +kernel
theorem dX11_set_26 : decode cX11_set 26 = .ok (.ireturn, 1) := by decide +kernel
theorem dX11_dayOf_0 : decode cX11_dayOf 0 = .ok (.aload_n 0, 1) := by decide +kernel
theorem dX11_dayOf_1 : decode cX11_dayOf 1 = .ok (.getfield 33, 3) := by decide +kernel
theorem dX11_dayOf_4 : decode cX11_dayOf 4 = .ok (.iload_n 1, 1) := by decide +kernel
theorem dX11_dayOf_5 : decode cX11_dayOf 5 = .ok (.invokevirtual 133, 3) := by decide +kernel
theorem dX11_dayOf_8 : decode cX11_dayOf 8 = .ok (.astore_n 3, 1) := by decide +kernel
theorem dX11_dayOf_9 : decode cX11_dayOf 9 = .ok (.aload_n 3, 1) := by decide +kernel
theorem dX11_dayOf_10 : decode cX11_dayOf 10 = .ok (.ifnull 13, 3) := by decide +kernel
theorem dX11_dayOf_13 : decode cX11_dayOf 13 = .ok (.iload_n 2, 1) := by decide +kernel
theorem dX11_dayOf_14 : decode cX11_dayOf 14 = .ok (.ifCond .lt 9, 3) := by decide +kernel
theorem dX11_dayOf_17 : decode cX11_dayOf 17 = .ok (.iload_n 2, 1) := by decide +kernel
theorem dX11_dayOf_18 : decode cX11_dayOf 18 = .ok (.bipush 7, 2) := by decide +kernel
theorem dX11_dayOf_20 : decode cX11_dayOf 20 = .ok (.if_icmp .lt 5, 3) := by decide +kernel
theorem dX11_dayOf_23 : decode cX11_dayOf 23 = .ok (.iconst (-1), 1) := by decide +kernel
theorem dX11_dayOf_24 : decode cX11_dayOf 24 = .ok (.ireturn, 1) := by decide +kernel
theorem dX11_dayOf_25 : decode cX11_dayOf 25 = .ok (.aload_n 3, 1) := by decide +kernel
theorem dX11_dayOf_26 : decode cX11_dayOf 26 = .ok (.getfield 159, 3) := by decide +kernel
theorem dX11_dayOf_29 : decode cX11_dayOf 29 = .ok (.istore 4, 2) := by decide +kernel
theorem dX11_dayOf_31 : decode cX11_dayOf 31 = .ok (.aload_n 3, 1) := by decide +kernel
theorem dX11_dayOf_32 : decode cX11_dayOf 32 = .ok (.iload_n 2, 1) := by decide +kernel
theorem dX11_dayOf_33 : decode cX11_dayOf 33 = .ok (.putfield 159, 3) := by decide +kernel
theorem dX11_dayOf_36 : decode cX11_dayOf 36 = .ok (.iload 4, 2) := by decide +kernel
theorem dX11_dayOf_38 : decode cX11_dayOf 38 = .ok (.ireturn, 1) := by decide +kernel
theorem dX11_sheet_0 : decode cX11_sheet 0 = .ok (.iload_n 1, 1) := by decide +kernel
theorem dX11_sheet_1 : decode cX11_sheet 1 = .ok (.ifCond .lt 14, 3) := by decide +kernel
theorem dX11_sheet_4 : decode cX11_sheet 4 = .ok (.iload_n 1, 1) := by decide +kernel
theorem dX11_sheet_5 : decode cX11_sheet 5 = .ok (.iconst 3, 1) := by decide +kernel
theorem dX11_sheet_6 : decode cX11_sheet 6 = .ok (.if_icmp .gt 9, 3) := by decide +kernel
theorem dX11_sheet_9 : decode cX11_sheet 9 = .ok (.iload_n 2, 1) := by decide +kernel
theorem dX11_sheet_10 : decode cX11_sheet 10 = .ok (.bipush 6, 2) := by decide +kernel
theorem dX11_sheet_12 : decode cX11_sheet 12 = .ok (.if_icmp .le 5, 3) := by decide +kernel
theorem dX11_sheet_15 : decode cX11_sheet 15 = .ok (.iconst (-1), 1) := by decide +kernel
theorem dX11_sheet_16 : decode cX11_sheet 16 = .ok (.ireturn, 1) := by decide +kernel
theorem dX11_sheet_17 : decode cX11_sheet 17 = .ok (.iload_n 1, 1) := by decide +kernel
theorem dX11_sheet_18 : decode cX11_sheet 18 = .ok (.iconst 3, 1) := by decide +kernel
theorem dX11_sheet_19 : decode cX11_sheet 19 = .ok (.if_icmp .ne 19, 3) := by decide +kernel
theorem dX11_sheet_22 : decode cX11_sheet 22 = .ok (.aload_n 0, 1) := by decide +kernel
theorem dX11_sheet_23 : decode cX11_sheet 23 = .ok (.getfield 33, 3) := by decide +kernel
theorem dX11_sheet_26 : decode cX11_sheet 26 = .ok (.iload_n 1, 1) := by decide +kernel
theorem dX11_sheet_27 : decode cX11_sheet 27 = .ok (.iconst 0, 1) := by decide +kernel
theorem dX11_sheet_28 : decode cX11_sheet 28 = .ok (.iload_n 3, 1) := by decide +kernel
theorem dX11_sheet_29 : decode cX11_sheet 29 = .ok (.iload 4, 2) := by decide +kernel
theorem dX11_sheet_31 : decode cX11_sheet 31 = .ok (.invokevirtual 209, 3) := by decide +kernel
theorem dX11_sheet_34 : decode cX11_sheet 34 = .ok (.pop, 1) := by decide +kernel
theorem dX11_sheet_35 : decode cX11_sheet 35 = .ok (.bipush (-3), 2) := by decide +kernel
theorem dX11_sheet_37 : decode cX11_sheet 37 = .ok (.ireturn, 1) := by decide +kernel
theorem dX11_sheet_38 : decode cX11_sheet 38 = .ok (.iload_n 2, 1) := by decide +kernel
theorem dX11_sheet_39 : decode cX11_sheet 39 = .ok (.ifCond .ge 6, 3) := by decide +kernel
theorem dX11_sheet_42 : decode cX11_sheet 42 = .ok (.bipush (-2), 2) := by decide +kernel
theorem dX11_sheet_44 : decode cX11_sheet 44 = .ok (.ireturn, 1) := by decide +kernel
theorem dX11_sheet_45 : decode cX11_sheet 45 = .ok (.aload_n 0, 1) := by decide +kernel
theorem dX11_sheet_46 : decode cX11_sheet 46 = .ok (.getfield 33, 3) := by decide +kernel
theorem dX11_sheet_49 : decode cX11_sheet 49 = .ok (.iload_n 1, 1) := by decide +kernel
theorem dX11_sheet_50 : decode cX11_sheet 50 = .ok (.iload_n 2, 1) := by decide +kernel
theorem dX11_sheet_51 : decode cX11_sheet 51 = .ok (.iload_n 3, 1) := by decide +kernel
theorem dX11_sheet_52 : decode cX11_sheet 52 = .ok (.iload 4, 2) := by decide +kernel
theorem dX11_sheet_54 : decode cX11_sheet 54 = .ok (.invokevirtual 209, 3) := by decide +kernel
theorem dX11_sheet_57 : decode cX11_sheet 57 = .ok (.ireturn, 1) := by decide +kernel
theorem dX11_drive_0 : decode cX11_drive 0 = .ok (.aload_n 0, 1) := by decide +kernel
theorem dX11_drive_1 : decode cX11_drive 1 = .ok (.getfield 47, 3) := by decide +kernel
theorem dX11_drive_4 : decode cX11_drive 4 = .ok (.aload_n 0, 1) := by decide +kernel
theorem dX11_drive_5 : decode cX11_drive 5 = .ok (.getfield 40, 3) := by decide +kernel
theorem dX11_drive_8 : decode cX11_drive 8 = .ok (.invokevirtual 213, 3) := by decide +kernel
theorem dX11_drive_11 : decode cX11_drive 11 = .ok (.aload_n 0, 1) := by decide +kernel
theorem dX11_drive_12 : decode cX11_drive 12 = .ok (.aload_n 0, 1) := by decide +kernel
theorem dX11_drive_13 : decode cX11_drive 13 = .ok (.iload_n 1, 1) := by decide +kernel
theorem dX11_drive_14 : decode cX11_drive 14 = .ok (.invokevirtual 217, 3) := by decide +kernel
theorem dX11_drive_17 : decode cX11_drive 17 = .ok (.invokevirtual 220, 3) := by decide +kernel
theorem dX11_drive_20 : decode cX11_drive 20 = .ok (.ireturn, 1) := by decide +kernel
theorem dX11_empty_0 : decode cX11_empty 0 = .ok (.aload_n 0, 1) := by decide +kernel
theorem dX11_empty_1 : decode cX11_empty 1 = .ok (.getfield 47, 3) := by decide +kernel
theorem dX11_empty_4 : decode cX11_empty 4 = .ok (.aload_n 0, 1) := by decide +kernel
theorem dX11_empty_5 : decode cX11_empty 5 = .ok (.getfield 40, 3) := by decide +kernel
theorem dX11_empty_8 : decode cX11_empty 8 = .ok (.invokevirtual 213, 3) := by decide +kernel
theorem dX11_empty_11 : decode cX11_empty 11 = .ok (.aload_n 0, 1) := by decide +kernel
theorem dX11_empty_12 : decode cX11_empty 12 = .ok (.aload_n 0, 1) := by decide +kernel
theorem dX11_empty_13 : decode cX11_empty 13 = .ok (.iload_n 1, 1) := by decide +kernel
theorem dX11_empty_14 : decode cX11_empty 14 = .ok (.iload_n 2, 1) := by decide +kernel
theorem dX11_empty_15 : decode cX11_empty 15 = .ok (.invokevirtual 223, 3) := by decide +kernel
theorem dX11_empty_18 : decode cX11_empty 18 = .ok (.invokevirtual 220, 3) := by decide +kernel
theorem dX11_empty_21 : decode cX11_empty 21 = .ok (.istore_n 3, 1) := by decide +kernel
theorem dX11_empty_22 : decode cX11_empty 22 = .ok (.iload_n 3, 1) := by decide +kernel
theorem dX11_empty_23 : decode cX11_empty 23 = .ok (.ifCond .lt 57, 3) := by decide +kernel
theorem dX11_empty_26 : decode cX11_empty 26 = .ok (.aload_n 0, 1) := by decide +kernel
theorem dX11_empty_27 : decode cX11_empty 27 = .ok (.aload_n 0, 1) := by decide +kernel
theorem dX11_empty_28 : decode cX11_empty 28 = .ok (.getfield 65, 3) := by decide +kernel
theorem dX11_empty_31 : decode cX11_empty 31 = .ok (.getfield 226, 3) := by decide +kernel
theorem dX11_empty_34 : decode cX11_empty 34 = .ok (.invokestatic 171, 3) := by decide +kernel
theorem dX11_empty_37 : decode cX11_empty 37 = .ok (.i2l, 1) := by decide +kernel
theorem dX11_empty_38 : decode cX11_empty 38 = .ok (.invokevirtual 229, 3) := by decide +kernel
theorem dX11_empty_41 : decode cX11_empty 41 = .ok (.aload_n 0, 1) := by decide +kernel
theorem dX11_empty_42 : decode cX11_empty 42 = .ok (.aload_n 0, 1) := by decide +kernel
theorem dX11_empty_43 : decode cX11_empty 43 = .ok (.getfield 65, 3) := by decide +kernel
theorem dX11_empty_46 : decode cX11_empty 46 = .ok (.getfield 233, 3) := by decide +kernel
theorem dX11_empty_49 : decode cX11_empty 49 = .ok (.invokestatic 171, 3) := by decide +kernel
theorem dX11_empty_52 : decode cX11_empty 52 = .ok (.i2l, 1) := by decide +kernel
theorem dX11_empty_53 : decode cX11_empty 53 = .ok (.invokevirtual 236, 3) := by decide +kernel
theorem dX11_empty_56 : decode cX11_empty 56 = .ok (.aload_n 0, 1) := by decide +kernel
theorem dX11_empty_57 : decode cX11_empty 57 = .ok (.aload_n 0, 1) := by decide +kernel
theorem dX11_empty_58 : decode cX11_empty 58 = .ok (.getfield 65, 3) := by decide +kernel
theorem dX11_empty_61 : decode cX11_empty 61 = .ok (.getfield 239, 3) := by decide +kernel
theorem dX11_empty_64 : decode cX11_empty 64 = .ok (.i2l, 1) := by decide +kernel
theorem dX11_empty_65 : decode cX11_empty 65 = .ok (.invokevirtual 236, 3) := by decide +kernel
theorem dX11_empty_68 : decode cX11_empty 68 = .ok (.aload_n 0, 1) := by decide +kernel
theorem dX11_empty_69 : decode cX11_empty 69 = .ok (.aload_n 0, 1) := by decide +kernel
theorem dX11_empty_70 : decode cX11_empty 70 = .ok (.getfield 65, 3) := by decide +kernel
theorem dX11_empty_73 : decode cX11_empty 73 = .ok (.getfield 242, 3) := by decide +kernel
theorem dX11_empty_76 : decode cX11_empty 76 = .ok (.i2l, 1) := by decide +kernel
theorem dX11_empty_77 : decode cX11_empty 77 = .ok (.invokevirtual 236, 3) := by decide +kernel
theorem dX11_empty_80 : decode cX11_empty 80 = .ok (.iload_n 3, 1) := by decide +kernel
theorem dX11_empty_81 : decode cX11_empty 81 = .ok (.ireturn, 1) := by decide +kernel
theorem dX11_tip_0 : decode cX11_tip 0 = .ok (.aload_n 0, 1) := by decide +kernel
theorem dX11_tip_1 : decode cX11_tip 1 = .ok (.getfield 47, 3) := by decide +kernel
theorem dX11_tip_4 : decode cX11_tip 4 = .ok (.aload_n 0, 1) := by decide +kernel
theorem dX11_tip_5 : decode cX11_tip 5 = .ok (.getfield 40, 3) := by decide +kernel
theorem dX11_tip_8 : decode cX11_tip 8 = .ok (.invokevirtual 213, 3) := by decide +kernel
theorem dX11_tip_11 : decode cX11_tip 11 = .ok (.aload_n 0, 1) := by decide +kernel
theorem dX11_tip_12 : decode cX11_tip 12 = .ok (.getfield 40, 3) := by decide +kernel
theorem dX11_tip_15 : decode cX11_tip 15 = .ok (.getfield 203, 3) := by decide +kernel
theorem dX11_tip_18 : decode cX11_tip 18 = .ok (.istore_n 1, 1) := by decide +kernel
theorem dX11_tip_19 : decode cX11_tip 19 = .ok (.aload_n 0, 1) := by decide +kernel
theorem dX11_tip_20 : decode cX11_tip 20 = .ok (.aload_n 0, 1) := by decide +kernel
theorem dX11_tip_21 : decode cX11_tip 21 = .ok (.invokevirtual 245, 3) := by decide +kernel
theorem dX11_tip_24 : decode cX11_tip 24 = .ok (.invokevirtual 220, 3) := by decide +kernel
theorem dX11_tip_27 : decode cX11_tip 27 = .ok (.istore_n 2, 1) := by decide +kernel
theorem dX11_tip_28 : decode cX11_tip 28 = .ok (.iload_n 2, 1) := by decide +kernel
theorem dX11_tip_29 : decode cX11_tip 29 = .ok (.ifCond .lt 9, 3) := by decide +kernel
theorem dX11_tip_32 : decode cX11_tip 32 = .ok (.aload_n 0, 1) := by decide +kernel
theorem dX11_tip_33 : decode cX11_tip 33 = .ok (.iload_n 1, 1) := by decide +kernel
theorem dX11_tip_34 : decode cX11_tip 34 = .ok (.i2l, 1) := by decide +kernel
theorem dX11_tip_35 : decode cX11_tip 35 = .ok (.invokevirtual 229, 3) := by decide +kernel
theorem dX11_tip_38 : decode cX11_tip 38 = .ok (.iload_n 2, 1) := by decide +kernel
theorem dX11_tip_39 : decode cX11_tip 39 = .ok (.ireturn, 1) := by decide +kernel
theorem dX11_pause_0 : decode cX11_pause 0 = .ok (.aload_n 0, 1) := by decide +kernel
theorem dX11_pause_1 : decode cX11_pause 1 = .ok (.getfield 47, 3) := by decide +kernel
theorem dX11_pause_4 : decode cX11_pause 4 = .ok (.aload_n 0, 1) := by decide +kernel
theorem dX11_pause_5 : decode cX11_pause 5 = .ok (.getfield 40, 3) := by decide +kernel
theorem dX11_pause_8 : decode cX11_pause 8 = .ok (.invokevirtual 213, 3) := by decide +kernel
theorem dX11_pause_11 : decode cX11_pause 11 = .ok (.aload_n 0, 1) := by decide +kernel
theorem dX11_pause_12 : decode cX11_pause 12 = .ok (.aload_n 0, 1) := by decide +kernel
theorem dX11_pause_13 : decode cX11_pause 13 = .ok (.iload_n 1, 1) := by decide +kernel
theorem dX11_pause_14 : decode cX11_pause 14 = .ok (.invokevirtual 249, 3) := by decide +kernel
theorem dX11_pause_17 : decode cX11_pause 17 = .ok (.invokevirtual 220, 3) := by decide +kernel
theorem dX11_pause_20 : decode cX11_pause 20 = .ok (.ireturn, 1) := by decide +kernel
theorem dX11_week_0 : decode cX11_week 0 = .ok (.aload_n 0, 1) := by decide +kernel
theorem dX11_week_1 : decode cX11_week 1 = .ok (.getfield 47, 3) := by decide +kernel
theorem dX11_week_4 : decode cX11_week 4 = .ok (.aload_n 0, 1) := by decide +kernel
theorem dX11_week_5 : decode cX11_week 5 = .ok (.getfield 40, 3) := by decide +kernel
theorem dX11_week_8 : decode cX11_week 8 = .ok (.invokevirtual 213, 3) := by decide +kernel
theorem dX11_week_11 : decode cX11_week 11 = .ok (.iconst 0, 1) := by decide +kernel
theorem dX11_week_12 : decode cX11_week 12 = .ok (.istore_n 1, 1) := by decide +kernel
theorem dX11_week_13 : decode cX11_week 13 = .ok (.iload_n 1, 1) := by decide +kernel
theorem dX11_week_14 : decode cX11_week 14 = .ok (.aload_n 0, 1) := by decide +kernel
theorem dX11_week_15 : decode cX11_week 15 = .ok (.getfield 33, 3) := by decide +kernel
theorem dX11_week_18 : decode cX11_week 18 = .ok (.getfield 113, 3) := by decide +kernel
theorem dX11_week_21 : decode cX11_week 21 = .ok (.if_icmp .ge 25, 3) := by decide +kernel
theorem dX11_week_24 : decode cX11_week 24 = .ok (.aload_n 0, 1) := by decide +kernel
theorem dX11_week_25 : decode cX11_week 25 = .ok (.getfield 40, 3) := by decide +kernel
theorem dX11_week_28 : decode cX11_week 28 = .ok (.iload_n 1, 1) := by decide +kernel
theorem dX11_week_29 : decode cX11_week 29 = .ok (.aload_n 0, 1) := by decide +kernel
theorem dX11_week_30 : decode cX11_week 30 = .ok (.getfield 33, 3) := by decide +kernel
theorem dX11_week_33 : decode cX11_week 33 = .ok (.iload_n 1, 1) := by decide +kernel
theorem dX11_week_34 : decode cX11_week 34 = .ok (.invokevirtual 123, 3) := by decide +kernel
theorem dX11_week_37 : decode cX11_week 37 = .ok (.invokevirtual 127, 3) := by decide +kernel
theorem dX11_week_40 : decode cX11_week 40 = .ok (.iinc 1 1, 3) := by decide +kernel
theorem dX11_week_43 : decode cX11_week 43 = .ok (.goto (-30), 3) := by decide +kernel
theorem dX11_week_46 : decode cX11_week 46 = .ok (.aload_n 0, 1) := by decide +kernel
theorem dX11_week_47 : decode cX11_week 47 = .ok (.getfield 40, 3) := by decide +kernel
theorem dX11_week_50 : decode cX11_week 50 = .ok (.iconst 0, 1) := by decide +kernel
theorem dX11_week_51 : decode cX11_week 51 = .ok (.putfield 203, 3) := by decide +kernel
theorem dX11_week_54 : decode cX11_week 54 = .ok (.aload_n 0, 1) := by decide +kernel
theorem dX11_week_55 : decode cX11_week 55 = .ok (.getfield 40, 3) := by decide +kernel
theorem dX11_week_58 : decode cX11_week 58 = .ok (.iconst 0, 1) := by decide +kernel
theorem dX11_week_59 : decode cX11_week 59 = .ok (.putfield 252, 3) := by decide +kernel
theorem dX11_week_62 : decode cX11_week 62 = .ok (.aload_n 0, 1) := by decide +kernel
theorem dX11_week_63 : decode cX11_week 63 = .ok (.getfield 40, 3) := by decide +kernel
theorem dX11_week_66 : decode cX11_week 66 = .ok (.iconst 0, 1) := by decide +kernel
theorem dX11_week_67 : decode cX11_week 67 = .ok (.putfield 253, 3) := by decide +kernel
theorem dX11_week_70 : decode cX11_week 70 = .ok (.aload_n 0, 1) := by decide +kernel
theorem dX11_week_71 : decode cX11_week 71 = .ok (.aload_n 0, 1) := by decide +kernel
theorem dX11_week_72 : decode cX11_week 72 = .ok (.getfield 40, 3) := by decide +kernel
theorem dX11_week_75 : decode cX11_week 75 = .ok (.iconst 1, 1) := by decide +kernel
theorem dX11_week_76 : decode cX11_week 76 = .ok (.invokevirtual 256, 3) := by decide +kernel
theorem dX11_week_79 : decode cX11_week 79 = .ok (.invokevirtual 220, 3) := by decide +kernel
theorem dX11_week_82 : decode cX11_week 82 = .ok (.ireturn, 1) := by decide +kernel
theorem dX11_round_0 : decode cX11_round 0 = .ok (.aload_n 0, 1) := by decide +kernel
theorem dX11_round_1 : decode cX11_round 1 = .ok (.invokevirtual 259, 3) := by decide +kernel
theorem dX11_round_4 : decode cX11_round 4 = .ok (.istore_n 1, 1) := by decide +kernel
theorem dX11_round_5 : decode cX11_round 5 = .ok (.aload_n 0, 1) := by decide +kernel
theorem dX11_round_6 : decode cX11_round 6 = .ok (.getfield 12, 3) := by decide +kernel
theorem dX11_round_9 : decode cX11_round 9 = .ok (.invokevirtual 120, 3) := by decide +kernel
theorem dX11_round_12 : decode cX11_round 12 = .ok (.iload_n 1, 1) := by decide +kernel
theorem dX11_round_13 : decode cX11_round 13 = .ok (.ifCond .ge 5, 3) := by decide +kernel
theorem dX11_round_16 : decode cX11_round 16 = .ok (.iload_n 1, 1) := by decide +kernel
theorem dX11_round_17 : decode cX11_round 17 = .ok (.ireturn, 1) := by decide +kernel
theorem dX11_round_18 : decode cX11_round 18 = .ok (.aload_n 0, 1) := by decide +kernel
theorem dX11_round_19 : decode cX11_round 19 = .ok (.getfield 47, 3) := by decide +kernel
theorem dX11_round_22 : decode cX11_round 22 = .ok (.aload_n 0, 1) := by decide +kernel
theorem dX11_round_23 : decode cX11_round 23 = .ok (.getfield 40, 3) := by decide +kernel
theorem dX11_round_26 : decode cX11_round 26 = .ok (.invokevirtual 213, 3) := by decide +kernel
theorem dX11_round_29 : decode cX11_round 29 = .ok (.aload_n 0, 1) := by decide +kernel
theorem dX11_round_30 : decode cX11_round 30 = .ok (.getfield 40, 3) := by decide +kernel
theorem dX11_round_33 : decode cX11_round 33 = .ok (.getfield 253, 3) := by decide +kernel
theorem dX11_round_36 : decode cX11_round 36 = .ok (.istore_n 2, 1) := by decide +kernel
theorem dX11_round_37 : decode cX11_round 37 = .ok (.aload_n 0, 1) := by decide +kernel
theorem dX11_round_38 : decode cX11_round 38 = .ok (.getfield 40, 3) := by decide +kernel
theorem dX11_round_41 : decode cX11_round 41 = .ok (.iconst 2, 1) := by decide +kernel
theorem dX11_round_42 : decode cX11_round 42 = .ok (.invokevirtual 256, 3) := by decide +kernel
theorem dX11_round_45 : decode cX11_round 45 = .ok (.istore_n 3, 1) := by decide +kernel
theorem dX11_round_46 : decode cX11_round 46 = .ok (.iconst 0, 1) := by decide +kernel
theorem dX11_round_47 : decode cX11_round 47 = .ok (.istore 4, 2) := by decide +kernel
theorem dX11_round_49 : decode cX11_round 49 = .ok (.iload 4, 2) := by decide +kernel
theorem dX11_round_51 : decode cX11_round 51 = .ok (.iload_n 1, 1) := by decide +kernel
theorem dX11_round_52 : decode cX11_round 52 = .ok (.if_icmp .ge 33, 3) := by decide +kernel
theorem dX11_round_55 : decode cX11_round 55 = .ok (.iload 4, 2) := by decide +kernel
theorem dX11_round_57 : decode cX11_round 57 = .ok (.aload_n 0, 1) := by decide +kernel
theorem dX11_round_58 : decode cX11_round 58 = .ok (.getfield 95, 3) := by decide +kernel
theorem dX11_round_61 : decode cX11_round 61 = .ok (.arraylength, 1) := by decide +kernel
theorem dX11_round_62 : decode cX11_round 62 = .ok (.if_icmp .ge 23, 3) := by decide +kernel
theorem dX11_round_65 : decode cX11_round 65 = .ok (.aload_n 0, 1) := by decide +kernel
theorem dX11_round_66 : decode cX11_round 66 = .ok (.aload_n 0, 1) := by decide +kernel
theorem dX11_round_67 : decode cX11_round 67 = .ok (.getfield 95, 3) := by decide +kernel
theorem dX11_round_70 : decode cX11_round 70 = .ok (.iload 4, 2) := by decide +kernel
theorem dX11_round_72 : decode cX11_round 72 = .ok (.iaload, 1) := by decide +kernel
theorem dX11_round_73 : decode cX11_round 73 = .ok (.invokevirtual 262, 3) := by decide +kernel
theorem dX11_round_76 : decode cX11_round 76 = .ok (.ifCond .lt 9, 3) := by decide +kernel
theorem dX11_round_79 : decode cX11_round 79 = .ok (.iinc 4 1, 3) := by decide +kernel
theorem dX11_round_82 : decode cX11_round 82 = .ok (.goto (-33), 3) := by decide +kernel
theorem dX11_round_85 : decode cX11_round 85 = .ok (.iload 4, 2) := by decide +kernel
theorem dX11_round_87 : decode cX11_round 87 = .ok (.ifCond .le 10, 3) := by decide +kernel
theorem dX11_round_90 : decode cX11_round 90 = .ok (.aload_n 0, 1) := by decide +kernel
theorem dX11_round_91 : decode cX11_round 91 = .ok (.getfield 47, 3) := by decide +kernel
theorem dX11_round_94 : decode cX11_round 94 = .ok (.invokevirtual 265, 3) := by decide +kernel
theorem dX11_round_97 : decode cX11_round 97 = .ok (.aload_n 0, 1) := by decide +kernel
theorem dX11_round_98 : decode cX11_round 98 = .ok (.iload 4, 2) := by decide +kernel
theorem dX11_round_100 : decode cX11_round 100 = .ok (.iload_n 1, 1) := by decide +kernel
theorem dX11_round_101 : decode cX11_round 101 = .ok (.if_icmp .ge 7, 3) := by decide +kernel
theorem dX11_round_104 : decode cX11_round 104 = .ok (.lconst 1, 1) := by decide +kernel
theorem dX11_round_105 : decode cX11_round 105 = .ok (.goto 4, 3) := by decide +kernel
theorem dX11_round_108 : decode cX11_round 108 = .ok (.lconst 0, 1) := by decide +kernel
theorem dX11_round_109 : decode cX11_round 109 = .ok (.invokevirtual 229, 3) := by decide +kernel
theorem dX11_round_112 : decode cX11_round 112 = .ok (.aload_n 0, 1) := by decide +kernel
theorem dX11_round_113 : decode cX11_round 113 = .ok (.aload_n 0, 1) := by decide +kernel
theorem dX11_round_114 : decode cX11_round 114 = .ok (.getfield 40, 3) := by decide +kernel
theorem dX11_round_117 : decode cX11_round 117 = .ok (.iconst 2, 1) := by decide +kernel
theorem dX11_round_118 : decode cX11_round 118 = .ok (.invokevirtual 256, 3) := by decide +kernel
theorem dX11_round_121 : decode cX11_round 121 = .ok (.iload_n 3, 1) := by decide +kernel
theorem dX11_round_122 : decode cX11_round 122 = .ok (.isub, 1) := by decide +kernel
theorem dX11_round_123 : decode cX11_round 123 = .ok (.i2l, 1) := by decide +kernel
theorem dX11_round_124 : decode cX11_round 124 = .ok (.invokevirtual 236, 3) := by decide +kernel
theorem dX11_round_127 : decode cX11_round 127 = .ok (.aload_n 0, 1) := by decide +kernel
theorem dX11_round_128 : decode cX11_round 128 = .ok (.aload_n 0, 1) := by decide +kernel
theorem dX11_round_129 : decode cX11_round 129 = .ok (.getfield 40, 3) := by decide +kernel
theorem dX11_round_132 : decode cX11_round 132 = .ok (.getfield 253, 3) := by decide +kernel
theorem dX11_round_135 : decode cX11_round 135 = .ok (.iload_n 2, 1) := by decide +kernel
theorem dX11_round_136 : decode cX11_round 136 = .ok (.isub, 1) := by decide +kernel
theorem dX11_round_137 : decode cX11_round 137 = .ok (.i2l, 1) := by decide +kernel
theorem dX11_round_138 : decode cX11_round 138 = .ok (.invokevirtual 236, 3) := by decide +kernel
theorem dX11_round_141 : decode cX11_round 141 = .ok (.iload 4, 2) := by decide +kernel
theorem dX11_round_143 : decode cX11_round 143 = .ok (.ireturn, 1) := by decide +kernel
theorem dX11_undo_0 : decode cX11_undo 0 = .ok (.aload_n 0, 1) := by decide +kernel
theorem dX11_undo_1 : decode cX11_undo 1 = .ok (.getfield 47, 3) := by decide +kernel
theorem dX11_undo_4 : decode cX11_undo 4 = .ok (.aload_n 0, 1) := by decide +kernel
theorem dX11_undo_5 : decode cX11_undo 5 = .ok (.getfield 40, 3) := by decide +kernel
theorem dX11_undo_8 : decode cX11_undo 8 = .ok (.invokevirtual 268, 3) := by decide +kernel
theorem dX11_undo_11 : decode cX11_undo 11 = .ok (.ifCond .eq 13, 3) := by decide +kernel
theorem dX11_undo_14 : decode cX11_undo 14 = .ok (.aload_n 0, 1) := by decide +kernel
theorem dX11_undo_15 : decode cX11_undo 15 = .ok (.getfield 47, 3) := by decide +kernel
theorem dX11_undo_18 : decode cX11_undo 18 = .ok (.getfield 272, 3) := by decide +kernel
theorem dX11_undo_21 : decode cX11_undo 21 = .ok (.goto 4, 3) := by decide +kernel
theorem dX11_undo_24 : decode cX11_undo 24 = .ok (.iconst (-1), 1) := by decide +kernel
theorem dX11_undo_25 : decode cX11_undo 25 = .ok (.ireturn, 1) := by decide +kernel
theorem dX11_remember_0 : decode cX11_remember 0 = .ok (.iload_n 1, 1) := by decide +kernel
theorem dX11_remember_1 : decode cX11_remember 1 = .ok (.ifCond .lt 10, 3) := by decide +kernel
theorem dX11_remember_4 : decode cX11_remember 4 = .ok (.aload_n 0, 1) := by decide +kernel
theorem dX11_remember_5 : decode cX11_remember 5 = .ok (.getfield 47, 3) := by decide +kernel
theorem dX11_remember_8 : decode cX11_remember 8 = .ok (.invokevirtual 265, 3) := by decide +kernel
theorem dX11_remember_11 : decode cX11_remember 11 = .ok (.iload_n 1, 1) := by decide +kernel
theorem dX11_remember_12 : decode cX11_remember 12 = .ok (.ireturn, 1) := by decide +kernel
theorem dX11_goTo_0 : decode cX11_goTo 0 = .ok (.aload_n 0, 1) := by decide +kernel
theorem dX11_goTo_1 : decode cX11_goTo 1 = .ok (.getfield 33, 3) := by decide +kernel
theorem dX11_goTo_4 : decode cX11_goTo 4 = .ok (.iload_n 1, 1) := by decide +kernel
theorem dX11_goTo_5 : decode cX11_goTo 5 = .ok (.invokevirtual 133, 3) := by decide +kernel
theorem dX11_goTo_8 : decode cX11_goTo 8 = .ok (.astore_n 2, 1) := by decide +kernel
theorem dX11_goTo_9 : decode cX11_goTo 9 = .ok (.aload_n 2, 1) := by decide +kernel
theorem dX11_goTo_10 : decode cX11_goTo 10 = .ok (.ifnonnull 5, 3) := by decide +kernel
theorem dX11_goTo_13 : decode cX11_goTo 13 = .ok (.iconst (-1), 1) := by decide +kernel
theorem dX11_goTo_14 : decode cX11_goTo 14 = .ok (.ireturn, 1) := by decide +kernel
theorem dX11_goTo_15 : decode cX11_goTo 15 = .ok (.aload_n 0, 1) := by decide +kernel
theorem dX11_goTo_16 : decode cX11_goTo 16 = .ok (.getfield 40, 3) := by decide +kernel
theorem dX11_goTo_19 : decode cX11_goTo 19 = .ok (.getfield 252, 3) := by decide +kernel
theorem dX11_goTo_22 : decode cX11_goTo 22 = .ok (.aload_n 2, 1) := by decide +kernel
theorem dX11_goTo_23 : decode cX11_goTo 23 = .ok (.getfield 144, 3) := by decide +kernel
theorem dX11_goTo_26 : decode cX11_goTo 26 = .ok (.invokestatic 273, 3) := by decide +kernel
theorem dX11_goTo_29 : decode cX11_goTo 29 = .ok (.istore_n 3, 1) := by decide +kernel
theorem dX11_goTo_30 : decode cX11_goTo 30 = .ok (.aload_n 0, 1) := by decide +kernel
theorem dX11_goTo_31 : decode cX11_goTo 31 = .ok (.getfield 40, 3) := by decide +kernel
theorem dX11_goTo_34 : decode cX11_goTo 34 = .ok (.aload_n 2, 1) := by decide +kernel
theorem dX11_goTo_35 : decode cX11_goTo 35 = .ok (.getfield 144, 3) := by decide +kernel
theorem dX11_goTo_38 : decode cX11_goTo 38 = .ok (.putfield 252, 3) := by decide +kernel
theorem dX11_goTo_41 : decode cX11_goTo 41 = .ok (.aload_n 0, 1) := by decide +kernel
theorem dX11_goTo_42 : decode cX11_goTo 42 = .ok (.getfield 40, 3) := by decide +kernel
theorem dX11_goTo_45 : decode cX11_goTo 45 = .ok (.dup, 1) := by decide +kernel
theorem dX11_goTo_46 : decode cX11_goTo 46 = .ok (.getfield 253, 3) := by decide +kernel
theorem dX11_goTo_49 : decode cX11_goTo 49 = .ok (.iload_n 3, 1) := by decide +kernel
theorem dX11_goTo_50 : decode cX11_goTo 50 = .ok (.iadd, 1) := by decide +kernel
theorem dX11_goTo_51 : decode cX11_goTo 51 = .ok (.putfield 253, 3) := by decide +kernel
theorem dX11_goTo_54 : decode cX11_goTo 54 = .ok (.iload_n 3, 1) := by decide +kernel
theorem dX11_goTo_55 : decode cX11_goTo 55 = .ok (.ireturn, 1) := by decide +kernel
theorem dX11_emptyBins_0 : decode cX11_emptyBins 0 = .ok (.aload_n 0, 1) := by decide +kernel
theorem dX11_emptyBins_1 : decode cX11_emptyBins 1 = .ok (.getfield 33, 3) := by decide +kernel
theorem dX11_emptyBins_4 : decode cX11_emptyBins 4 = .ok (.iload_n 1, 1) := by decide +kernel
theorem dX11_emptyBins_5 : decode cX11_emptyBins 5 = .ok (.invokevirtual 133, 3) := by decide +kernel
theorem dX11_emptyBins_8 : decode cX11_emptyBins 8 = .ok (.astore_n 3, 1) := by decide +kernel
theorem dX11_emptyBins_9 : decode cX11_emptyBins 9 = .ok (.aload_n 3, 1) := by decide +kernel
theorem dX11_emptyBins_10 : decode cX11_emptyBins 10 = .ok (.ifnull 12, 3) := by decide +kernel
theorem dX11_emptyBins_13 : decode cX11_emptyBins 13 = .ok (.iload_n 2, 1) := by decide +kernel
theorem dX11_emptyBins_14 : decode cX11_emptyBins 14 = .ok (.ifCond .lt 8, 3) := by decide +kernel
theorem dX11_emptyBins_17 : decode cX11_emptyBins 17 = .ok (.iload_n 2, 1) := by decide +kernel
theorem dX11_emptyBins_18 : decode cX11_emptyBins 18 = .ok (.iconst 3, 1) := by decide +kernel
theorem dX11_emptyBins_19 : decode cX11_emptyBins 19 = .ok (.if_icmp .lt 5, 3) := by decide +kernel
theorem dX11_emptyBins_22 : decode cX11_emptyBins 22 = .ok (.iconst (-1), 1) := by decide +kernel
theorem dX11_emptyBins_23 : decode cX11_emptyBins 23 = .ok (.ireturn, 1) := by decide +kernel
theorem dX11_emptyBins_24 : decode cX11_emptyBins 24 = .ok (.aload_n 0, 1) := by decide +kernel
theorem dX11_emptyBins_25 : decode cX11_emptyBins 25 = .ok (.getfield 40, 3) := by decide +kernel
theorem dX11_emptyBins_28 : decode cX11_emptyBins 28 = .ok (.getfield 252, 3) := by decide +kernel
theorem dX11_emptyBins_31 : decode cX11_emptyBins 31 = .ok (.aload_n 3, 1) := by decide +kernel
theorem dX11_emptyBins_32 : decode cX11_emptyBins 32 = .ok (.getfield 144, 3) := by decide +kernel
theorem dX11_emptyBins_35 : decode cX11_emptyBins 35 = .ok (.if_icmp .eq 6, 3) := by decide +kernel
theorem dX11_emptyBins_38 : decode cX11_emptyBins 38 = .ok (.bipush (-2), 2) := by decide +kernel
theorem dX11_emptyBins_40 : decode cX11_emptyBins 40 = .ok (.ireturn, 1) := by decide +kernel
theorem dX11_emptyBins_41 : decode cX11_emptyBins 41 = .ok (.aload_n 3, 1) := by decide +kernel
theorem dX11_emptyBins_42 : decode cX11_emptyBins 42 = .ok (.aload_n 0, 1) := by decide +kernel
theorem dX11_emptyBins_43 : decode cX11_emptyBins 43 = .ok (.getfield 40, 3) := by decide +kernel
theorem dX11_emptyBins_46 : decode cX11_emptyBins 46 = .ok (.getfield 253, 3) := by decide +kernel
theorem dX11_emptyBins_49 : decode cX11_emptyBins 49 = .ok (.invokevirtual 276, 3) := by decide +kernel
theorem dX11_emptyBins_52 : decode cX11_emptyBins 52 = .ok (.ifCond .eq 6, 3) := by decide +kernel
theorem dX11_emptyBins_55 : decode cX11_emptyBins 55 = .ok (.bipush (-3), 2) := by decide +kernel
theorem dX11_emptyBins_57 : decode cX11_emptyBins 57 = .ok (.ireturn, 1) := by decide +kernel
theorem dX11_emptyBins_58 : decode cX11_emptyBins 58 = .ok (.aload_n 0, 1) := by decide +kernel
theorem dX11_emptyBins_59 : decode cX11_emptyBins 59 = .ok (.getfield 65, 3) := by decide +kernel
theorem dX11_emptyBins_62 : decode cX11_emptyBins 62 = .ok (.aload_n 0, 1) := by decide +kernel
theorem dX11_emptyBins_63 : decode cX11_emptyBins 63 = .ok (.getfield 19, 3) := by decide +kernel
theorem dX11_emptyBins_66 : decode cX11_emptyBins 66 = .ok (.iconst 1, 1) := by decide +kernel
theorem dX11_emptyBins_67 : decode cX11_emptyBins 67 = .ok (.invokevirtual 176, 3) := by decide +kernel
theorem dX11_emptyBins_70 : decode cX11_emptyBins 70 = .ok (.aload_n 3, 1) := by decide +kernel
theorem dX11_emptyBins_71 : decode cX11_emptyBins 71 = .ok (.getfield 152, 3) := by decide +kernel
theorem dX11_emptyBins_74 : decode cX11_emptyBins 74 = .ok (.invokevirtual 197, 3) := by decide +kernel
theorem dX11_emptyBins_77 : decode cX11_emptyBins 77 = .ok (.aload_n 0, 1) := by decide +kernel
theorem dX11_emptyBins_78 : decode cX11_emptyBins 78 = .ok (.getfield 65, 3) := by decide +kernel
theorem dX11_emptyBins_81 : decode cX11_emptyBins 81 = .ok (.aload_n 3, 1) := by decide +kernel
theorem dX11_emptyBins_82 : decode cX11_emptyBins 82 = .ok (.iload_n 2, 1) := by decide +kernel
theorem dX11_emptyBins_83 : decode cX11_emptyBins 83 = .ok (.aload_n 0, 1) := by decide +kernel
theorem dX11_emptyBins_84 : decode cX11_emptyBins 84 = .ok (.getfield 40, 3) := by decide +kernel
theorem dX11_emptyBins_87 : decode cX11_emptyBins 87 = .ok (.iload_n 1, 1) := by decide +kernel
theorem dX11_emptyBins_88 : decode cX11_emptyBins 88 = .ok (.invokevirtual 168, 3) := by decide +kernel
theorem dX11_emptyBins_91 : decode cX11_emptyBins 91 = .ok (.invokevirtual 279, 3) := by decide +kernel
theorem dX11_emptyBins_94 : decode cX11_emptyBins 94 = .ok (.aload_n 0, 1) := by decide +kernel
theorem dX11_emptyBins_95 : decode cX11_emptyBins 95 = .ok (.getfield 65, 3) := by decide +kernel
theorem dX11_emptyBins_98 : decode cX11_emptyBins 98 = .ok (.aload_n 0, 1) := by decide +kernel
theorem dX11_emptyBins_99 : decode cX11_emptyBins 99 = .ok (.getfield 40, 3) := by decide +kernel
theorem dX11_emptyBins_102 : decode cX11_emptyBins 102 = .ok (.getfield 203, 3) := by decide +kernel
theorem dX11_emptyBins_105 : decode cX11_emptyBins 105 = .ok (.aload_n 0, 1) := by decide +kernel
theorem dX11_emptyBins_106 : decode cX11_emptyBins 106 = .ok (.getfield 19, 3) := by decide +kernel
theorem dX11_emptyBins_109 : decode cX11_emptyBins 109 = .ok (.iconst 0, 1) := by decide +kernel
theorem dX11_emptyBins_110 : decode cX11_emptyBins 110 = .ok (.invokevirtual 176, 3) := by decide +kernel
theorem dX11_emptyBins_113 : decode cX11_emptyBins 113 = .ok (.invokevirtual 283, 3) := by decide +kernel
theorem dX11_emptyBins_116 : decode cX11_emptyBins 116 = .ok (.aload_n 0, 1) := by decide +kernel
theorem dX11_emptyBins_117 : decode cX11_emptyBins 117 = .ok (.getfield 40, 3) := by decide +kernel
theorem dX11_emptyBins_120 : decode cX11_emptyBins 120 = .ok (.iload_n 1, 1) := by decide +kernel
theorem dX11_emptyBins_121 : decode cX11_emptyBins 121 = .ok (.aload_n 0, 1) := by decide +kernel
theorem dX11_emptyBins_122 : decode cX11_emptyBins 122 = .ok (.getfield 65, 3) := by decide +kernel
theorem dX11_emptyBins_125 : decode cX11_emptyBins 125 = .ok (.invokevirtual 286, 3) := by decide +kernel
theorem dX11_emptyBins_128 : decode cX11_emptyBins 128 = .ok (.aload_n 0, 1) := by decide +kernel
theorem dX11_emptyBins_129 : decode cX11_emptyBins 129 = .ok (.getfield 65, 3) := by decide +kernel
theorem dX11_emptyBins_132 : decode cX11_emptyBins 132 = .ok (.invokevirtual 290, 3) := by decide +kernel
theorem dX11_emptyBins_135 : decode cX11_emptyBins 135 = .ok (.ireturn, 1) := by decide +kernel
theorem dX11_goTip_0 : decode cX11_goTip 0 = .ok (.aload_n 0, 1) := by decide +kernel
theorem dX11_goTip_1 : decode cX11_goTip 1 = .ok (.getfield 40, 3) := by decide +kernel
theorem dX11_goTip_4 : decode cX11_goTip 4 = .ok (.getfield 252, 3) := by decide +kernel
theorem dX11_goTip_7 : decode cX11_goTip 7 = .ok (.aload_n 0, 1) := by decide +kernel
theorem dX11_goTip_8 : decode cX11_goTip 8 = .ok (.getfield 19, 3) := by decide +kernel
theorem dX11_goTip_11 : decode cX11_goTip 11 = .ok (.iconst 5, 1) := by decide +kernel
theorem dX11_goTip_12 : decode cX11_goTip 12 = .ok (.invokevirtual 176, 3) := by decide +kernel
theorem dX11_goTip_15 : decode cX11_goTip 15 = .ok (.invokestatic 273, 3) := by decide +kernel
theorem dX11_goTip_18 : decode cX11_goTip 18 = .ok (.istore_n 1, 1) := by decide +kernel
theorem dX11_goTip_19 : decode cX11_goTip 19 = .ok (.aload_n 0, 1) := by decide +kernel
theorem dX11_goTip_20 : decode cX11_goTip 20 = .ok (.getfield 40, 3) := by decide +kernel
theorem dX11_goTip_23 : decode cX11_goTip 23 = .ok (.getfield 253, 3) := by decide +kernel
theorem dX11_goTip_26 : decode cX11_goTip 26 = .ok (.iload_n 1, 1) := by decide +kernel
theorem dX11_goTip_27 : decode cX11_goTip 27 = .ok (.iadd, 1) := by decide +kernel
theorem dX11_goTip_28 : decode cX11_goTip 28 = .ok (.bipush 60, 2) := by decide +kernel
theorem dX11_goTip_30 : decode cX11_goTip 30 = .ok (.idiv, 1) := by decide +kernel
theorem dX11_goTip_31 : decode cX11_goTip 31 = .ok (.aload_n 0, 1) := by decide +kernel
theorem dX11_goTip_32 : decode cX11_goTip 32 = .ok (.getfield 19, 3) := by decide +kernel
theorem dX11_goTip_35 : decode cX11_goTip 35 = .ok (.bipush 6, 2) := by decide +kernel
theorem dX11_goTip_37 : decode cX11_goTip 37 = .ok (.invokevirtual 176, 3) := by decide +kernel
theorem dX11_goTip_40 : decode cX11_goTip 40 = .ok (.if_icmp .le 6, 3) := by decide +kernel
theorem dX11_goTip_43 : decode cX11_goTip 43 = .ok (.bipush (-2), 2) := by decide +kernel
theorem dX11_goTip_45 : decode cX11_goTip 45 = .ok (.ireturn, 1) := by decide +kernel
theorem dX11_goTip_46 : decode cX11_goTip 46 = .ok (.aload_n 0, 1) := by decide +kernel
theorem dX11_goTip_47 : decode cX11_goTip 47 = .ok (.getfield 40, 3) := by decide +kernel
theorem dX11_goTip_50 : decode cX11_goTip 50 = .ok (.dup, 1) := by decide +kernel
theorem dX11_goTip_51 : decode cX11_goTip 51 = .ok (.getfield 253, 3) := by decide +kernel
theorem dX11_goTip_54 : decode cX11_goTip 54 = .ok (.iload_n 1, 1) := by decide +kernel
theorem dX11_goTip_55 : decode cX11_goTip 55 = .ok (.sipush 300, 3) := by decide +kernel
theorem dX11_goTip_58 : decode cX11_goTip 58 = .ok (.iadd, 1) := by decide +kernel
theorem dX11_goTip_59 : decode cX11_goTip 59 = .ok (.iadd, 1) := by decide +kernel
theorem dX11_goTip_60 : decode cX11_goTip 60 = .ok (.putfield 253, 3) := by decide +kernel
theorem dX11_goTip_63 : decode cX11_goTip 63 = .ok (.aload_n 0, 1) := by decide +kernel
theorem dX11_goTip_64 : decode cX11_goTip 64 = .ok (.getfield 40, 3) := by decide +kernel
theorem dX11_goTip_67 : decode cX11_goTip 67 = .ok (.aload_n 0, 1) := by decide +kernel
theorem dX11_goTip_68 : decode cX11_goTip 68 = .ok (.getfield 19, 3) := by decide +kernel
theorem dX11_goTip_71 : decode cX11_goTip 71 = .ok (.iconst 5, 1) := by decide +kernel
theorem dX11_goTip_72 : decode cX11_goTip 72 = .ok (.invokevirtual 176, 3) := by decide +kernel
theorem dX11_goTip_75 : decode cX11_goTip 75 = .ok (.putfield 252, 3) := by decide +kernel
theorem dX11_goTip_78 : decode cX11_goTip 78 = .ok (.aload_n 0, 1) := by decide +kernel
theorem dX11_goTip_79 : decode cX11_goTip 79 = .ok (.getfield 40, 3) := by decide +kernel
theorem dX11_goTip_82 : decode cX11_goTip 82 = .ok (.iconst 0, 1) := by decide +kernel
theorem dX11_goTip_83 : decode cX11_goTip 83 = .ok (.putfield 203, 3) := by decide +kernel
theorem dX11_goTip_86 : decode cX11_goTip 86 = .ok (.iload_n 1, 1) := by decide +kernel
theorem dX11_goTip_87 : decode cX11_goTip 87 = .ok (.sipush 300, 3) := by decide +kernel
theorem dX11_goTip_90 : decode cX11_goTip 90 = .ok (.iadd, 1) := by decide +kernel
theorem dX11_goTip_91 : decode cX11_goTip 91 = .ok (.ireturn, 1) := by decide +kernel
theorem dX11_waitFor_0 : decode cX11_waitFor 0 = .ok (.iload_n 1, 1) := by decide +kernel
theorem dX11_waitFor_1 : decode cX11_waitFor 1 = .ok (.ifCond .lt 10, 3) := by decide +kernel
theorem dX11_waitFor_4 : decode cX11_waitFor 4 = .ok (.iload_n 1, 1) := by decide +kernel
theorem dX11_waitFor_5 : decode cX11_waitFor 5 = .ok (.sipush 9999, 3) := by decide +kernel
theorem dX11_waitFor_8 : decode cX11_waitFor 8 = .ok (.if_icmp .le 5, 3) := by decide +kernel
theorem dX11_waitFor_11 : decode cX11_waitFor 11 = .ok (.iconst (-1), 1) := by decide +kernel
theorem dX11_waitFor_12 : decode cX11_waitFor 12 = .ok (.ireturn, 1) := by decide +kernel
theorem dX11_waitFor_13 : decode cX11_waitFor 13 = .ok (.aload_n 0, 1) := by decide +kernel
theorem dX11_waitFor_14 : decode cX11_waitFor 14 = .ok (.getfield 40, 3) := by decide +kernel
theorem dX11_waitFor_17 : decode cX11_waitFor 17 = .ok (.dup, 1) := by decide +kernel
theorem dX11_waitFor_18 : decode cX11_waitFor 18 = .ok (.getfield 253, 3) := by decide +kernel
theorem dX11_waitFor_21 : decode cX11_waitFor 21 = .ok (.iload_n 1, 1) := by decide +kernel
theorem dX11_waitFor_22 : decode cX11_waitFor 22 = .ok (.iadd, 1) := by decide +kernel
theorem dX11_waitFor_23 : decode cX11_waitFor 23 = .ok (.putfield 253, 3) := by decide +kernel
theorem dX11_waitFor_26 : decode cX11_waitFor 26 = .ok (.aload_n 0, 1) := by decide +kernel
theorem dX11_waitFor_27 : decode cX11_waitFor 27 = .ok (.getfield 40, 3) := by decide +kernel
theorem dX11_waitFor_30 : decode cX11_waitFor 30 = .ok (.getfield 253, 3) := by decide +kernel
theorem dX11_waitFor_33 : decode cX11_waitFor 33 = .ok (.ireturn, 1) := by decide +kernel
theorem dX11_act_0 : decode cX11_act 0 = .ok (.iload_n 1, 1) := by decide +kernel
theorem dX11_act_1 : decode cX11_act 1 = .ok (.sipush 10000, 3) := by decide +kernel
theorem dX11_act_4 : decode cX11_act 4 = .ok (.irem, 1) := by decide +kernel
theorem dX11_act_5 : decode cX11_act 5 = .ok (.istore_n 2, 1) := by decide +kernel
theorem dX11_act_6 : decode cX11_act 6 = .ok (.iload_n 1, 1) := by decide +kernel
theorem dX11_act_7 : decode cX11_act 7 = .ok (.sipush 10000, 3) := by decide +kernel
theorem dX11_act_10 : decode cX11_act 10 = .ok (.idiv, 1) := by decide +kernel
theorem dX11_act_11 : decode cX11_act 11 = .ok (.tableswitch 59 0 3 #[29, 35, 48, 53], 29) := by decide +kernel
theorem dX11_act_40 : decode cX11_act 40 = .ok (.aload_n 0, 1) := by decide +kernel
theorem dX11_act_41 : decode cX11_act 41 = .ok (.iload_n 2, 1) := by decide +kernel
theorem dX11_act_42 : decode cX11_act 42 = .ok (.invokevirtual 217, 3) := by decide +kernel
theorem dX11_act_45 : decode cX11_act 45 = .ok (.ireturn, 1) := by decide +kernel
theorem dX11_act_46 : decode cX11_act 46 = .ok (.aload_n 0, 1) := by decide +kernel
theorem dX11_act_47 : decode cX11_act 47 = .ok (.iload_n 2, 1) := by decide +kernel
theorem dX11_act_48 : decode cX11_act 48 = .ok (.bipush 10, 2) := by decide +kernel
theorem dX11_act_50 : decode cX11_act 50 = .ok (.idiv, 1) := by decide +kernel
theorem dX11_act_51 : decode cX11_act 51 = .ok (.iload_n 2, 1) := by decide +kernel
theorem dX11_act_52 : decode cX11_act 52 = .ok (.bipush 10, 2) := by decide +kernel
theorem dX11_act_54 : decode cX11_act 54 = .ok (.irem, 1) := by decide +kernel
theorem dX11_act_55 : decode cX11_act 55 = .ok (.invokevirtual 223, 3) := by decide +kernel
theorem dX11_act_58 : decode cX11_act 58 = .ok (.ireturn, 1) := by decide +kernel
theorem dX11_act_59 : decode cX11_act 59 = .ok (.aload_n 0, 1) := by decide +kernel
theorem dX11_act_60 : decode cX11_act 60 = .ok (.invokevirtual 245, 3) := by decide +kernel
theorem dX11_act_63 : decode cX11_act 63 = .ok (.ireturn, 1) := by decide +kernel
theorem dX11_act_64 : decode cX11_act 64 = .ok (.aload_n 0, 1) := by decide +kernel
theorem dX11_act_65 : decode cX11_act 65 = .ok (.iload_n 2, 1) := by decide +kernel
theorem dX11_act_66 : decode cX11_act 66 = .ok (.invokevirtual 249, 3) := by decide +kernel
theorem dX11_act_69 : decode cX11_act 69 = .ok (.ireturn, 1) := by decide +kernel
theorem dX11_act_70 : decode cX11_act 70 = .ok (.iconst (-1), 1) := by decide +kernel
theorem dX11_act_71 : decode cX11_act 71 = .ok (.ireturn, 1) := by decide +kernel
theorem dX11_readActs_0 : decode cX11_readActs 0 = .ok (.aload_n 0, 1) := by decide +kernel
theorem dX11_readActs_1 : decode cX11_readActs 1 = .ok (.getfield 12, 3) := by decide +kernel
theorem dX11_readActs_4 : decode cX11_readActs 4 = .ok (.bipush 60, 2) := by decide +kernel
theorem dX11_readActs_6 : decode cX11_readActs 6 = .ok (.invokevirtual 293, 3) := by decide +kernel
theorem dX11_readActs_9 : decode cX11_readActs 9 = .ok (.aload_n 0, 1) := by decide +kernel
theorem dX11_readActs_10 : decode cX11_readActs 10 = .ok (.getfield 12, 3) := by decide +kernel
theorem dX11_readActs_13 : decode cX11_readActs 13 = .ok (.invokevirtual 297, 3) := by decide +kernel
theorem dX11_readActs_16 : decode cX11_readActs 16 = .ok (.ifCond .eq 5, 3) := by decide +kernel
theorem dX11_readActs_19 : decode cX11_readActs 19 = .ok (.iconst 0, 1) := by decide +kernel
theorem dX11_readActs_20 : decode cX11_readActs 20 = .ok (.ireturn, 1) := by decide +kernel
theorem dX11_readActs_21 : decode cX11_readActs 21 = .ok (.iconst 0, 1) := by decide +kernel
theorem dX11_readActs_22 : decode cX11_readActs 22 = .ok (.istore_n 1, 1) := by decide +kernel
theorem dX11_readActs_23 : decode cX11_readActs 23 = .ok (.iload_n 1, 1) := by decide +kernel
theorem dX11_readActs_24 : decode cX11_readActs 24 = .ok (.aload_n 0, 1) := by decide +kernel
theorem dX11_readActs_25 : decode cX11_readActs 25 = .ok (.getfield 95, 3) := by decide +kernel
theorem dX11_readActs_28 : decode cX11_readActs 28 = .ok (.arraylength, 1) := by decide +kernel
theorem dX11_readActs_29 : decode cX11_readActs 29 = .ok (.if_icmp .ge 67, 3) := by decide +kernel
theorem dX11_readActs_32 : decode cX11_readActs 32 = .ok (.aload_n 0, 1) := by decide +kernel
theorem dX11_readActs_33 : decode cX11_readActs 33 = .ok (.invokevirtual 301, 3) := by decide +kernel
theorem dX11_readActs_36 : decode cX11_readActs 36 = .ok (.istore_n 2, 1) := by decide +kernel
theorem dX11_readActs_37 : decode cX11_readActs 37 = .ok (.iload_n 2, 1) := by decide +kernel
theorem dX11_readActs_38 : decode cX11_readActs 38 = .ok (.ifCond .ge 11, 3) := by decide +kernel
theorem dX11_readActs_41 : decode cX11_readActs 41 = .ok (.aload_n 0, 1) := by decide +kernel
theorem dX11_readActs_42 : decode cX11_readActs 42 = .ok (.getfield 12, 3) := by decide +kernel
theorem dX11_readActs_45 : decode cX11_readActs 45 = .ok (.invokevirtual 304, 3) := by decide +kernel
theorem dX11_readActs_48 : decode cX11_readActs 48 = .ok (.ireturn, 1) := by decide +kernel
theorem dX11_readActs_49 : decode cX11_readActs 49 = .ok (.aload_n 0, 1) := by decide +kernel
theorem dX11_readActs_50 : decode cX11_readActs 50 = .ok (.getfield 95, 3) := by decide +kernel
theorem dX11_readActs_53 : decode cX11_readActs 53 = .ok (.iload_n 1, 1) := by decide +kernel
theorem dX11_readActs_54 : decode cX11_readActs 54 = .ok (.iload_n 2, 1) := by decide +kernel
theorem dX11_readActs_55 : decode cX11_readActs 55 = .ok (.iastore, 1) := by decide +kernel
theorem dX11_readActs_56 : decode cX11_readActs 56 = .ok (.aload_n 0, 1) := by decide +kernel
theorem dX11_readActs_57 : decode cX11_readActs 57 = .ok (.getfield 12, 3) := by decide +kernel
theorem dX11_readActs_60 : decode cX11_readActs 60 = .ok (.invokevirtual 297, 3) := by decide +kernel
theorem dX11_readActs_63 : decode cX11_readActs 63 = .ok (.ifCond .eq 7, 3) := by decide +kernel
theorem dX11_readActs_66 : decode cX11_readActs 66 = .ok (.iload_n 1, 1) := by decide +kernel
theorem dX11_readActs_67 : decode cX11_readActs 67 = .ok (.iconst 1, 1) := by decide +kernel
theorem dX11_readActs_68 : decode cX11_readActs 68 = .ok (.iadd, 1) := by decide +kernel
theorem dX11_readActs_69 : decode cX11_readActs 69 = .ok (.ireturn, 1) := by decide +kernel
theorem dX11_readActs_70 : decode cX11_readActs 70 = .ok (.aload_n 0, 1) := by decide +kernel
theorem dX11_readActs_71 : decode cX11_readActs 71 = .ok (.getfield 12, 3) := by decide +kernel
theorem dX11_readActs_74 : decode cX11_readActs 74 = .ok (.bipush 59, 2) := by decide +kernel
theorem dX11_readActs_76 : decode cX11_readActs 76 = .ok (.invokevirtual 307, 3) := by decide +kernel
theorem dX11_readActs_79 : decode cX11_readActs 79 = .ok (.ifCond .ne 11, 3) := by decide +kernel
theorem dX11_readActs_82 : decode cX11_readActs 82 = .ok (.aload_n 0, 1) := by decide +kernel
theorem dX11_readActs_83 : decode cX11_readActs 83 = .ok (.getfield 12, 3) := by decide +kernel
theorem dX11_readActs_86 : decode cX11_readActs 86 = .ok (.invokevirtual 304, 3) := by decide +kernel
theorem dX11_readActs_89 : decode cX11_readActs 89 = .ok (.ireturn, 1) := by decide +kernel
theorem dX11_readActs_90 : decode cX11_readActs 90 = .ok (.iinc 1 1, 3) := by decide +kernel
theorem dX11_readActs_93 : decode cX11_readActs 93 = .ok (.goto (-70), 3) := by decide +kernel
theorem dX11_readActs_96 : decode cX11_readActs 96 = .ok (.aload_n 0, 1) := by decide +kernel
theorem dX11_readActs_97 : decode cX11_readActs 97 = .ok (.getfield 12, 3) := by decide +kernel
theorem dX11_readActs_100 : decode cX11_readActs 100 = .ok (.invokevirtual 304, 3) := by decide +kernel
theorem dX11_readActs_103 : decode cX11_readActs 103 = .ok (.ireturn, 1) := by decide +kernel
theorem dX11_readAct_0 : decode cX11_readAct 0 = .ok (.aload_n 0, 1) := by decide +kernel
theorem dX11_readAct_1 : decode cX11_readAct 1 = .ok (.getfield 12, 3) := by decide +kernel
theorem dX11_readAct_4 : decode cX11_readAct 4 = .ok (.bipush 116, 2) := by decide +kernel
theorem dX11_readAct_6 : decode cX11_readAct 6 = .ok (.invokevirtual 307, 3) := by decide +kernel
theorem dX11_readAct_9 : decode cX11_readAct 9 = .ok (.ifCond .eq 7, 3) := by decide +kernel
theorem dX11_readAct_12 : decode cX11_readAct 12 = .ok (.sipush 20000, 3) := by decide +kernel
theorem dX11_readAct_15 : decode cX11_readAct 15 = .ok (.ireturn, 1) := by decide +kernel
theorem dX11_readAct_16 : decode cX11_readAct 16 = .ok (.aload_n 0, 1) := by decide +kernel
theorem dX11_readAct_17 : decode cX11_readAct 17 = .ok (.getfield 12, 3) := by decide +kernel
theorem dX11_readAct_20 : decode cX11_readAct 20 = .ok (.bipush 103, 2) := by decide +kernel
theorem dX11_readAct_22 : decode cX11_readAct 22 = .ok (.invokevirtual 307, 3) := by decide +kernel
theorem dX11_readAct_25 : decode cX11_readAct 25 = .ok (.ifCond .eq 25, 3) := by decide +kernel
theorem dX11_readAct_28 : decode cX11_readAct 28 = .ok (.aload_n 0, 1) := by decide +kernel
theorem dX11_readAct_29 : decode cX11_readAct 29 = .ok (.getfield 12, 3) := by decide +kernel
theorem dX11_readAct_32 : decode cX11_readAct 32 = .ok (.bipush 10, 2) := by decide +kernel
theorem dX11_readAct_34 : decode cX11_readAct 34 = .ok (.invokevirtual 311, 3) := by decide +kernel
theorem dX11_readAct_37 : decode cX11_readAct 37 = .ok (.istore_n 1, 1) := by decide +kernel
theorem dX11_readAct_38 : decode cX11_readAct 38 = .ok (.iload_n 1, 1) := by decide +kernel
theorem dX11_readAct_39 : decode cX11_readAct 39 = .ok (.ifCond .ge 7, 3) := by decide +kernel
theorem dX11_readAct_42 : decode cX11_readAct 42 = .ok (.iconst (-1), 1) := by decide +kernel
theorem dX11_readAct_43 : decode cX11_readAct 43 = .ok (.goto 6, 3) := by decide +kernel
theorem dX11_readAct_46 : decode cX11_readAct 46 = .ok (.iconst 0, 1) := by decide +kernel
theorem dX11_readAct_47 : decode cX11_readAct 47 = .ok (.iload_n 1, 1) := by decide +kernel
theorem dX11_readAct_48 : decode cX11_readAct 48 = .ok (.iadd, 1) := by decide +kernel
theorem dX11_readAct_49 : decode cX11_readAct 49 = .ok (.ireturn, 1) := by decide +kernel
theorem dX11_readAct_50 : decode cX11_readAct 50 = .ok (.aload_n 0, 1) := by decide +kernel
theorem dX11_readAct_51 : decode cX11_readAct 51 = .ok (.getfield 12, 3) := by decide +kernel
theorem dX11_readAct_54 : decode cX11_readAct 54 = .ok (.bipush 112, 2) := by decide +kernel
theorem dX11_readAct_56 : decode cX11_readAct 56 = .ok (.invokevirtual 307, 3) := by decide +kernel
theorem dX11_readAct_59 : decode cX11_readAct 59 = .ok (.ifCond .eq 26, 3) := by decide +kernel
theorem dX11_readAct_62 : decode cX11_readAct 62 = .ok (.aload_n 0, 1) := by decide +kernel
theorem dX11_readAct_63 : decode cX11_readAct 63 = .ok (.getfield 12, 3) := by decide +kernel
theorem dX11_readAct_66 : decode cX11_readAct 66 = .ok (.iconst 4, 1) := by decide +kernel
theorem dX11_readAct_67 : decode cX11_readAct 67 = .ok (.invokevirtual 314, 3) := by decide +kernel
theorem dX11_readAct_70 : decode cX11_readAct 70 = .ok (.istore_n 1, 1) := by decide +kernel
theorem dX11_readAct_71 : decode cX11_readAct 71 = .ok (.iload_n 1, 1) := by decide +kernel
theorem dX11_readAct_72 : decode cX11_readAct 72 = .ok (.ifCond .ge 7, 3) := by decide +kernel
theorem dX11_readAct_75 : decode cX11_readAct 75 = .ok (.iconst (-1), 1) := by decide +kernel
theorem dX11_readAct_76 : decode cX11_readAct 76 = .ok (.goto 8, 3) := by decide +kernel
theorem dX11_readAct_79 : decode cX11_readAct 79 = .ok (.sipush 30000, 3) := by decide +kernel
theorem dX11_readAct_82 : decode cX11_readAct 82 = .ok (.iload_n 1, 1) := by decide +kernel
theorem dX11_readAct_83 : decode cX11_readAct 83 = .ok (.iadd, 1) := by decide +kernel
theorem dX11_readAct_84 : decode cX11_readAct 84 = .ok (.ireturn, 1) := by decide +kernel
theorem dX11_readAct_85 : decode cX11_readAct 85 = .ok (.aload_n 0, 1) := by decide +kernel
theorem dX11_readAct_86 : decode cX11_readAct 86 = .ok (.getfield 12, 3) := by decide +kernel
theorem dX11_readAct_89 : decode cX11_readAct 89 = .ok (.bipush 101, 2) := by decide +kernel
theorem dX11_readAct_91 : decode cX11_readAct 91 = .ok (.invokevirtual 307, 3) := by decide +kernel
theorem dX11_readAct_94 : decode cX11_readAct 94 = .ok (.ifCond .ne 5, 3) := by decide +kernel
theorem dX11_readAct_97 : decode cX11_readAct 97 = .ok (.iconst (-1), 1) := by decide +kernel
theorem dX11_readAct_98 : decode cX11_readAct 98 = .ok (.ireturn, 1) := by decide +kernel
theorem dX11_readAct_99 : decode cX11_readAct 99 = .ok (.aload_n 0, 1) := by decide +kernel
theorem dX11_readAct_100 : decode cX11_readAct 100 = .ok (.getfield 12, 3) := by decide +kernel
theorem dX11_readAct_103 : decode cX11_readAct 103 = .ok (.bipush 10, 2) := by decide +kernel
theorem dX11_readAct_105 : decode cX11_readAct 105 = .ok (.invokevirtual 311, 3) := by decide +kernel
theorem dX11_readAct_108 : decode cX11_readAct 108 = .ok (.istore_n 1, 1) := by decide +kernel
theorem dX11_readAct_109 : decode cX11_readAct 109 = .ok (.iload_n 1, 1) := by decide +kernel
theorem dX11_readAct_110 : decode cX11_readAct 110 = .ok (.ifCond .ge 7, 3) := by decide +kernel
theorem dX11_readAct_113 : decode cX11_readAct 113 = .ok (.iconst (-1), 1) := by decide +kernel
theorem dX11_readAct_114 : decode cX11_readAct 114 = .ok (.goto 11, 3) := by decide +kernel
theorem dX11_readAct_117 : decode cX11_readAct 117 = .ok (.aload_n 0, 1) := by decide +kernel
theorem dX11_readAct_118 : decode cX11_readAct 118 = .ok (.getfield 12, 3) := by decide +kernel
theorem dX11_readAct_121 : decode cX11_readAct 121 = .ok (.iconst 3, 1) := by decide +kernel
theorem dX11_readAct_122 : decode cX11_readAct 122 = .ok (.invokevirtual 311, 3) := by decide +kernel
theorem dX11_readAct_125 : decode cX11_readAct 125 = .ok (.istore_n 2, 1) := by decide +kernel
theorem dX11_readAct_126 : decode cX11_readAct 126 = .ok (.iload_n 2, 1) := by decide +kernel
theorem dX11_readAct_127 : decode cX11_readAct 127 = .ok (.ifCond .ge 7, 3) := by decide +kernel
theorem dX11_readAct_130 : decode cX11_readAct 130 = .ok (.iconst (-1), 1) := by decide +kernel
theorem dX11_readAct_131 : decode cX11_readAct 131 = .ok (.goto 13, 3) := by decide +kernel
theorem dX11_readAct_134 : decode cX11_readAct 134 = .ok (.sipush 10000, 3) := by decide +kernel
theorem dX11_readAct_137 : decode cX11_readAct 137 = .ok (.iload_n 1, 1) := by decide +kernel
theorem dX11_readAct_138 : decode cX11_readAct 138 = .ok (.bipush 10, 2) := by decide +kernel
theorem dX11_readAct_140 : decode cX11_readAct 140 = .ok (.imul, 1) := by decide +kernel
theorem dX11_readAct_141 : decode cX11_readAct 141 = .ok (.iadd, 1) := by decide +kernel
theorem dX11_readAct_142 : decode cX11_readAct 142 = .ok (.iload_n 2, 1) := by decide +kernel
theorem dX11_readAct_143 : decode cX11_readAct 143 = .ok (.iadd, 1) := by decide +kernel
theorem dX11_readAct_144 : decode cX11_readAct 144 = .ok (.ireturn, 1) := by decide +kernel
theorem dX11_takes_0 : decode cX11_takes 0 = .ok (.aload_n 0, 1) := by decide +kernel
theorem dX11_takes_1 : decode cX11_takes 1 = .ok (.getfield 33, 3) := by decide +kernel
theorem dX11_takes_4 : decode cX11_takes 4 = .ok (.iload_n 1, 1) := by decide +kernel
theorem dX11_takes_5 : decode cX11_takes 5 = .ok (.invokevirtual 133, 3) := by decide +kernel
theorem dX11_takes_8 : decode cX11_takes 8 = .ok (.astore_n 3, 1) := by decide +kernel
theorem dX11_takes_9 : decode cX11_takes 9 = .ok (.aload_n 3, 1) := by decide +kernel
theorem dX11_takes_10 : decode cX11_takes 10 = .ok (.ifnull 12, 3) := by decide +kernel
theorem dX11_takes_13 : decode cX11_takes 13 = .ok (.iload_n 2, 1) := by decide +kernel
theorem dX11_takes_14 : decode cX11_takes 14 = .ok (.ifCond .lt 8, 3) := by decide +kernel
theorem dX11_takes_17 : decode cX11_takes 17 = .ok (.iload_n 2, 1) := by decide +kernel
theorem dX11_takes_18 : decode cX11_takes 18 = .ok (.iconst 3, 1) := by decide +kernel
theorem dX11_takes_19 : decode cX11_takes 19 = .ok (.if_icmp .lt 5, 3) := by decide +kernel
theorem dX11_takes_22 : decode cX11_takes 22 = .ok (.iconst (-1), 1) := by decide +kernel
theorem dX11_takes_23 : decode cX11_takes 23 = .ok (.ireturn, 1) := by decide +kernel
theorem dX11_takes_24 : decode cX11_takes 24 = .ok (.aload_n 0, 1) := by decide +kernel
theorem dX11_takes_25 : decode cX11_takes 25 = .ok (.getfield 65, 3) := by decide +kernel
theorem dX11_takes_28 : decode cX11_takes 28 = .ok (.aload_n 0, 1) := by decide +kernel
theorem dX11_takes_29 : decode cX11_takes 29 = .ok (.getfield 19, 3) := by decide +kernel
theorem dX11_takes_32 : decode cX11_takes 32 = .ok (.iconst 1, 1) := by decide +kernel
theorem dX11_takes_33 : decode cX11_takes 33 = .ok (.invokevirtual 176, 3) := by decide +kernel
theorem dX11_takes_36 : decode cX11_takes 36 = .ok (.aload_n 3, 1) := by decide +kernel
theorem dX11_takes_37 : decode cX11_takes 37 = .ok (.getfield 152, 3) := by decide +kernel
theorem dX11_takes_40 : decode cX11_takes 40 = .ok (.invokevirtual 197, 3) := by decide +kernel
theorem dX11_takes_43 : decode cX11_takes 43 = .ok (.aload_n 0, 1) := by decide +kernel
theorem dX11_takes_44 : decode cX11_takes 44 = .ok (.getfield 65, 3) := by decide +kernel
theorem dX11_takes_47 : decode cX11_takes 47 = .ok (.aload_n 3, 1) := by decide +kernel
theorem dX11_takes_48 : decode cX11_takes 48 = .ok (.iload_n 2, 1) := by decide +kernel
theorem dX11_takes_49 : decode cX11_takes 49 = .ok (.aload_n 0, 1) := by decide +kernel
theorem dX11_takes_50 : decode cX11_takes 50 = .ok (.getfield 40, 3) := by decide +kernel
theorem dX11_takes_53 : decode cX11_takes 53 = .ok (.iload_n 1, 1) := by decide +kernel
theorem dX11_takes_54 : decode cX11_takes 54 = .ok (.invokevirtual 168, 3) := by decide +kernel
theorem dX11_takes_57 : decode cX11_takes 57 = .ok (.invokevirtual 279, 3) := by decide +kernel
theorem dX11_takes_60 : decode cX11_takes 60 = .ok (.aload_n 0, 1) := by decide +kernel
theorem dX11_takes_61 : decode cX11_takes 61 = .ok (.getfield 65, 3) := by decide +kernel
theorem dX11_takes_64 : decode cX11_takes 64 = .ok (.iconst 0, 1) := by decide +kernel
theorem dX11_takes_65 : decode cX11_takes 65 = .ok (.ldc_w 317, 3) := by decide +kernel
theorem dX11_takes_68 : decode cX11_takes 68 = .ok (.invokevirtual 283, 3) := by decide +kernel
theorem dX11_takes_71 : decode cX11_takes 71 = .ok (.aload_n 0, 1) := by decide +kernel
theorem dX11_takes_72 : decode cX11_takes 72 = .ok (.aload_n 0, 1) := by decide +kernel
theorem dX11_takes_73 : decode cX11_takes 73 = .ok (.getfield 65, 3) := by decide +kernel
theorem dX11_takes_76 : decode cX11_takes 76 = .ok (.getfield 318, 3) := by decide +kernel
theorem dX11_takes_79 : decode cX11_takes 79 = .ok (.i2l, 1) := by decide +kernel
theorem dX11_takes_80 : decode cX11_takes 80 = .ok (.invokevirtual 229, 3) := by decide +kernel
theorem dX11_takes_83 : decode cX11_takes 83 = .ok (.aload_n 0, 1) := by decide +kernel
theorem dX11_takes_84 : decode cX11_takes 84 = .ok (.aload_n 0, 1) := by decide +kernel
theorem dX11_takes_85 : decode cX11_takes 85 = .ok (.getfield 65, 3) := by decide +kernel
theorem dX11_takes_88 : decode cX11_takes 88 = .ok (.getfield 321, 3) := by decide +kernel
theorem dX11_takes_91 : decode cX11_takes 91 = .ok (.i2l, 1) := by decide +kernel
theorem dX11_takes_92 : decode cX11_takes 92 = .ok (.invokevirtual 236, 3) := by decide +kernel
theorem dX11_takes_95 : decode cX11_takes 95 = .ok (.aload_n 0, 1) := by decide +kernel
theorem dX11_takes_96 : decode cX11_takes 96 = .ok (.getfield 65, 3) := by decide +kernel
theorem dX11_takes_99 : decode cX11_takes 99 = .ok (.invokevirtual 290, 3) := by decide +kernel
theorem dX11_takes_102 : decode cX11_takes 102 = .ok (.ireturn, 1) := by decide +kernel
theorem dX11_best_0 : decode cX11_best 0 = .ok (.aload_n 0, 1) := by decide +kernel
theorem dX11_best_1 : decode cX11_best 1 = .ok (.getfield 33, 3) := by decide +kernel
theorem dX11_best_4 : decode cX11_best 4 = .ok (.iload_n 1, 1) := by decide +kernel
theorem dX11_best_5 : decode cX11_best 5 = .ok (.invokevirtual 133, 3) := by decide +kernel
theorem dX11_best_8 : decode cX11_best 8 = .ok (.astore_n 2, 1) := by decide +kernel
theorem dX11_best_9 : decode cX11_best 9 = .ok (.aload_n 2, 1) := by decide +kernel
theorem dX11_best_10 : decode cX11_best 10 = .ok (.ifnonnull 5, 3) := by decide +kernel
theorem dX11_best_13 : decode cX11_best 13 = .ok (.iconst (-1), 1) := by decide +kernel
theorem dX11_best_14 : decode cX11_best 14 = .ok (.ireturn, 1) := by decide +kernel
theorem dX11_best_15 : decode cX11_best 15 = .ok (.aload_n 0, 1) := by decide +kernel
theorem dX11_best_16 : decode cX11_best 16 = .ok (.getfield 65, 3) := by decide +kernel
theorem dX11_best_19 : decode cX11_best 19 = .ok (.aload_n 0, 1) := by decide +kernel
theorem dX11_best_20 : decode cX11_best 20 = .ok (.getfield 19, 3) := by decide +kernel
theorem dX11_best_23 : decode cX11_best 23 = .ok (.iconst 1, 1) := by decide +kernel
theorem dX11_best_24 : decode cX11_best 24 = .ok (.invokevirtual 176, 3) := by decide +kernel
theorem dX11_best_27 : decode cX11_best 27 = .ok (.aload_n 2, 1) := by decide +kernel
theorem dX11_best_28 : decode cX11_best 28 = .ok (.getfield 152, 3) := by decide +kernel
theorem dX11_best_31 : decode cX11_best 31 = .ok (.invokevirtual 197, 3) := by decide +kernel
theorem dX11_best_34 : decode cX11_best 34 = .ok (.aload_n 0, 1) := by decide +kernel
theorem dX11_best_35 : decode cX11_best 35 = .ok (.getfield 65, 3) := by decide +kernel
theorem dX11_best_38 : decode cX11_best 38 = .ok (.aload_n 2, 1) := by decide +kernel
theorem dX11_best_39 : decode cX11_best 39 = .ok (.aload_n 0, 1) := by decide +kernel
theorem dX11_best_40 : decode cX11_best 40 = .ok (.getfield 40, 3) := by decide +kernel
theorem dX11_best_43 : decode cX11_best 43 = .ok (.iload_n 1, 1) := by decide +kernel
theorem dX11_best_44 : decode cX11_best 44 = .ok (.invokevirtual 168, 3) := by decide +kernel
theorem dX11_best_47 : decode cX11_best 47 = .ok (.invokevirtual 324, 3) := by decide +kernel
theorem dX11_best_50 : decode cX11_best 50 = .ok (.istore_n 3, 1) := by decide +kernel
theorem dX11_best_51 : decode cX11_best 51 = .ok (.aload_n 0, 1) := by decide +kernel
theorem dX11_best_52 : decode cX11_best 52 = .ok (.aload_n 0, 1) := by decide +kernel
theorem dX11_best_53 : decode cX11_best 53 = .ok (.getfield 65, 3) := by decide +kernel
theorem dX11_best_56 : decode cX11_best 56 = .ok (.iconst 0, 1) := by decide +kernel
theorem dX11_best_57 : decode cX11_best 57 = .ok (.invokevirtual 328, 3) := by decide +kernel
theorem dX11_best_60 : decode cX11_best 60 = .ok (.i2l, 1) := by decide +kernel
theorem dX11_best_61 : decode cX11_best 61 = .ok (.invokevirtual 229, 3) := by decide +kernel
theorem dX11_best_64 : decode cX11_best 64 = .ok (.aload_n 0, 1) := by decide +kernel
theorem dX11_best_65 : decode cX11_best 65 = .ok (.aload_n 0, 1) := by decide +kernel
theorem dX11_best_66 : decode cX11_best 66 = .ok (.getfield 65, 3) := by decide +kernel
theorem dX11_best_69 : decode cX11_best 69 = .ok (.iconst 1, 1) := by decide +kernel
theorem dX11_best_70 : decode cX11_best 70 = .ok (.invokevirtual 328, 3) := by decide +kernel
theorem dX11_best_73 : decode cX11_best 73 = .ok (.i2l, 1) := by decide +kernel
theorem dX11_best_74 : decode cX11_best 74 = .ok (.invokevirtual 236, 3) := by decide +kernel
theorem dX11_best_77 : decode cX11_best 77 = .ok (.aload_n 0, 1) := by decide +kernel
theorem dX11_best_78 : decode cX11_best 78 = .ok (.aload_n 0, 1) := by decide +kernel
theorem dX11_best_79 : decode cX11_best 79 = .ok (.getfield 65, 3) := by decide +kernel
theorem dX11_best_82 : decode cX11_best 82 = .ok (.iconst 2, 1) := by decide +kernel
theorem dX11_best_83 : decode cX11_best 83 = .ok (.invokevirtual 328, 3) := by decide +kernel
theorem dX11_best_86 : decode cX11_best 86 = .ok (.i2l, 1) := by decide +kernel
theorem dX11_best_87 : decode cX11_best 87 = .ok (.invokevirtual 236, 3) := by decide +kernel
theorem dX11_best_90 : decode cX11_best 90 = .ok (.iload_n 3, 1) := by decide +kernel
theorem dX11_best_91 : decode cX11_best 91 = .ok (.ireturn, 1) := by decide +kernel
theorem dX11_less_0 : decode cX11_less 0 = .ok (.aload_n 0, 1) := by decide +kernel
theorem dX11_less_1 : decode cX11_less 1 = .ok (.getfield 33, 3) := by decide +kernel
theorem dX11_less_4 : decode cX11_less 4 = .ok (.iload_n 1, 1) := by decide +kernel
theorem dX11_less_5 : decode cX11_less 5 = .ok (.invokevirtual 133, 3) := by decide +kernel
theorem dX11_less_8 : decode cX11_less 8 = .ok (.astore_n 2, 1) := by decide +kernel
theorem dX11_less_9 : decode cX11_less 9 = .ok (.aload_n 2, 1) := by decide +kernel
theorem dX11_less_10 : decode cX11_less 10 = .ok (.ifnonnull 5, 3) := by decide +kernel
theorem dX11_less_13 : decode cX11_less 13 = .ok (.iconst (-1), 1) := by decide +kernel
theorem dX11_less_14 : decode cX11_less 14 = .ok (.ireturn, 1) := by decide +kernel
theorem dX11_less_15 : decode cX11_less 15 = .ok (.aload_n 0, 1) := by decide +kernel
theorem dX11_less_16 : decode cX11_less 16 = .ok (.getfield 19, 3) := by decide +kernel
theorem dX11_less_19 : decode cX11_less 19 = .ok (.iconst 1, 1) := by decide +kernel
theorem dX11_less_20 : decode cX11_less 20 = .ok (.invokevirtual 176, 3) := by decide +kernel
theorem dX11_less_23 : decode cX11_less 23 = .ok (.istore_n 3, 1) := by decide +kernel
theorem dX11_less_24 : decode cX11_less 24 = .ok (.iload_n 3, 1) := by decide +kernel
theorem dX11_less_25 : decode cX11_less 25 = .ok (.iconst 1, 1) := by decide +kernel
theorem dX11_less_26 : decode cX11_less 26 = .ok (.if_icmp .gt 6, 3) := by decide +kernel
theorem dX11_less_29 : decode cX11_less 29 = .ok (.bipush (-2), 2) := by decide +kernel
theorem dX11_less_31 : decode cX11_less 31 = .ok (.ireturn, 1) := by decide +kernel
theorem dX11_less_32 : decode cX11_less 32 = .ok (.aload_n 0, 1) := by decide +kernel
theorem dX11_less_33 : decode cX11_less 33 = .ok (.aload_n 2, 1) := by decide +kernel
theorem dX11_less_34 : decode cX11_less 34 = .ok (.iload_n 3, 1) := by decide +kernel
theorem dX11_less_35 : decode cX11_less 35 = .ok (.aload_n 2, 1) := by decide +kernel
theorem dX11_less_36 : decode cX11_less 36 = .ok (.getfield 152, 3) := by decide +kernel
theorem dX11_less_39 : decode cX11_less 39 = .ok (.invokevirtual 331, 3) := by decide +kernel
theorem dX11_less_42 : decode cX11_less 42 = .ok (.istore 4, 2) := by decide +kernel
theorem dX11_less_44 : decode cX11_less 44 = .ok (.aload_n 0, 1) := by decide +kernel
theorem dX11_less_45 : decode cX11_less 45 = .ok (.aload_n 2, 1) := by decide +kernel
theorem dX11_less_46 : decode cX11_less 46 = .ok (.iload_n 3, 1) := by decide +kernel
theorem dX11_less_47 : decode cX11_less 47 = .ok (.iconst 1, 1) := by decide +kernel
theorem dX11_less_48 : decode cX11_less 48 = .ok (.isub, 1) := by decide +kernel
theorem dX11_less_49 : decode cX11_less 49 = .ok (.aload_n 2, 1) := by decide +kernel
theorem dX11_less_50 : decode cX11_less 50 = .ok (.getfield 152, 3) := by decide +kernel
theorem dX11_less_53 : decode cX11_less 53 = .ok (.invokevirtual 331, 3) := by decide +kernel
theorem dX11_less_56 : decode cX11_less 56 = .ok (.istore 5, 2) := by decide +kernel
theorem dX11_less_58 : decode cX11_less 58 = .ok (.aload_n 0, 1) := by decide +kernel
theorem dX11_less_59 : decode cX11_less 59 = .ok (.aload_n 0, 1) := by decide +kernel
theorem dX11_less_60 : decode cX11_less 60 = .ok (.getfield 65, 3) := by decide +kernel
theorem dX11_less_63 : decode cX11_less 63 = .ok (.getfield 334, 3) := by decide +kernel
theorem dX11_less_66 : decode cX11_less 66 = .ok (.i2l, 1) := by decide +kernel
theorem dX11_less_67 : decode cX11_less 67 = .ok (.invokevirtual 229, 3) := by decide +kernel
theorem dX11_less_70 : decode cX11_less 70 = .ok (.iload 5, 2) := by decide +kernel
theorem dX11_less_72 : decode cX11_less 72 = .ok (.iload 4, 2) := by decide +kernel
theorem dX11_less_74 : decode cX11_less 74 = .ok (.isub, 1) := by decide +kernel
theorem dX11_less_75 : decode cX11_less 75 = .ok (.ireturn, 1) := by decide +kernel
theorem dX11_line_0 : decode cX11_line 0 = .ok (.aload_n 0, 1) := by decide +kernel
theorem dX11_line_1 : decode cX11_line 1 = .ok (.getfield 33, 3) := by decide +kernel
theorem dX11_line_4 : decode cX11_line 4 = .ok (.iload_n 1, 1) := by decide +kernel
theorem dX11_line_5 : decode cX11_line 5 = .ok (.invokevirtual 133, 3) := by decide +kernel
theorem dX11_line_8 : decode cX11_line 8 = .ok (.astore_n 2, 1) := by decide +kernel
theorem dX11_line_9 : decode cX11_line 9 = .ok (.aload_n 2, 1) := by decide +kernel
theorem dX11_line_10 : decode cX11_line 10 = .ok (.ifnonnull 5, 3) := by decide +kernel
theorem dX11_line_13 : decode cX11_line 13 = .ok (.iconst (-1), 1) := by decide +kernel
theorem dX11_line_14 : decode cX11_line 14 = .ok (.ireturn, 1) := by decide +kernel
theorem dX11_line_15 : decode cX11_line 15 = .ok (.aload_n 0, 1) := by decide +kernel
theorem dX11_line_16 : decode cX11_line 16 = .ok (.getfield 65, 3) := by decide +kernel
theorem dX11_line_19 : decode cX11_line 19 = .ok (.aload_n 0, 1) := by decide +kernel
theorem dX11_line_20 : decode cX11_line 20 = .ok (.getfield 19, 3) := by decide +kernel
theorem dX11_line_23 : decode cX11_line 23 = .ok (.iconst 1, 1) := by decide +kernel
theorem dX11_line_24 : decode cX11_line 24 = .ok (.invokevirtual 176, 3) := by decide +kernel
theorem dX11_line_27 : decode cX11_line 27 = .ok (.aload_n 2, 1) := by decide +kernel
theorem dX11_line_28 : decode cX11_line 28 = .ok (.getfield 152, 3) := by decide +kernel
theorem dX11_line_31 : decode cX11_line 31 = .ok (.invokevirtual 197, 3) := by decide +kernel
theorem dX11_line_34 : decode cX11_line 34 = .ok (.iconst 0, 1) := by decide +kernel
theorem dX11_line_35 : decode cX11_line 35 = .ok (.istore_n 3, 1) := by decide +kernel
theorem dX11_line_36 : decode cX11_line 36 = .ok (.iconst 0, 1) := by decide +kernel
theorem dX11_line_37 : decode cX11_line 37 = .ok (.istore 4, 2) := by decide +kernel
theorem dX11_line_39 : decode cX11_line 39 = .ok (.iconst 0, 1) := by decide +kernel
theorem dX11_line_40 : decode cX11_line 40 = .ok (.istore 5, 2) := by decide +kernel
theorem dX11_line_42 : decode cX11_line 42 = .ok (.iload 5, 2) := by decide +kernel
theorem dX11_line_44 : decode cX11_line 44 = .ok (.iconst 2, 1) := by decide +kernel
theorem dX11_line_45 : decode cX11_line 45 = .ok (.aload_n 2, 1) := by decide +kernel
theorem dX11_line_46 : decode cX11_line 46 = .ok (.getfield 149, 3) := by decide +kernel
theorem dX11_line_49 : decode cX11_line 49 = .ok (.imul, 1) := by decide +kernel
theorem dX11_line_50 : decode cX11_line 50 = .ok (.if_icmp .ge 116, 3) := by decide +kernel
theorem dX11_line_53 : decode cX11_line 53 = .ok (.iconst 1, 1) := by decide +kernel
theorem dX11_line_54 : decode cX11_line 54 = .ok (.iload 5, 2) := by decide +kernel
theorem dX11_line_56 : decode cX11_line 56 = .ok (.iconst 2, 1) := by decide +kernel
theorem dX11_line_57 : decode cX11_line 57 = .ok (.irem, 1) := by decide +kernel
theorem dX11_line_58 : decode cX11_line 58 = .ok (.bipush 8, 2) := by decide +kernel
theorem dX11_line_60 : decode cX11_line 60 = .ok (.imul, 1) := by decide +kernel
theorem dX11_line_61 : decode cX11_line 61 = .ok (.iload 5, 2) := by decide +kernel
theorem dX11_line_63 : decode cX11_line 63 = .ok (.iconst 2, 1) := by decide +kernel
theorem dX11_line_64 : decode cX11_line 64 = .ok (.idiv, 1) := by decide +kernel
theorem dX11_line_65 : decode cX11_line 65 = .ok (.iadd, 1) := by decide +kernel
theorem dX11_line_66 : decode cX11_line 66 = .ok (.ishl, 1) := by decide +kernel
theorem dX11_line_67 : decode cX11_line 67 = .ok (.istore 6, 2) := by decide +kernel
theorem dX11_line_69 : decode cX11_line 69 = .ok (.aload_n 0, 1) := by decide +kernel
theorem dX11_line_70 : decode cX11_line 70 = .ok (.getfield 40, 3) := by decide +kernel
theorem dX11_line_73 : decode cX11_line 73 = .ok (.iload_n 1, 1) := by decide +kernel
theorem dX11_line_74 : decode cX11_line 74 = .ok (.invokevirtual 168, 3) := by decide +kernel
theorem dX11_line_77 : decode cX11_line 77 = .ok (.iload 6, 2) := by decide +kernel
theorem dX11_line_79 : decode cX11_line 79 = .ok (.iand, 1) := by decide +kernel
theorem dX11_line_80 : decode cX11_line 80 = .ok (.ifCond .eq 80, 3) := by decide +kernel
theorem dX11_line_83 : decode cX11_line 83 = .ok (.iload 4, 2) := by decide +kernel
theorem dX11_line_85 : decode cX11_line 85 = .ok (.iload 6, 2) := by decide +kernel
theorem dX11_line_87 : decode cX11_line 87 = .ok (.ior, 1) := by decide +kernel
theorem dX11_line_88 : decode cX11_line 88 = .ok (.istore 4, 2) := by decide +kernel
theorem dX11_line_90 : decode cX11_line 90 = .ok (.aload_n 0, 1) := by decide +kernel
theorem dX11_line_91 : decode cX11_line 91 = .ok (.getfield 65, 3) := by decide +kernel
theorem dX11_line_94 : decode cX11_line 94 = .ok (.aload_n 2, 1) := by decide +kernel
theorem dX11_line_95 : decode cX11_line 95 = .ok (.iload 4, 2) := by decide +kernel
theorem dX11_line_97 : decode cX11_line 97 = .ok (.invokevirtual 324, 3) := by decide +kernel
theorem dX11_line_100 : decode cX11_line 100 = .ok (.pop, 1) := by decide +kernel
theorem dX11_line_101 : decode cX11_line 101 = .ok (.aload_n 0, 1) := by decide +kernel
theorem dX11_line_102 : decode cX11_line 102 = .ok (.getfield 65, 3) := by decide +kernel
theorem dX11_line_105 : decode cX11_line 105 = .ok (.iconst 0, 1) := by decide +kernel
theorem dX11_line_106 : decode cX11_line 106 = .ok (.invokevirtual 328, 3) := by decide +kernel
theorem dX11_line_109 : decode cX11_line 109 = .ok (.aload_n 0, 1) := by decide +kernel
theorem dX11_line_110 : decode cX11_line 110 = .ok (.getfield 65, 3) := by decide +kernel
theorem dX11_line_113 : decode cX11_line 113 = .ok (.iconst 1, 1) := by decide +kernel
theorem dX11_line_114 : decode cX11_line 114 = .ok (.invokevirtual 328, 3) := by decide +kernel
theorem dX11_line_117 : decode cX11_line 117 = .ok (.invokestatic 337, 3) := by decide +kernel
theorem dX11_line_120 : decode cX11_line 120 = .ok (.istore 7, 2) := by decide +kernel
theorem dX11_line_122 : decode cX11_line 122 = .ok (.aload_n 0, 1) := by decide +kernel
theorem dX11_line_123 : decode cX11_line 123 = .ok (.getfield 65, 3) := by decide +kernel
theorem dX11_line_126 : decode cX11_line 126 = .ok (.iconst 2, 1) := by decide +kernel
theorem dX11_line_127 : decode cX11_line 127 = .ok (.invokevirtual 328, 3) := by decide +kernel
theorem dX11_line_130 : decode cX11_line 130 = .ok (.iload 7, 2) := by decide +kernel
theorem dX11_line_132 : decode cX11_line 132 = .ok (.if_icmp .le 25, 3) := by decide +kernel
theorem dX11_line_135 : decode cX11_line 135 = .ok (.aload_n 0, 1) := by decide +kernel
theorem dX11_line_136 : decode cX11_line 136 = .ok (.iload 7, 2) := by decide +kernel
theorem dX11_line_138 : decode cX11_line 138 = .ok (.i2l, 1) := by decide +kernel
theorem dX11_line_139 : decode cX11_line 139 = .ok (.invokevirtual 229, 3) := by decide +kernel
theorem dX11_line_142 : decode cX11_line 142 = .ok (.aload_n 0, 1) := by decide +kernel
theorem dX11_line_143 : decode cX11_line 143 = .ok (.aload_n 0, 1) := by decide +kernel
theorem dX11_line_144 : decode cX11_line 144 = .ok (.getfield 65, 3) := by decide +kernel
theorem dX11_line_147 : decode cX11_line 147 = .ok (.iconst 2, 1) := by decide +kernel
theorem dX11_line_148 : decode cX11_line 148 = .ok (.invokevirtual 328, 3) := by decide +kernel
theorem dX11_line_151 : decode cX11_line 151 = .ok (.i2l, 1) := by decide +kernel
theorem dX11_line_152 : decode cX11_line 152 = .ok (.invokevirtual 236, 3) := by decide +kernel
theorem dX11_line_155 : decode cX11_line 155 = .ok (.iload_n 3, 1) := by decide +kernel
theorem dX11_line_156 : decode cX11_line 156 = .ok (.ireturn, 1) := by decide +kernel
theorem dX11_line_157 : decode cX11_line 157 = .ok (.iinc 3 1, 3) := by decide +kernel
theorem dX11_line_160 : decode cX11_line 160 = .ok (.iinc 5 1, 3) := by decide +kernel
theorem dX11_line_163 : decode cX11_line 163 = .ok (.goto (-121), 3) := by decide +kernel
theorem dX11_line_166 : decode cX11_line 166 = .ok (.aload_n 0, 1) := by decide +kernel
theorem dX11_line_167 : decode cX11_line 167 = .ok (.ldc2_w 342, 3) := by decide +kernel
theorem dX11_line_170 : decode cX11_line 170 = .ok (.invokevirtual 229, 3) := by decide +kernel
theorem dX11_line_173 : decode cX11_line 173 = .ok (.aload_n 0, 1) := by decide +kernel
theorem dX11_line_174 : decode cX11_line 174 = .ok (.ldc2_w 342, 3) := by decide +kernel
theorem dX11_line_177 : decode cX11_line 177 = .ok (.invokevirtual 236, 3) := by decide +kernel
theorem dX11_line_180 : decode cX11_line 180 = .ok (.iload_n 3, 1) := by decide +kernel
theorem dX11_line_181 : decode cX11_line 181 = .ok (.ireturn, 1) := by decide +kernel
theorem dX11_hill_0 : decode cX11_hill 0 = .ok (.aload_n 0, 1) := by decide +kernel
theorem dX11_hill_1 : decode cX11_hill 1 = .ok (.getfield 33, 3) := by decide +kernel
theorem dX11_hill_4 : decode cX11_hill 4 = .ok (.iload_n 1, 1) := by decide +kernel
theorem dX11_hill_5 : decode cX11_hill 5 = .ok (.invokevirtual 133, 3) := by decide +kernel
theorem dX11_hill_8 : decode cX11_hill 8 = .ok (.astore_n 2, 1) := by decide +kernel
theorem dX11_hill_9 : decode cX11_hill 9 = .ok (.aload_n 2, 1) := by decide +kernel
theorem dX11_hill_10 : decode cX11_hill 10 = .ok (.ifnonnull 13, 3) := by decide +kernel
theorem dX11_hill_13 : decode cX11_hill 13 = .ok (.new 137, 3) := by decide +kernel
theorem dX11_hill_16 : decode cX11_hill 16 = .ok (.dup, 1) := by decide +kernel
theorem dX11_hill_17 : decode cX11_hill 17 = .ok (.ldc 139, 2) := by decide +kernel
theorem dX11_hill_19 : decode cX11_hill 19 = .ok (.invokespecial 141, 3) := by decide +kernel
theorem dX11_hill_22 : decode cX11_hill 22 = .ok (.athrow, 1) := by decide +kernel
theorem dX11_hill_23 : decode cX11_hill 23 = .ok (.aload_n 0, 1) := by decide +kernel
theorem dX11_hill_24 : decode cX11_hill 24 = .ok (.getfield 19, 3) := by decide +kernel
theorem dX11_hill_27 : decode cX11_hill 27 = .ok (.iconst 1, 1) := by decide +kernel
theorem dX11_hill_28 : decode cX11_hill 28 = .ok (.invokevirtual 176, 3) := by decide +kernel
theorem dX11_hill_31 : decode cX11_hill 31 = .ok (.istore_n 3, 1) := by decide +kernel
theorem dX11_hill_32 : decode cX11_hill 32 = .ok (.aload_n 0, 1) := by decide +kernel
theorem dX11_hill_33 : decode cX11_hill 33 = .ok (.aload_n 2, 1) := by decide +kernel
theorem dX11_hill_34 : decode cX11_hill 34 = .ok (.iload_n 3, 1) := by decide +kernel
theorem dX11_hill_35 : decode cX11_hill 35 = .ok (.aload_n 2, 1) := by decide +kernel
theorem dX11_hill_36 : decode cX11_hill 36 = .ok (.getfield 152, 3) := by decide +kernel
theorem dX11_hill_39 : decode cX11_hill 39 = .ok (.invokevirtual 331, 3) := by decide +kernel
theorem dX11_hill_42 : decode cX11_hill 42 = .ok (.aload_n 0, 1) := by decide +kernel
theorem dX11_hill_43 : decode cX11_hill 43 = .ok (.aload_n 2, 1) := by decide +kernel
theorem dX11_hill_44 : decode cX11_hill 44 = .ok (.iload_n 3, 1) := by decide +kernel
theorem dX11_hill_45 : decode cX11_hill 45 = .ok (.iconst (-1), 1) := by decide +kernel
theorem dX11_hill_46 : decode cX11_hill 46 = .ok (.invokevirtual 331, 3) := by decide +kernel
theorem dX11_hill_49 : decode cX11_hill 49 = .ok (.isub, 1) := by decide +kernel
theorem dX11_hill_50 : decode cX11_hill 50 = .ok (.ireturn, 1) := by decide +kernel
theorem dX11_wet_0 : decode cX11_wet 0 = .ok (.aload_n 0, 1) := by decide +kernel
theorem dX11_wet_1 : decode cX11_wet 1 = .ok (.getfield 33, 3) := by decide +kernel
theorem dX11_wet_4 : decode cX11_wet 4 = .ok (.iload_n 1, 1) := by decide +kernel
theorem dX11_wet_5 : decode cX11_wet 5 = .ok (.invokevirtual 133, 3) := by decide +kernel
theorem dX11_wet_8 : decode cX11_wet 8 = .ok (.astore_n 3, 1) := by decide +kernel
theorem dX11_wet_9 : decode cX11_wet 9 = .ok (.aload_n 3, 1) := by decide +kernel
theorem dX11_wet_10 : decode cX11_wet 10 = .ok (.ifnull 13, 3) := by decide +kernel
theorem dX11_wet_13 : decode cX11_wet 13 = .ok (.iload_n 2, 1) := by decide +kernel
theorem dX11_wet_14 : decode cX11_wet 14 = .ok (.ifCond .lt 9, 3) := by decide +kernel
theorem dX11_wet_17 : decode cX11_wet 17 = .ok (.iload_n 2, 1) := by decide +kernel
theorem dX11_wet_18 : decode cX11_wet 18 = .ok (.bipush 9, 2) := by decide +kernel
theorem dX11_wet_20 : decode cX11_wet 20 = .ok (.if_icmp .le 5, 3) := by decide +kernel
theorem dX11_wet_23 : decode cX11_wet 23 = .ok (.iconst (-1), 1) := by decide +kernel
theorem dX11_wet_24 : decode cX11_wet 24 = .ok (.ireturn, 1) := by decide +kernel
theorem dX11_wet_25 : decode cX11_wet 25 = .ok (.aload_n 0, 1) := by decide +kernel
theorem dX11_wet_26 : decode cX11_wet 26 = .ok (.aload_n 0, 1) := by decide +kernel
theorem dX11_wet_27 : decode cX11_wet 27 = .ok (.getfield 19, 3) := by decide +kernel
theorem dX11_wet_30 : decode cX11_wet 30 = .ok (.aload_n 3, 1) := by decide +kernel
theorem dX11_wet_31 : decode cX11_wet 31 = .ok (.aload_n 0, 1) := by decide +kernel
theorem dX11_wet_32 : decode cX11_wet 32 = .ok (.getfield 40, 3) := by decide +kernel
theorem dX11_wet_35 : decode cX11_wet 35 = .ok (.iload_n 1, 1) := by decide +kernel
theorem dX11_wet_36 : decode cX11_wet 36 = .ok (.invokevirtual 168, 3) := by decide +kernel
theorem dX11_wet_39 : decode cX11_wet 39 = .ok (.iload_n 2, 1) := by decide +kernel
theorem dX11_wet_40 : decode cX11_wet 40 = .ok (.invokevirtual 344, 3) := by decide +kernel
theorem dX11_wet_43 : decode cX11_wet 43 = .ok (.i2l, 1) := by decide +kernel
theorem dX11_wet_44 : decode cX11_wet 44 = .ok (.invokevirtual 229, 3) := by decide +kernel
theorem dX11_wet_47 : decode cX11_wet 47 = .ok (.aload_n 0, 1) := by decide +kernel
theorem dX11_wet_48 : decode cX11_wet 48 = .ok (.getfield 19, 3) := by decide +kernel
theorem dX11_wet_51 : decode cX11_wet 51 = .ok (.aload_n 3, 1) := by decide +kernel
theorem dX11_wet_52 : decode cX11_wet 52 = .ok (.aload_n 0, 1) := by decide +kernel
theorem dX11_wet_53 : decode cX11_wet 53 = .ok (.getfield 40, 3) := by decide +kernel
theorem dX11_wet_56 : decode cX11_wet 56 = .ok (.iload_n 1, 1) := by decide +kernel
theorem dX11_wet_57 : decode cX11_wet 57 = .ok (.invokevirtual 168, 3) := by decide +kernel
theorem dX11_wet_60 : decode cX11_wet 60 = .ok (.iload_n 2, 1) := by decide +kernel
theorem dX11_wet_61 : decode cX11_wet 61 = .ok (.invokevirtual 179, 3) := by decide +kernel
theorem dX11_wet_64 : decode cX11_wet 64 = .ok (.ireturn, 1) := by decide +kernel
theorem dX11_quickest_0 : decode cX11_quickest 0 = .ok (.aload_n 0, 1) := by decide +kernel
theorem dX11_quickest_1 : decode cX11_quickest 1 = .ok (.getfield 65, 3) := by decide +kernel
theorem dX11_quickest_4 : decode cX11_quickest 4 = .ok (.iload_n 2, 1) := by decide +kernel
theorem dX11_quickest_5 : decode cX11_quickest 5 = .ok (.iload_n 3, 1) := by decide +kernel
theorem dX11_quickest_6 : decode cX11_quickest 6 = .ok (.invokevirtual 197, 3) := by decide +kernel
theorem dX11_quickest_9 : decode cX11_quickest 9 = .ok (.aload_n 0, 1) := by decide +kernel
theorem dX11_quickest_10 : decode cX11_quickest 10 = .ok (.getfield 65, 3) := by decide +kernel
theorem dX11_quickest_13 : decode cX11_quickest 13 = .ok (.aload_n 1, 1) := by decide +kernel
theorem dX11_quickest_14 : decode cX11_quickest 14 = .ok (.aload_n 0, 1) := by decide +kernel
theorem dX11_quickest_15 : decode cX11_quickest 15 = .ok (.getfield 40, 3) := by decide +kernel
theorem dX11_quickest_18 : decode cX11_quickest 18 = .ok (.aload_n 1, 1) := by decide +kernel
theorem dX11_quickest_19 : decode cX11_quickest 19 = .ok (.getfield 347, 3) := by decide +kernel
theorem dX11_quickest_22 : decode cX11_quickest 22 = .ok (.invokevirtual 168, 3) := by decide +kernel
theorem dX11_quickest_25 : decode cX11_quickest 25 = .ok (.invokevirtual 324, 3) := by decide +kernel
theorem dX11_quickest_28 : decode cX11_quickest 28 = .ok (.pop, 1) := by decide +kernel
theorem dX11_quickest_29 : decode cX11_quickest 29 = .ok (.aload_n 0, 1) := by decide +kernel
theorem dX11_quickest_30 : decode cX11_quickest 30 = .ok (.getfield 65, 3) := by decide +kernel
theorem dX11_quickest_33 : decode cX11_quickest 33 = .ok (.aload_n 0, 1) := by decide +kernel
theorem dX11_quickest_34 : decode cX11_quickest 34 = .ok (.getfield 65, 3) := by decide +kernel
theorem dX11_quickest_37 : decode cX11_quickest 37 = .ok (.getfield 334, 3) := by decide +kernel
theorem dX11_quickest_40 : decode cX11_quickest 40 = .ok (.invokevirtual 328, 3) := by decide +kernel
theorem dX11_quickest_43 : decode cX11_quickest 43 = .ok (.ireturn, 1) := by decide +kernel
theorem dX11_order_0 : decode cX11_order 0 = .ok (.aload_n 0, 1) := by decide +kernel
theorem dX11_order_1 : decode cX11_order 1 = .ok (.getfield 74, 3) := by decide +kernel
theorem dX11_order_4 : decode cX11_order 4 = .ok (.aload_n 0, 1) := by decide +kernel
theorem dX11_order_5 : decode cX11_order 5 = .ok (.getfield 12, 3) := by decide +kernel
theorem dX11_order_8 : decode cX11_order 8 = .ok (.invokevirtual 349, 3) := by decide +kernel
theorem dX11_order_11 : decode cX11_order 11 = .ok (.istore_n 1, 1) := by decide +kernel
theorem dX11_order_12 : decode cX11_order 12 = .ok (.aload_n 0, 1) := by decide +kernel
theorem dX11_order_13 : decode cX11_order 13 = .ok (.getfield 12, 3) := by decide +kernel
theorem dX11_order_16 : decode cX11_order 16 = .ok (.invokevirtual 120, 3) := by decide +kernel
theorem dX11_order_19 : decode cX11_order 19 = .ok (.iload_n 1, 1) := by decide +kernel
theorem dX11_order_20 : decode cX11_order 20 = .ok (.ifCond .ge 5, 3) := by decide +kernel
theorem dX11_order_23 : decode cX11_order 23 = .ok (.iload_n 1, 1) := by decide +kernel
theorem dX11_order_24 : decode cX11_order 24 = .ok (.ireturn, 1) := by decide +kernel
theorem dX11_order_25 : decode cX11_order 25 = .ok (.aload_n 0, 1) := by decide +kernel
theorem dX11_order_26 : decode cX11_order 26 = .ok (.getfield 74, 3) := by decide +kernel
theorem dX11_order_29 : decode cX11_order 29 = .ok (.aload_n 0, 1) := by decide +kernel
theorem dX11_order_30 : decode cX11_order 30 = .ok (.getfield 40, 3) := by decide +kernel
theorem dX11_order_33 : decode cX11_order 33 = .ok (.getfield 352, 3) := by decide +kernel
theorem dX11_order_36 : decode cX11_order 36 = .ok (.invokevirtual 355, 3) := by decide +kernel
theorem dX11_order_39 : decode cX11_order 39 = .ok (.aload_n 0, 1) := by decide +kernel
theorem dX11_order_40 : decode cX11_order 40 = .ok (.getfield 74, 3) := by decide +kernel
theorem dX11_order_43 : decode cX11_order 43 = .ok (.aload_n 0, 1) := by decide +kernel
theorem dX11_order_44 : decode cX11_order 44 = .ok (.getfield 40, 3) := by decide +kernel
theorem dX11_order_47 : decode cX11_order 47 = .ok (.getfield 203, 3) := by decide +kernel
theorem dX11_order_50 : decode cX11_order 50 = .ok (.aload_n 0, 1) := by decide +kernel
theorem dX11_order_51 : decode cX11_order 51 = .ok (.getfield 40, 3) := by decide +kernel
theorem dX11_order_54 : decode cX11_order 54 = .ok (.getfield 252, 3) := by decide +kernel
theorem dX11_order_57 : decode cX11_order 57 = .ok (.aload_n 0, 1) := by decide +kernel
theorem dX11_order_58 : decode cX11_order 58 = .ok (.getfield 40, 3) := by decide +kernel
theorem dX11_order_61 : decode cX11_order 61 = .ok (.getfield 253, 3) := by decide +kernel
theorem dX11_order_64 : decode cX11_order 64 = .ok (.invokevirtual 359, 3) := by decide +kernel
theorem dX11_order_67 : decode cX11_order 67 = .ok (.aload_n 0, 1) := by decide +kernel
theorem dX11_order_68 : decode cX11_order 68 = .ok (.getfield 74, 3) := by decide +kernel
theorem dX11_order_71 : decode cX11_order 71 = .ok (.invokevirtual 363, 3) := by decide +kernel
theorem dX11_order_74 : decode cX11_order 74 = .ok (.ifCond .ne 7, 3) := by decide +kernel
theorem dX11_order_77 : decode cX11_order 77 = .ok (.sipush (-200), 3) := by decide +kernel
theorem dX11_order_80 : decode cX11_order 80 = .ok (.ireturn, 1) := by decide +kernel
theorem dX11_order_81 : decode cX11_order 81 = .ok (.aload_n 0, 1) := by decide +kernel
theorem dX11_order_82 : decode cX11_order 82 = .ok (.aload_n 0, 1) := by decide +kernel
theorem dX11_order_83 : decode cX11_order 83 = .ok (.getfield 74, 3) := by decide +kernel
theorem dX11_order_86 : decode cX11_order 86 = .ok (.getfield 366, 3) := by decide +kernel
theorem dX11_order_89 : decode cX11_order 89 = .ok (.i2l, 1) := by decide +kernel
theorem dX11_order_90 : decode cX11_order 90 = .ok (.invokevirtual 229, 3) := by decide +kernel
theorem dX11_order_93 : decode cX11_order 93 = .ok (.aload_n 0, 1) := by decide +kernel
theorem dX11_order_94 : decode cX11_order 94 = .ok (.aload_n 0, 1) := by decide +kernel
theorem dX11_order_95 : decode cX11_order 95 = .ok (.getfield 74, 3) := by decide +kernel
theorem dX11_order_98 : decode cX11_order 98 = .ok (.getfield 369, 3) := by decide +kernel
theorem dX11_order_101 : decode cX11_order 101 = .ok (.i2l, 1) := by decide +kernel
theorem dX11_order_102 : decode cX11_order 102 = .ok (.invokevirtual 236, 3) := by decide +kernel
theorem dX11_order_105 : decode cX11_order 105 = .ok (.aload_n 0, 1) := by decide +kernel
theorem dX11_order_106 : decode cX11_order 106 = .ok (.getfield 74, 3) := by decide +kernel
theorem dX11_order_109 : decode cX11_order 109 = .ok (.getfield 370, 3) := by decide +kernel
theorem dX11_order_112 : decode cX11_order 112 = .ok (.aload_n 0, 1) := by decide +kernel
theorem dX11_order_113 : decode cX11_order 113 = .ok (.getfield 40, 3) := by decide +kernel
theorem dX11_order_116 : decode cX11_order 116 = .ok (.getfield 253, 3) := by decide +kernel
theorem dX11_order_119 : decode cX11_order 119 = .ok (.isub, 1) := by decide +kernel
theorem dX11_order_120 : decode cX11_order 120 = .ok (.ireturn, 1) := by decide +kernel
theorem dX11_soonest_0 : decode cX11_soonest 0 = .ok (.iload_n 1, 1) := by decide +kernel
theorem dX11_soonest_1 : decode cX11_soonest 1 = .ok (.ifCond .eq 14, 3) := by decide +kernel
theorem dX11_soonest_4 : decode cX11_soonest 4 = .ok (.aload_n 0, 1) := by decide +kernel
theorem dX11_soonest_5 : decode cX11_soonest 5 = .ok (.getfield 33, 3) := by decide +kernel
theorem dX11_soonest_8 : decode cX11_soonest 8 = .ok (.iload_n 1, 1) := by decide +kernel
theorem dX11_soonest_9 : decode cX11_soonest 9 = .ok (.invokevirtual 371, 3) := by decide +kernel
theorem dX11_soonest_12 : decode cX11_soonest 12 = .ok (.ifCond .ne 5, 3) := by decide +kernel
theorem dX11_soonest_15 : decode cX11_soonest 15 = .ok (.iconst (-1), 1) := by decide +kernel
theorem dX11_soonest_16 : decode cX11_soonest 16 = .ok (.ireturn, 1) := by decide +kernel
theorem dX11_soonest_17 : decode cX11_soonest 17 = .ok (.aload_n 0, 1) := by decide +kernel
theorem dX11_soonest_18 : decode cX11_soonest 18 = .ok (.getfield 74, 3) := by decide +kernel
theorem dX11_soonest_21 : decode cX11_soonest 21 = .ok (.aload_n 0, 1) := by decide +kernel
theorem dX11_soonest_22 : decode cX11_soonest 22 = .ok (.getfield 40, 3) := by decide +kernel
theorem dX11_soonest_25 : decode cX11_soonest 25 = .ok (.getfield 352, 3) := by decide +kernel
theorem dX11_soonest_28 : decode cX11_soonest 28 = .ok (.invokevirtual 355, 3) := by decide +kernel
theorem dX11_soonest_31 : decode cX11_soonest 31 = .ok (.aload_n 0, 1) := by decide +kernel
theorem dX11_soonest_32 : decode cX11_soonest 32 = .ok (.getfield 74, 3) := by decide +kernel
theorem dX11_soonest_35 : decode cX11_soonest 35 = .ok (.aload_n 0, 1) := by decide +kernel
theorem dX11_soonest_36 : decode cX11_soonest 36 = .ok (.getfield 40, 3) := by decide +kernel
theorem dX11_soonest_39 : decode cX11_soonest 39 = .ok (.getfield 203, 3) := by decide +kernel
theorem dX11_soonest_42 : decode cX11_soonest 42 = .ok (.aload_n 0, 1) := by decide +kernel
theorem dX11_soonest_43 : decode cX11_soonest 43 = .ok (.getfield 40, 3) := by decide +kernel
theorem dX11_soonest_46 : decode cX11_soonest 46 = .ok (.getfield 252, 3) := by decide +kernel
theorem dX11_soonest_49 : decode cX11_soonest 49 = .ok (.aload_n 0, 1) := by decide +kernel
theorem dX11_soonest_50 : decode cX11_soonest 50 = .ok (.getfield 40, 3) := by decide +kernel
theorem dX11_soonest_53 : decode cX11_soonest 53 = .ok (.getfield 253, 3) := by decide +kernel
theorem dX11_soonest_56 : decode cX11_soonest 56 = .ok (.invokevirtual 359, 3) := by decide +kernel
theorem dX11_soonest_59 : decode cX11_soonest 59 = .ok (.aload_n 0, 1) := by decide +kernel
theorem dX11_soonest_60 : decode cX11_soonest 60 = .ok (.getfield 74, 3) := by decide +kernel
theorem dX11_soonest_63 : decode cX11_soonest 63 = .ok (.iload_n 1, 1) := by decide +kernel
theorem dX11_soonest_64 : decode cX11_soonest 64 = .ok (.iconst (-1), 1) := by decide +kernel
theorem dX11_soonest_65 : decode cX11_soonest 65 = .ok (.invokevirtual 374, 3) := by decide +kernel
theorem dX11_soonest_68 : decode cX11_soonest 68 = .ok (.aload_n 0, 1) := by decide +kernel
theorem dX11_soonest_69 : decode cX11_soonest 69 = .ok (.getfield 74, 3) := by decide +kernel
theorem dX11_soonest_72 : decode cX11_soonest 72 = .ok (.getfield 377, 3) := by decide +kernel
theorem dX11_soonest_75 : decode cX11_soonest 75 = .ok (.ifCond .ge 6, 3) := by decide +kernel
theorem dX11_soonest_78 : decode cX11_soonest 78 = .ok (.bipush (-2), 2) := by decide +kernel
theorem dX11_soonest_80 : decode cX11_soonest 80 = .ok (.ireturn, 1) := by decide +kernel
theorem dX11_soonest_81 : decode cX11_soonest 81 = .ok (.aload_n 0, 1) := by decide +kernel
theorem dX11_soonest_82 : decode cX11_soonest 82 = .ok (.invokevirtual 380, 3) := by decide +kernel
theorem dX11_soonest_85 : decode cX11_soonest 85 = .ok (.iconst 0, 1) := by decide +kernel
theorem dX11_soonest_86 : decode cX11_soonest 86 = .ok (.istore_n 2, 1) := by decide +kernel
theorem dX11_soonest_87 : decode cX11_soonest 87 = .ok (.iload_n 2, 1) := by decide +kernel
theorem dX11_soonest_88 : decode cX11_soonest 88 = .ok (.iload_n 1, 1) := by decide +kernel
theorem dX11_soonest_89 : decode cX11_soonest 89 = .ok (.invokestatic 171, 3) := by decide +kernel
theorem dX11_soonest_92 : decode cX11_soonest 92 = .ok (.if_icmp .ge 22, 3) := by decide +kernel
theorem dX11_soonest_95 : decode cX11_soonest 95 = .ok (.aload_n 0, 1) := by decide +kernel
theorem dX11_soonest_96 : decode cX11_soonest 96 = .ok (.aload_n 0, 1) := by decide +kernel
theorem dX11_soonest_97 : decode cX11_soonest 97 = .ok (.getfield 74, 3) := by decide +kernel
theorem dX11_soonest_100 : decode cX11_soonest 100 = .ok (.iload_n 2, 1) := by decide +kernel
theorem dX11_soonest_101 : decode cX11_soonest 101 = .ok (.invokevirtual 383, 3) := by decide +kernel
theorem dX11_soonest_104 : decode cX11_soonest 104 = .ok (.i2l, 1) := by decide +kernel
theorem dX11_soonest_105 : decode cX11_soonest 105 = .ok (.invokevirtual 236, 3) := by decide +kernel
theorem dX11_soonest_108 : decode cX11_soonest 108 = .ok (.iinc 2 1, 3) := by decide +kernel
theorem dX11_soonest_111 : decode cX11_soonest 111 = .ok (.goto (-24), 3) := by decide +kernel
theorem dX11_soonest_114 : decode cX11_soonest 114 = .ok (.aload_n 0, 1) := by decide +kernel
theorem dX11_soonest_115 : decode cX11_soonest 115 = .ok (.getfield 74, 3) := by decide +kernel
theorem dX11_soonest_118 : decode cX11_soonest 118 = .ok (.getfield 377, 3) := by decide +kernel
theorem dX11_soonest_121 : decode cX11_soonest 121 = .ok (.aload_n 0, 1) := by decide +kernel
theorem dX11_soonest_122 : decode cX11_soonest 122 = .ok (.getfield 40, 3) := by decide +kernel
theorem dX11_soonest_125 : decode cX11_soonest 125 = .ok (.getfield 253, 3) := by decide +kernel
theorem dX11_soonest_128 : decode cX11_soonest 128 = .ok (.isub, 1) := by decide +kernel
theorem dX11_soonest_129 : decode cX11_soonest 129 = .ok (.ireturn, 1) := by decide +kernel
theorem dX11_most_0 : decode cX11_most 0 = .ok (.aload_n 0, 1) := by decide +kernel
theorem dX11_most_1 : decode cX11_most 1 = .ok (.getfield 33, 3) := by decide +kernel
theorem dX11_most_4 : decode cX11_most 4 = .ok (.iload_n 1, 1) := by decide +kernel
theorem dX11_most_5 : decode cX11_most 5 = .ok (.invokevirtual 371, 3) := by decide +kernel
theorem dX11_most_8 : decode cX11_most 8 = .ok (.ifCond .eq 14, 3) := by decide +kernel
theorem dX11_most_11 : decode cX11_most 11 = .ok (.iload_n 2, 1) := by decide +kernel
theorem dX11_most_12 : decode cX11_most 12 = .ok (.ifCond .lt 10, 3) := by decide +kernel
theorem dX11_most_15 : decode cX11_most 15 = .ok (.iload_n 2, 1) := by decide +kernel
theorem dX11_most_16 : decode cX11_most 16 = .ok (.ldc_w 386, 3) := by decide +kernel
theorem dX11_most_19 : decode cX11_most 19 = .ok (.if_icmp .le 5, 3) := by decide +kernel
theorem dX11_most_22 : decode cX11_most 22 = .ok (.iconst (-1), 1) := by decide +kernel
theorem dX11_most_23 : decode cX11_most 23 = .ok (.ireturn, 1) := by decide +kernel
theorem dX11_most_24 : decode cX11_most 24 = .ok (.aload_n 0, 1) := by decide +kernel
theorem dX11_most_25 : decode cX11_most 25 = .ok (.getfield 74, 3) := by decide +kernel
theorem dX11_most_28 : decode cX11_most 28 = .ok (.aload_n 0, 1) := by decide +kernel
theorem dX11_most_29 : decode cX11_most 29 = .ok (.getfield 40, 3) := by decide +kernel
theorem dX11_most_32 : decode cX11_most 32 = .ok (.getfield 352, 3) := by decide +kernel
theorem dX11_most_35 : decode cX11_most 35 = .ok (.invokevirtual 355, 3) := by decide +kernel
theorem dX11_most_38 : decode cX11_most 38 = .ok (.aload_n 0, 1) := by decide +kernel
theorem dX11_most_39 : decode cX11_most 39 = .ok (.getfield 74, 3) := by decide +kernel
theorem dX11_most_42 : decode cX11_most 42 = .ok (.aload_n 0, 1) := by decide +kernel
theorem dX11_most_43 : decode cX11_most 43 = .ok (.getfield 40, 3) := by decide +kernel
theorem dX11_most_46 : decode cX11_most 46 = .ok (.getfield 203, 3) := by decide +kernel
theorem dX11_most_49 : decode cX11_most 49 = .ok (.aload_n 0, 1) := by decide +kernel
theorem dX11_most_50 : decode cX11_most 50 = .ok (.getfield 40, 3) := by decide +kernel
theorem dX11_most_53 : decode cX11_most 53 = .ok (.getfield 252, 3) := by decide +kernel
theorem dX11_most_56 : decode cX11_most 56 = .ok (.aload_n 0, 1) := by decide +kernel
theorem dX11_most_57 : decode cX11_most 57 = .ok (.getfield 40, 3) := by decide +kernel
theorem dX11_most_60 : decode cX11_most 60 = .ok (.getfield 253, 3) := by decide +kernel
theorem dX11_most_63 : decode cX11_most 63 = .ok (.invokevirtual 359, 3) := by decide +kernel
theorem dX11_most_66 : decode cX11_most 66 = .ok (.aload_n 0, 1) := by decide +kernel
theorem dX11_most_67 : decode cX11_most 67 = .ok (.getfield 74, 3) := by decide +kernel
theorem dX11_most_70 : decode cX11_most 70 = .ok (.iload_n 1, 1) := by decide +kernel
theorem dX11_most_71 : decode cX11_most 71 = .ok (.iload_n 2, 1) := by decide +kernel
theorem dX11_most_72 : decode cX11_most 72 = .ok (.invokevirtual 374, 3) := by decide +kernel
theorem dX11_most_75 : decode cX11_most 75 = .ok (.aload_n 0, 1) := by decide +kernel
theorem dX11_most_76 : decode cX11_most 76 = .ok (.aload_n 0, 1) := by decide +kernel
theorem dX11_most_77 : decode cX11_most 77 = .ok (.getfield 74, 3) := by decide +kernel
theorem dX11_most_80 : decode cX11_most 80 = .ok (.getfield 387, 3) := by decide +kernel
theorem dX11_most_83 : decode cX11_most 83 = .ok (.i2l, 1) := by decide +kernel
theorem dX11_most_84 : decode cX11_most 84 = .ok (.invokevirtual 229, 3) := by decide +kernel
theorem dX11_most_87 : decode cX11_most 87 = .ok (.aload_n 0, 1) := by decide +kernel
theorem dX11_most_88 : decode cX11_most 88 = .ok (.getfield 74, 3) := by decide +kernel
theorem dX11_most_91 : decode cX11_most 91 = .ok (.getfield 387, 3) := by decide +kernel
theorem dX11_most_94 : decode cX11_most 94 = .ok (.invokestatic 171, 3) := by decide +kernel
theorem dX11_most_97 : decode cX11_most 97 = .ok (.ireturn, 1) := by decide +kernel
theorem dX11_tipnow_0 : decode cX11_tipnow 0 = .ok (.aload_n 0, 1) := by decide +kernel
theorem dX11_tipnow_1 : decode cX11_tipnow 1 = .ok (.getfield 33, 3) := by decide +kernel
theorem dX11_tipnow_4 : decode cX11_tipnow 4 = .ok (.iload_n 1, 1) := by decide +kernel
theorem dX11_tipnow_5 : decode cX11_tipnow 5 = .ok (.invokevirtual 133, 3) := by decide +kernel
theorem dX11_tipnow_8 : decode cX11_tipnow 8 = .ok (.astore_n 2, 1) := by decide +kernel
theorem dX11_tipnow_9 : decode cX11_tipnow 9 = .ok (.aload_n 2, 1) := by decide +kernel
theorem dX11_tipnow_10 : decode cX11_tipnow 10 = .ok (.ifnonnull 5, 3) := by decide +kernel
theorem dX11_tipnow_13 : decode cX11_tipnow 13 = .ok (.iconst (-1), 1) := by decide +kernel
theorem dX11_tipnow_14 : decode cX11_tipnow 14 = .ok (.ireturn, 1) := by decide +kernel
theorem dX11_tipnow_15 : decode cX11_tipnow 15 = .ok (.aload_n 0, 1) := by decide +kernel
theorem dX11_tipnow_16 : decode cX11_tipnow 16 = .ok (.getfield 19, 3) := by decide +kernel
theorem dX11_tipnow_19 : decode cX11_tipnow 19 = .ok (.iconst 5, 1) := by decide +kernel
theorem dX11_tipnow_20 : decode cX11_tipnow 20 = .ok (.invokevirtual 176, 3) := by decide +kernel
theorem dX11_tipnow_23 : decode cX11_tipnow 23 = .ok (.istore_n 3, 1) := by decide +kernel
theorem dX11_tipnow_24 : decode cX11_tipnow 24 = .ok (.aload_n 0, 1) := by decide +kernel
theorem dX11_tipnow_25 : decode cX11_tipnow 25 = .ok (.aload_n 2, 1) := by decide +kernel
theorem dX11_tipnow_26 : decode cX11_tipnow 26 = .ok (.aload_n 0, 1) := by decide +kernel
theorem dX11_tipnow_27 : decode cX11_tipnow 27 = .ok (.getfield 19, 3) := by decide +kernel
theorem dX11_tipnow_30 : decode cX11_tipnow 30 = .ok (.iconst 1, 1) := by decide +kernel
theorem dX11_tipnow_31 : decode cX11_tipnow 31 = .ok (.invokevirtual 176, 3) := by decide +kernel
theorem dX11_tipnow_34 : decode cX11_tipnow 34 = .ok (.aload_n 2, 1) := by decide +kernel
theorem dX11_tipnow_35 : decode cX11_tipnow 35 = .ok (.getfield 152, 3) := by decide +kernel
theorem dX11_tipnow_38 : decode cX11_tipnow 38 = .ok (.invokevirtual 331, 3) := by decide +kernel
theorem dX11_tipnow_41 : decode cX11_tipnow 41 = .ok (.aload_n 2, 1) := by decide +kernel
theorem dX11_tipnow_42 : decode cX11_tipnow 42 = .ok (.getfield 144, 3) := by decide +kernel
theorem dX11_tipnow_45 : decode cX11_tipnow 45 = .ok (.iload_n 3, 1) := by decide +kernel
theorem dX11_tipnow_46 : decode cX11_tipnow 46 = .ok (.invokestatic 273, 3) := by decide +kernel
theorem dX11_tipnow_49 : decode cX11_tipnow 49 = .ok (.iadd, 1) := by decide +kernel
theorem dX11_tipnow_50 : decode cX11_tipnow 50 = .ok (.sipush 300, 3) := by decide +kernel
theorem dX11_tipnow_53 : decode cX11_tipnow 53 = .ok (.iadd, 1) := by decide +kernel
theorem dX11_tipnow_54 : decode cX11_tipnow 54 = .ok (.istore 4, 2) := by decide +kernel
theorem dX11_tipnow_56 : decode cX11_tipnow 56 = .ok (.aload_n 0, 1) := by decide +kernel
theorem dX11_tipnow_57 : decode cX11_tipnow 57 = .ok (.getfield 40, 3) := by decide +kernel
theorem dX11_tipnow_60 : decode cX11_tipnow 60 = .ok (.getfield 252, 3) := by decide +kernel
theorem dX11_tipnow_63 : decode cX11_tipnow 63 = .ok (.iload_n 3, 1) := by decide +kernel
theorem dX11_tipnow_64 : decode cX11_tipnow 64 = .ok (.invokestatic 273, 3) := by decide +kernel
theorem dX11_tipnow_67 : decode cX11_tipnow 67 = .ok (.sipush 300, 3) := by decide +kernel
theorem dX11_tipnow_70 : decode cX11_tipnow 70 = .ok (.iadd, 1) := by decide +kernel
theorem dX11_tipnow_71 : decode cX11_tipnow 71 = .ok (.iload_n 3, 1) := by decide +kernel
theorem dX11_tipnow_72 : decode cX11_tipnow 72 = .ok (.aload_n 2, 1) := by decide +kernel
theorem dX11_tipnow_73 : decode cX11_tipnow 73 = .ok (.getfield 144, 3) := by decide +kernel
theorem dX11_tipnow_76 : decode cX11_tipnow 76 = .ok (.invokestatic 273, 3) := by decide +kernel
theorem dX11_tipnow_79 : decode cX11_tipnow 79 = .ok (.iadd, 1) := by decide +kernel
theorem dX11_tipnow_80 : decode cX11_tipnow 80 = .ok (.iload 4, 2) := by decide +kernel
theorem dX11_tipnow_82 : decode cX11_tipnow 82 = .ok (.iadd, 1) := by decide +kernel
theorem dX11_tipnow_83 : decode cX11_tipnow 83 = .ok (.istore 5, 2) := by decide +kernel
theorem dX11_tipnow_85 : decode cX11_tipnow 85 = .ok (.aload_n 0, 1) := by decide +kernel
theorem dX11_tipnow_86 : decode cX11_tipnow 86 = .ok (.getfield 40, 3) := by decide +kernel
theorem dX11_tipnow_89 : decode cX11_tipnow 89 = .ok (.getfield 252, 3) := by decide +kernel
theorem dX11_tipnow_92 : decode cX11_tipnow 92 = .ok (.aload_n 2, 1) := by decide +kernel
theorem dX11_tipnow_93 : decode cX11_tipnow 93 = .ok (.getfield 144, 3) := by decide +kernel
theorem dX11_tipnow_96 : decode cX11_tipnow 96 = .ok (.invokestatic 273, 3) := by decide +kernel
theorem dX11_tipnow_99 : decode cX11_tipnow 99 = .ok (.iload 4, 2) := by decide +kernel
theorem dX11_tipnow_101 : decode cX11_tipnow 101 = .ok (.iadd, 1) := by decide +kernel
theorem dX11_tipnow_102 : decode cX11_tipnow 102 = .ok (.istore 6, 2) := by decide +kernel
theorem dX11_tipnow_104 : decode cX11_tipnow 104 = .ok (.aload_n 0, 1) := by decide +kernel
theorem dX11_tipnow_105 : decode cX11_tipnow 105 = .ok (.getfield 65, 3) := by decide +kernel
theorem dX11_tipnow_108 : decode cX11_tipnow 108 = .ok (.getfield 390, 3) := by decide +kernel
theorem dX11_tipnow_111 : decode cX11_tipnow 111 = .ok (.aload_n 0, 1) := by decide +kernel
theorem dX11_tipnow_112 : decode cX11_tipnow 112 = .ok (.getfield 19, 3) := by decide +kernel
theorem dX11_tipnow_115 : decode cX11_tipnow 115 = .ok (.iconst 0, 1) := by decide +kernel
theorem dX11_tipnow_116 : decode cX11_tipnow 116 = .ok (.invokevirtual 176, 3) := by decide +kernel
theorem dX11_tipnow_119 : decode cX11_tipnow 119 = .ok (.if_icmp .le 6, 3) := by decide +kernel
theorem dX11_tipnow_122 : decode cX11_tipnow 122 = .ok (.bipush (-2), 2) := by decide +kernel
theorem dX11_tipnow_124 : decode cX11_tipnow 124 = .ok (.ireturn, 1) := by decide +kernel
theorem dX11_tipnow_125 : decode cX11_tipnow 125 = .ok (.aload_n 0, 1) := by decide +kernel
theorem dX11_tipnow_126 : decode cX11_tipnow 126 = .ok (.iload 5, 2) := by decide +kernel
theorem dX11_tipnow_128 : decode cX11_tipnow 128 = .ok (.i2l, 1) := by decide +kernel
theorem dX11_tipnow_129 : decode cX11_tipnow 129 = .ok (.invokevirtual 229, 3) := by decide +kernel
theorem dX11_tipnow_132 : decode cX11_tipnow 132 = .ok (.aload_n 0, 1) := by decide +kernel
theorem dX11_tipnow_133 : decode cX11_tipnow 133 = .ok (.getfield 40, 3) := by decide +kernel
theorem dX11_tipnow_136 : decode cX11_tipnow 136 = .ok (.getfield 203, 3) := by decide +kernel
theorem dX11_tipnow_139 : decode cX11_tipnow 139 = .ok (.aload_n 0, 1) := by decide +kernel
theorem dX11_tipnow_140 : decode cX11_tipnow 140 = .ok (.getfield 65, 3) := by decide +kernel
theorem dX11_tipnow_143 : decode cX11_tipnow 143 = .ok (.getfield 390, 3) := by decide +kernel
theorem dX11_tipnow_146 : decode cX11_tipnow 146 = .ok (.iadd, 1) := by decide +kernel
theorem dX11_tipnow_147 : decode cX11_tipnow 147 = .ok (.aload_n 0, 1) := by decide +kernel
theorem dX11_tipnow_148 : decode cX11_tipnow 148 = .ok (.getfield 19, 3) := by decide +kernel
theorem dX11_tipnow_151 : decode cX11_tipnow 151 = .ok (.iconst 0, 1) := by decide +kernel
theorem dX11_tipnow_152 : decode cX11_tipnow 152 = .ok (.invokevirtual 176, 3) := by decide +kernel
theorem dX11_tipnow_155 : decode cX11_tipnow 155 = .ok (.if_icmp .le 12, 3) := by decide +kernel
theorem dX11_tipnow_158 : decode cX11_tipnow 158 = .ok (.aload_n 0, 1) := by decide +kernel
theorem dX11_tipnow_159 : decode cX11_tipnow 159 = .ok (.ldc2_w 342, 3) := by decide +kernel
theorem dX11_tipnow_162 : decode cX11_tipnow 162 = .ok (.invokevirtual 236, 3) := by decide +kernel
theorem dX11_tipnow_165 : decode cX11_tipnow 165 = .ok (.iconst 2, 1) := by decide +kernel
theorem dX11_tipnow_166 : decode cX11_tipnow 166 = .ok (.ireturn, 1) := by decide +kernel
theorem dX11_tipnow_167 : decode cX11_tipnow 167 = .ok (.aload_n 0, 1) := by decide +kernel
theorem dX11_tipnow_168 : decode cX11_tipnow 168 = .ok (.iload 6, 2) := by decide +kernel
theorem dX11_tipnow_170 : decode cX11_tipnow 170 = .ok (.i2l, 1) := by decide +kernel
theorem dX11_tipnow_171 : decode cX11_tipnow 171 = .ok (.invokevirtual 236, 3) := by decide +kernel
theorem dX11_tipnow_174 : decode cX11_tipnow 174 = .ok (.aload_n 0, 1) := by decide +kernel
theorem dX11_tipnow_175 : decode cX11_tipnow 175 = .ok (.getfield 40, 3) := by decide +kernel
theorem dX11_tipnow_178 : decode cX11_tipnow 178 = .ok (.getfield 203, 3) := by decide +kernel
theorem dX11_tipnow_181 : decode cX11_tipnow 181 = .ok (.ifCond .eq 14, 3) := by decide +kernel
theorem dX11_tipnow_184 : decode cX11_tipnow 184 = .ok (.iload 5, 2) := by decide +kernel
theorem dX11_tipnow_186 : decode cX11_tipnow 186 = .ok (.iload 6, 2) := by decide +kernel
theorem dX11_tipnow_188 : decode cX11_tipnow 188 = .ok (.if_icmp .ge 7, 3) := by decide +kernel
theorem dX11_tipnow_191 : decode cX11_tipnow 191 = .ok (.iconst 1, 1) := by decide +kernel
theorem dX11_tipnow_192 : decode cX11_tipnow 192 = .ok (.goto 4, 3) := by decide +kernel
theorem dX11_tipnow_195 : decode cX11_tipnow 195 = .ok (.iconst 0, 1) := by decide +kernel
theorem dX11_tipnow_196 : decode cX11_tipnow 196 = .ok (.ireturn, 1) := by decide +kernel
theorem dX11_share_0 : decode cX11_share 0 = .ok (.aload_n 0, 1) := by decide +kernel
theorem dX11_share_1 : decode cX11_share 1 = .ok (.getfield 33, 3) := by decide +kernel
theorem dX11_share_4 : decode cX11_share 4 = .ok (.iload_n 1, 1) := by decide +kernel
theorem dX11_share_5 : decode cX11_share 5 = .ok (.invokevirtual 371, 3) := by decide +kernel
theorem dX11_share_8 : decode cX11_share 8 = .ok (.ifCond .ne 5, 3) := by decide +kernel
theorem dX11_share_11 : decode cX11_share 11 = .ok (.iconst (-1), 1) := by decide +kernel
theorem dX11_share_12 : decode cX11_share 12 = .ok (.ireturn, 1) := by decide +kernel
theorem dX11_share_13 : decode cX11_share 13 = .ok (.aload_n 0, 1) := by decide +kernel
theorem dX11_share_14 : decode cX11_share 14 = .ok (.invokevirtual 393, 3) := by decide +kernel
theorem dX11_share_17 : decode cX11_share 17 = .ok (.aload_n 0, 1) := by decide +kernel
theorem dX11_share_18 : decode cX11_share 18 = .ok (.getfield 83, 3) := by decide +kernel
theorem dX11_share_21 : decode cX11_share 21 = .ok (.iload_n 1, 1) := by decide +kernel
theorem dX11_share_22 : decode cX11_share 22 = .ok (.invokevirtual 396, 3) := by decide +kernel
theorem dX11_share_25 : decode cX11_share 25 = .ok (.istore_n 2, 1) := by decide +kernel
theorem dX11_share_26 : decode cX11_share 26 = .ok (.iload_n 2, 1) := by decide +kernel
theorem dX11_share_27 : decode cX11_share 27 = .ok (.istore_n 3, 1) := by decide +kernel
theorem dX11_share_28 : decode cX11_share 28 = .ok (.iconst 0, 1) := by decide +kernel
theorem dX11_share_29 : decode cX11_share 29 = .ok (.istore 4, 2) := by decide +kernel
theorem dX11_share_31 : decode cX11_share 31 = .ok (.iconst 1, 1) := by decide +kernel
theorem dX11_share_32 : decode cX11_share 32 = .ok (.istore 5, 2) := by decide +kernel
theorem dX11_share_34 : decode cX11_share 34 = .ok (.iload 5, 2) := by decide +kernel
theorem dX11_share_36 : decode cX11_share 36 = .ok (.bipush 64, 2) := by decide +kernel
theorem dX11_share_38 : decode cX11_share 38 = .ok (.if_icmp .ge 53, 3) := by decide +kernel
theorem dX11_share_41 : decode cX11_share 41 = .ok (.aload_n 0, 1) := by decide +kernel
theorem dX11_share_42 : decode cX11_share 42 = .ok (.getfield 83, 3) := by decide +kernel
theorem dX11_share_45 : decode cX11_share 45 = .ok (.iload 5, 2) := by decide +kernel
theorem dX11_share_47 : decode cX11_share 47 = .ok (.invokevirtual 396, 3) := by decide +kernel
theorem dX11_share_50 : decode cX11_share 50 = .ok (.istore 6, 2) := by decide +kernel
theorem dX11_share_52 : decode cX11_share 52 = .ok (.iload 6, 2) := by decide +kernel
theorem dX11_share_54 : decode cX11_share 54 = .ok (.iload_n 2, 1) := by decide +kernel
theorem dX11_share_55 : decode cX11_share 55 = .ok (.iload 6, 2) := by decide +kernel
theorem dX11_share_57 : decode cX11_share 57 = .ok (.isub, 1) := by decide +kernel
theorem dX11_share_58 : decode cX11_share 58 = .ok (.invokestatic 397, 3) := by decide +kernel
theorem dX11_share_61 : decode cX11_share 61 = .ok (.istore 7, 2) := by decide +kernel
theorem dX11_share_63 : decode cX11_share 63 = .ok (.iload 5, 2) := by decide +kernel
theorem dX11_share_65 : decode cX11_share 65 = .ok (.iload_n 1, 1) := by decide +kernel
theorem dX11_share_66 : decode cX11_share 66 = .ok (.iconst (-1), 1) := by decide +kernel
theorem dX11_share_67 : decode cX11_share 67 = .ok (.ixor, 1) := by decide +kernel
theorem dX11_share_68 : decode cX11_share 68 = .ok (.iand, 1) := by decide +kernel
theorem dX11_share_69 : decode cX11_share 69 = .ok (.ifCond .ne 16, 3) := by decide +kernel
theorem dX11_share_72 : decode cX11_share 72 = .ok (.iload 7, 2) := by decide +kernel
theorem dX11_share_74 : decode cX11_share 74 = .ok (.iload_n 3, 1) := by decide +kernel
theorem dX11_share_75 : decode cX11_share 75 = .ok (.if_icmp .ge 10, 3) := by decide +kernel
theorem dX11_share_78 : decode cX11_share 78 = .ok (.iload 7, 2) := by decide +kernel
theorem dX11_share_80 : decode cX11_share 80 = .ok (.istore_n 3, 1) := by decide +kernel
theorem dX11_share_81 : decode cX11_share 81 = .ok (.iload 5, 2) := by decide +kernel
theorem dX11_share_83 : decode cX11_share 83 = .ok (.istore 4, 2) := by decide +kernel
theorem dX11_share_85 : decode cX11_share 85 = .ok (.iinc 5 1, 3) := by decide +kernel
theorem dX11_share_88 : decode cX11_share 88 = .ok (.goto (-54), 3) := by decide +kernel
theorem dX11_share_91 : decode cX11_share 91 = .ok (.aload_n 0, 1) := by decide +kernel
theorem dX11_share_92 : decode cX11_share 92 = .ok (.iload 4, 2) := by decide +kernel
theorem dX11_share_94 : decode cX11_share 94 = .ok (.i2l, 1) := by decide +kernel
theorem dX11_share_95 : decode cX11_share 95 = .ok (.invokevirtual 229, 3) := by decide +kernel
theorem dX11_share_98 : decode cX11_share 98 = .ok (.aload_n 0, 1) := by decide +kernel
theorem dX11_share_99 : decode cX11_share 99 = .ok (.iload_n 2, 1) := by decide +kernel
theorem dX11_share_100 : decode cX11_share 100 = .ok (.iload_n 3, 1) := by decide +kernel
theorem dX11_share_101 : decode cX11_share 101 = .ok (.isub, 1) := by decide +kernel
theorem dX11_share_102 : decode cX11_share 102 = .ok (.i2l, 1) := by decide +kernel
theorem dX11_share_103 : decode cX11_share 103 = .ok (.invokevirtual 236, 3) := by decide +kernel
theorem dX11_share_106 : decode cX11_share 106 = .ok (.iload_n 3, 1) := by decide +kernel
theorem dX11_share_107 : decode cX11_share 107 = .ok (.ireturn, 1) := by decide +kernel
theorem dX11_holiday_0 : decode cX11_holiday 0 = .ok (.iload_n 1, 1) := by decide +kernel
theorem dX11_holiday_1 : decode cX11_holiday 1 = .ok (.ifCond .lt 20, 3) := by decide +kernel
theorem dX11_holiday_4 : decode cX11_holiday 4 = .ok (.iload_n 1, 1) := by decide +kernel
theorem dX11_holiday_5 : decode cX11_holiday 5 = .ok (.bipush 7, 2) := by decide +kernel
theorem dX11_holiday_7 : decode cX11_holiday 7 = .ok (.if_icmp .ge 14, 3) := by decide +kernel
theorem dX11_holiday_10 : decode cX11_holiday 10 = .ok (.iload_n 2, 1) := by decide +kernel
theorem dX11_holiday_11 : decode cX11_holiday 11 = .ok (.ifCond .lt 10, 3) := by decide +kernel
theorem dX11_holiday_14 : decode cX11_holiday 14 = .ok (.iload_n 2, 1) := by decide +kernel
theorem dX11_holiday_15 : decode cX11_holiday 15 = .ok (.ldc_w 386, 3) := by decide +kernel
theorem dX11_holiday_18 : decode cX11_holiday 18 = .ok (.if_icmp .le 5, 3) := by decide +kernel
theorem dX11_holiday_21 : decode cX11_holiday 21 = .ok (.iconst (-1), 1) := by decide +kernel
theorem dX11_holiday_22 : decode cX11_holiday 22 = .ok (.ireturn, 1) := by decide +kernel
theorem dX11_holiday_23 : decode cX11_holiday 23 = .ok (.aload_n 0, 1) := by decide +kernel
theorem dX11_holiday_24 : decode cX11_holiday 24 = .ok (.invokevirtual 393, 3) := by decide +kernel
theorem dX11_holiday_27 : decode cX11_holiday 27 = .ok (.aload_n 0, 1) := by decide +kernel
theorem dX11_holiday_28 : decode cX11_holiday 28 = .ok (.getfield 83, 3) := by decide +kernel
theorem dX11_holiday_31 : decode cX11_holiday 31 = .ok (.iload_n 1, 1) := by decide +kernel
theorem dX11_holiday_32 : decode cX11_holiday 32 = .ok (.invokevirtual 400, 3) := by decide +kernel
theorem dX11_holiday_35 : decode cX11_holiday 35 = .ok (.istore_n 3, 1) := by decide +kernel
theorem dX11_holiday_36 : decode cX11_holiday 36 = .ok (.iload_n 3, 1) := by decide +kernel
theorem dX11_holiday_37 : decode cX11_holiday 37 = .ok (.ifCond .ne 9, 3) := by decide +kernel
theorem dX11_holiday_40 : decode cX11_holiday 40 = .ok (.aload_n 0, 1) := by decide +kernel
theorem dX11_holiday_41 : decode cX11_holiday 41 = .ok (.invokevirtual 380, 3) := by decide +kernel
theorem dX11_holiday_44 : decode cX11_holiday 44 = .ok (.iconst 0, 1) := by decide +kernel
theorem dX11_holiday_45 : decode cX11_holiday 45 = .ok (.ireturn, 1) := by decide +kernel
theorem dX11_holiday_46 : decode cX11_holiday 46 = .ok (.iload_n 1, 1) := by decide +kernel
theorem dX11_holiday_47 : decode cX11_holiday 47 = .ok (.iconst 1, 1) := by decide +kernel
theorem dX11_holiday_48 : decode cX11_holiday 48 = .ok (.iadd, 1) := by decide +kernel
theorem dX11_holiday_49 : decode cX11_holiday 49 = .ok (.istore 4, 2) := by decide +kernel
theorem dX11_holiday_51 : decode cX11_holiday 51 = .ok (.iload 4, 2) := by decide +kernel
theorem dX11_holiday_53 : decode cX11_holiday 53 = .ok (.bipush 7, 2) := by decide +kernel
theorem dX11_holiday_55 : decode cX11_holiday 55 = .ok (.if_icmp .ge 63, 3) := by decide +kernel
theorem dX11_holiday_58 : decode cX11_holiday 58 = .ok (.aload_n 0, 1) := by decide +kernel
theorem dX11_holiday_59 : decode cX11_holiday 59 = .ok (.getfield 83, 3) := by decide +kernel
theorem dX11_holiday_62 : decode cX11_holiday 62 = .ok (.iload_n 1, 1) := by decide +kernel
theorem dX11_holiday_63 : decode cX11_holiday 63 = .ok (.iconst 1, 1) := by decide +kernel
theorem dX11_holiday_64 : decode cX11_holiday 64 = .ok (.iadd, 1) := by decide +kernel
theorem dX11_holiday_65 : decode cX11_holiday 65 = .ok (.iload 4, 2) := by decide +kernel
theorem dX11_holiday_67 : decode cX11_holiday 67 = .ok (.iload_n 2, 1) := by decide +kernel
theorem dX11_holiday_68 : decode cX11_holiday 68 = .ok (.invokevirtual 403, 3) := by decide +kernel
theorem dX11_holiday_71 : decode cX11_holiday 71 = .ok (.ifCond .eq 41, 3) := by decide +kernel
theorem dX11_holiday_74 : decode cX11_holiday 74 = .ok (.aload_n 0, 1) := by decide +kernel
theorem dX11_holiday_75 : decode cX11_holiday 75 = .ok (.invokevirtual 380, 3) := by decide +kernel
theorem dX11_holiday_78 : decode cX11_holiday 78 = .ok (.iconst 0, 1) := by decide +kernel
theorem dX11_holiday_79 : decode cX11_holiday 79 = .ok (.istore 5, 2) := by decide +kernel
theorem dX11_holiday_81 : decode cX11_holiday 81 = .ok (.iload 5, 2) := by decide +kernel
theorem dX11_holiday_83 : decode cX11_holiday 83 = .ok (.iload_n 3, 1) := by decide +kernel
theorem dX11_holiday_84 : decode cX11_holiday 84 = .ok (.if_icmp .ge 23, 3) := by decide +kernel
theorem dX11_holiday_87 : decode cX11_holiday 87 = .ok (.aload_n 0, 1) := by decide +kernel
theorem dX11_holiday_88 : decode cX11_holiday 88 = .ok (.aload_n 0, 1) := by decide +kernel
theorem dX11_holiday_89 : decode cX11_holiday 89 = .ok (.getfield 83, 3) := by decide +kernel
theorem dX11_holiday_92 : decode cX11_holiday 92 = .ok (.iload 5, 2) := by decide +kernel
theorem dX11_holiday_94 : decode cX11_holiday 94 = .ok (.invokevirtual 407, 3) := by decide +kernel
theorem dX11_holiday_97 : decode cX11_holiday 97 = .ok (.i2l, 1) := by decide +kernel
theorem dX11_holiday_98 : decode cX11_holiday 98 = .ok (.invokevirtual 236, 3) := by decide +kernel
theorem dX11_holiday_101 : decode cX11_holiday 101 = .ok (.iinc 5 1, 3) := by decide +kernel
theorem dX11_holiday_104 : decode cX11_holiday 104 = .ok (.goto (-23), 3) := by decide +kernel
theorem dX11_holiday_107 : decode cX11_holiday 107 = .ok (.iload 4, 2) := by decide +kernel
theorem dX11_holiday_109 : decode cX11_holiday 109 = .ok (.iload_n 1, 1) := by decide +kernel
theorem dX11_holiday_110 : decode cX11_holiday 110 = .ok (.isub, 1) := by decide +kernel
theorem dX11_holiday_111 : decode cX11_holiday 111 = .ok (.ireturn, 1) := by decide +kernel
theorem dX11_holiday_112 : decode cX11_holiday 112 = .ok (.iinc 4 1, 3) := by decide +kernel
theorem dX11_holiday_115 : decode cX11_holiday 115 = .ok (.goto (-64), 3) := by decide +kernel
theorem dX11_holiday_118 : decode cX11_holiday 118 = .ok (.bipush (-2), 2) := by decide +kernel
theorem dX11_holiday_120 : decode cX11_holiday 120 = .ok (.ireturn, 1) := by decide +kernel
theorem dX11_busiest_0 : decode cX11_busiest 0 = .ok (.aload_n 0, 1) := by decide +kernel
theorem dX11_busiest_1 : decode cX11_busiest 1 = .ok (.invokevirtual 393, 3) := by decide +kernel
theorem dX11_busiest_4 : decode cX11_busiest 4 = .ok (.iconst 0, 1) := by decide +kernel
theorem dX11_busiest_5 : decode cX11_busiest 5 = .ok (.istore_n 1, 1) := by decide +kernel
theorem dX11_busiest_6 : decode cX11_busiest 6 = .ok (.iconst 0, 1) := by decide +kernel
theorem dX11_busiest_7 : decode cX11_busiest 7 = .ok (.istore_n 2, 1) := by decide +kernel
theorem dX11_busiest_8 : decode cX11_busiest 8 = .ok (.iconst 1, 1) := by decide +kernel
theorem dX11_busiest_9 : decode cX11_busiest 9 = .ok (.istore_n 3, 1) := by decide +kernel
theorem dX11_busiest_10 : decode cX11_busiest 10 = .ok (.iload_n 3, 1) := by decide +kernel
theorem dX11_busiest_11 : decode cX11_busiest 11 = .ok (.bipush 7, 2) := by decide +kernel
theorem dX11_busiest_13 : decode cX11_busiest 13 = .ok (.if_icmp .ge 51, 3) := by decide +kernel
theorem dX11_busiest_16 : decode cX11_busiest 16 = .ok (.aload_n 0, 1) := by decide +kernel
theorem dX11_busiest_17 : decode cX11_busiest 17 = .ok (.getfield 83, 3) := by decide +kernel
theorem dX11_busiest_20 : decode cX11_busiest 20 = .ok (.iload_n 3, 1) := by decide +kernel
theorem dX11_busiest_21 : decode cX11_busiest 21 = .ok (.invokevirtual 410, 3) := by decide +kernel
theorem dX11_busiest_24 : decode cX11_busiest 24 = .ok (.aload_n 0, 1) := by decide +kernel
theorem dX11_busiest_25 : decode cX11_busiest 25 = .ok (.getfield 83, 3) := by decide +kernel
theorem dX11_busiest_28 : decode cX11_busiest 28 = .ok (.iload_n 1, 1) := by decide +kernel
theorem dX11_busiest_29 : decode cX11_busiest 29 = .ok (.invokevirtual 410, 3) := by decide +kernel
theorem dX11_busiest_32 : decode cX11_busiest 32 = .ok (.if_icmp .le 5, 3) := by decide +kernel
theorem dX11_busiest_35 : decode cX11_busiest 35 = .ok (.iload_n 3, 1) := by decide +kernel
theorem dX11_busiest_36 : decode cX11_busiest 36 = .ok (.istore_n 1, 1) := by decide +kernel
theorem dX11_busiest_37 : decode cX11_busiest 37 = .ok (.aload_n 0, 1) := by decide +kernel
theorem dX11_busiest_38 : decode cX11_busiest 38 = .ok (.getfield 83, 3) := by decide +kernel
theorem dX11_busiest_41 : decode cX11_busiest 41 = .ok (.iload_n 3, 1) := by decide +kernel
theorem dX11_busiest_42 : decode cX11_busiest 42 = .ok (.invokevirtual 410, 3) := by decide +kernel
theorem dX11_busiest_45 : decode cX11_busiest 45 = .ok (.aload_n 0, 1) := by decide +kernel
theorem dX11_busiest_46 : decode cX11_busiest 46 = .ok (.getfield 83, 3) := by decide +kernel
theorem dX11_busiest_49 : decode cX11_busiest 49 = .ok (.iload_n 2, 1) := by decide +kernel
theorem dX11_busiest_50 : decode cX11_busiest 50 = .ok (.invokevirtual 410, 3) := by decide +kernel
theorem dX11_busiest_53 : decode cX11_busiest 53 = .ok (.if_icmp .ge 5, 3) := by decide +kernel
theorem dX11_busiest_56 : decode cX11_busiest 56 = .ok (.iload_n 3, 1) := by decide +kernel
theorem dX11_busiest_57 : decode cX11_busiest 57 = .ok (.istore_n 2, 1) := by decide +kernel
theorem dX11_busiest_58 : decode cX11_busiest 58 = .ok (.iinc 3 1, 3) := by decide +kernel
theorem dX11_busiest_61 : decode cX11_busiest 61 = .ok (.goto (-51), 3) := by decide +kernel
theorem dX11_busiest_64 : decode cX11_busiest 64 = .ok (.aload_n 0, 1) := by decide +kernel
theorem dX11_busiest_65 : decode cX11_busiest 65 = .ok (.aload_n 0, 1) := by decide +kernel
theorem dX11_busiest_66 : decode cX11_busiest 66 = .ok (.getfield 83, 3) := by decide +kernel
theorem dX11_busiest_69 : decode cX11_busiest 69 = .ok (.iload_n 1, 1) := by decide +kernel
theorem dX11_busiest_70 : decode cX11_busiest 70 = .ok (.invokevirtual 410, 3) := by decide +kernel
theorem dX11_busiest_73 : decode cX11_busiest 73 = .ok (.i2l, 1) := by decide +kernel
theorem dX11_busiest_74 : decode cX11_busiest 74 = .ok (.invokevirtual 229, 3) := by decide +kernel
theorem dX11_busiest_77 : decode cX11_busiest 77 = .ok (.aload_n 0, 1) := by decide +kernel
theorem dX11_busiest_78 : decode cX11_busiest 78 = .ok (.aload_n 0, 1) := by decide +kernel
theorem dX11_busiest_79 : decode cX11_busiest 79 = .ok (.getfield 83, 3) := by decide +kernel
theorem dX11_busiest_82 : decode cX11_busiest 82 = .ok (.iload_n 2, 1) := by decide +kernel
theorem dX11_busiest_83 : decode cX11_busiest 83 = .ok (.invokevirtual 410, 3) := by decide +kernel
theorem dX11_busiest_86 : decode cX11_busiest 86 = .ok (.i2l, 1) := by decide +kernel
theorem dX11_busiest_87 : decode cX11_busiest 87 = .ok (.invokevirtual 236, 3) := by decide +kernel
theorem dX11_busiest_90 : decode cX11_busiest 90 = .ok (.iload_n 1, 1) := by decide +kernel
theorem dX11_busiest_91 : decode cX11_busiest 91 = .ok (.ireturn, 1) := by decide +kernel
theorem dX11_measureDays_0 : decode cX11_measureDays 0 = .ok (.aload_n 0, 1) := by decide +kernel
theorem dX11_measureDays_1 : decode cX11_measureDays 1 = .ok (.getfield 83, 3) := by decide +kernel
theorem dX11_measureDays_4 : decode cX11_measureDays 4 = .ok (.invokevirtual 413, 3) := by decide +kernel
theorem dX11_measureDays_7 : decode cX11_measureDays 7 = .ok (.iconst 0, 1) := by decide +kernel
theorem dX11_measureDays_8 : decode cX11_measureDays 8 = .ok (.istore_n 1, 1) := by decide +kernel
theorem dX11_measureDays_9 : decode cX11_measureDays 9 = .ok (.iload_n 1, 1) := by decide +kernel
theorem dX11_measureDays_10 : decode cX11_measureDays 10 = .ok (.aload_n 0, 1) := by decide +kernel
theorem dX11_measureDays_11 : decode cX11_measureDays 11 = .ok (.getfield 33, 3) := by decide +kernel
theorem dX11_measureDays_14 : decode cX11_measureDays 14 = .ok (.getfield 113, 3) := by decide +kernel
theorem dX11_measureDays_17 : decode cX11_measureDays 17 = .ok (.if_icmp .ge 72, 3) := by decide +kernel
theorem dX11_measureDays_20 : decode cX11_measureDays 20 = .ok (.aload_n 0, 1) := by decide +kernel
theorem dX11_measureDays_21 : decode cX11_measureDays 21 = .ok (.getfield 33, 3) := by decide +kernel
theorem dX11_measureDays_24 : decode cX11_measureDays 24 = .ok (.iload_n 1, 1) := by decide +kernel
theorem dX11_measureDays_25 : decode cX11_measureDays 25 = .ok (.invokevirtual 133, 3) := by decide +kernel
theorem dX11_measureDays_28 : decode cX11_measureDays 28 = .ok (.astore_n 2, 1) := by decide +kernel
theorem dX11_measureDays_29 : decode cX11_measureDays 29 = .ok (.aload_n 2, 1) := by decide +kernel
theorem dX11_measureDays_30 : decode cX11_measureDays 30 = .ok (.ifnull 53, 3) := by decide +kernel
theorem dX11_measureDays_33 : decode cX11_measureDays 33 = .ok (.aload_n 0, 1) := by decide +kernel
theorem dX11_measureDays_34 : decode cX11_measureDays 34 = .ok (.getfield 65, 3) := by decide +kernel
theorem dX11_measureDays_37 : decode cX11_measureDays 37 = .ok (.aload_n 0, 1) := by decide +kernel
theorem dX11_measureDays_38 : decode cX11_measureDays 38 = .ok (.getfield 19, 3) := by decide +kernel
theorem dX11_measureDays_41 : decode cX11_measureDays 41 = .ok (.iconst 1, 1) := by decide +kernel
theorem dX11_measureDays_42 : decode cX11_measureDays 42 = .ok (.invokevirtual 176, 3) := by decide +kernel
theorem dX11_measureDays_45 : decode cX11_measureDays 45 = .ok (.aload_n 2, 1) := by decide +kernel
theorem dX11_measureDays_46 : decode cX11_measureDays 46 = .ok (.getfield 152, 3) := by decide +kernel
theorem dX11_measureDays_49 : decode cX11_measureDays 49 = .ok (.invokevirtual 197, 3) := by decide +kernel
theorem dX11_measureDays_52 : decode cX11_measureDays 52 = .ok (.aload_n 0, 1) := by decide +kernel
theorem dX11_measureDays_53 : decode cX11_measureDays 53 = .ok (.getfield 83, 3) := by decide +kernel
theorem dX11_measureDays_56 : decode cX11_measureDays 56 = .ok (.aload_n 2, 1) := by decide +kernel
theorem dX11_measureDays_57 : decode cX11_measureDays 57 = .ok (.aload_n 0, 1) := by decide +kernel
theorem dX11_measureDays_58 : decode cX11_measureDays 58 = .ok (.getfield 65, 3) := by decide +kernel
theorem dX11_measureDays_61 : decode cX11_measureDays 61 = .ok (.aload_n 0, 1) := by decide +kernel
theorem dX11_measureDays_62 : decode cX11_measureDays 62 = .ok (.getfield 65, 3) := by decide +kernel
theorem dX11_measureDays_65 : decode cX11_measureDays 65 = .ok (.aload_n 2, 1) := by decide +kernel
theorem dX11_measureDays_66 : decode cX11_measureDays 66 = .ok (.aload_n 0, 1) := by decide +kernel
theorem dX11_measureDays_67 : decode cX11_measureDays 67 = .ok (.getfield 40, 3) := by decide +kernel
theorem dX11_measureDays_70 : decode cX11_measureDays 70 = .ok (.iload_n 1, 1) := by decide +kernel
theorem dX11_measureDays_71 : decode cX11_measureDays 71 = .ok (.invokevirtual 168, 3) := by decide +kernel
theorem dX11_measureDays_74 : decode cX11_measureDays 74 = .ok (.invokevirtual 324, 3) := by decide +kernel
theorem dX11_measureDays_77 : decode cX11_measureDays 77 = .ok (.invokevirtual 328, 3) := by decide +kernel
theorem dX11_measureDays_80 : decode cX11_measureDays 80 = .ok (.invokevirtual 414, 3) := by decide +kernel
theorem dX11_measureDays_83 : decode cX11_measureDays 83 = .ok (.iinc 1 1, 3) := by decide +kernel
theorem dX11_measureDays_86 : decode cX11_measureDays 86 = .ok (.goto (-77), 3) := by decide +kernel
theorem dX11_measureDays_89 : decode cX11_measureDays 89 = .ok (.return_, 1) := by decide +kernel
theorem dX11_weighed_0 : decode cX11_weighed 0 = .ok (.aload_n 0, 1) := by decide +kernel
theorem dX11_weighed_1 : decode cX11_weighed 1 = .ok (.getfield 33, 3) := by decide +kernel
theorem dX11_weighed_4 : decode cX11_weighed 4 = .ok (.iload_n 1, 1) := by decide +kernel
theorem dX11_weighed_5 : decode cX11_weighed 5 = .ok (.invokevirtual 371, 3) := by decide +kernel
theorem dX11_weighed_8 : decode cX11_weighed 8 = .ok (.ifCond .eq 14, 3) := by decide +kernel
theorem dX11_weighed_11 : decode cX11_weighed 11 = .ok (.iload_n 2, 1) := by decide +kernel
theorem dX11_weighed_12 : decode cX11_weighed 12 = .ok (.ifCond .lt 10, 3) := by decide +kernel
theorem dX11_weighed_15 : decode cX11_weighed 15 = .ok (.iload_n 2, 1) := by decide +kernel
theorem dX11_weighed_16 : decode cX11_weighed 16 = .ok (.sipush 9999, 3) := by decide +kernel
theorem dX11_weighed_19 : decode cX11_weighed 19 = .ok (.if_icmp .le 5, 3) := by decide +kernel
theorem dX11_weighed_22 : decode cX11_weighed 22 = .ok (.iconst (-1), 1) := by decide +kernel
theorem dX11_weighed_23 : decode cX11_weighed 23 = .ok (.ireturn, 1) := by decide +kernel
theorem dX11_weighed_24 : decode cX11_weighed 24 = .ok (.aload_n 0, 1) := by decide +kernel
theorem dX11_weighed_25 : decode cX11_weighed 25 = .ok (.getfield 56, 3) := by decide +kernel
theorem dX11_weighed_28 : decode cX11_weighed 28 = .ok (.iload_n 1, 1) := by decide +kernel
theorem dX11_weighed_29 : decode cX11_weighed 29 = .ok (.iload_n 2, 1) := by decide +kernel
theorem dX11_weighed_30 : decode cX11_weighed 30 = .ok (.invokevirtual 418, 3) := by decide +kernel
theorem dX11_weighed_33 : decode cX11_weighed 33 = .ok (.ifCond .eq 13, 3) := by decide +kernel
theorem dX11_weighed_36 : decode cX11_weighed 36 = .ok (.aload_n 0, 1) := by decide +kernel
theorem dX11_weighed_37 : decode cX11_weighed 37 = .ok (.getfield 56, 3) := by decide +kernel
theorem dX11_weighed_40 : decode cX11_weighed 40 = .ok (.getfield 422, 3) := by decide +kernel
theorem dX11_weighed_43 : decode cX11_weighed 43 = .ok (.goto 4, 3) := by decide +kernel
theorem dX11_weighed_46 : decode cX11_weighed 46 = .ok (.iconst (-1), 1) := by decide +kernel
theorem dX11_weighed_47 : decode cX11_weighed 47 = .ok (.ireturn, 1) := by decide +kernel
theorem dX11_forget_0 : decode cX11_forget 0 = .ok (.aload_n 0, 1) := by decide +kernel
theorem dX11_forget_1 : decode cX11_forget 1 = .ok (.getfield 56, 3) := by decide +kernel
theorem dX11_forget_4 : decode cX11_forget 4 = .ok (.getfield 422, 3) := by decide +kernel
theorem dX11_forget_7 : decode cX11_forget 7 = .ok (.istore_n 1, 1) := by decide +kernel
theorem dX11_forget_8 : decode cX11_forget 8 = .ok (.aload_n 0, 1) := by decide +kernel
theorem dX11_forget_9 : decode cX11_forget 9 = .ok (.getfield 56, 3) := by decide +kernel
theorem dX11_forget_12 : decode cX11_forget 12 = .ok (.iconst 0, 1) := by decide +kernel
theorem dX11_forget_13 : decode cX11_forget 13 = .ok (.putfield 422, 3) := by decide +kernel
theorem dX11_forget_16 : decode cX11_forget 16 = .ok (.iload_n 1, 1) := by decide +kernel
theorem dX11_forget_17 : decode cX11_forget 17 = .ok (.ireturn, 1) := by decide +kernel
theorem dX11_rubble_0 : decode cX11_rubble 0 = .ok (.aload_n 0, 1) := by decide +kernel
theorem dX11_rubble_1 : decode cX11_rubble 1 = .ok (.getfield 56, 3) := by decide +kernel
theorem dX11_rubble_4 : decode cX11_rubble 4 = .ok (.invokevirtual 423, 3) := by decide +kernel
theorem dX11_rubble_7 : decode cX11_rubble 7 = .ok (.aload_n 0, 1) := by decide +kernel
theorem dX11_rubble_8 : decode cX11_rubble 8 = .ok (.invokevirtual 380, 3) := by decide +kernel
theorem dX11_rubble_11 : decode cX11_rubble 11 = .ok (.iconst 0, 1) := by decide +kernel
theorem dX11_rubble_12 : decode cX11_rubble 12 = .ok (.istore_n 1, 1) := by decide +kernel
theorem dX11_rubble_13 : decode cX11_rubble 13 = .ok (.iload_n 1, 1) := by decide +kernel
theorem dX11_rubble_14 : decode cX11_rubble 14 = .ok (.aload_n 0, 1) := by decide +kernel
theorem dX11_rubble_15 : decode cX11_rubble 15 = .ok (.getfield 33, 3) := by decide +kernel
theorem dX11_rubble_18 : decode cX11_rubble 18 = .ok (.getfield 113, 3) := by decide +kernel
theorem dX11_rubble_21 : decode cX11_rubble 21 = .ok (.if_icmp .ge 54, 3) := by decide +kernel
theorem dX11_rubble_24 : decode cX11_rubble 24 = .ok (.aload_n 0, 1) := by decide +kernel
theorem dX11_rubble_25 : decode cX11_rubble 25 = .ok (.getfield 56, 3) := by decide +kernel
theorem dX11_rubble_28 : decode cX11_rubble 28 = .ok (.iconst 1, 1) := by decide +kernel
theorem dX11_rubble_29 : decode cX11_rubble 29 = .ok (.iload_n 1, 1) := by decide +kernel
theorem dX11_rubble_30 : decode cX11_rubble 30 = .ok (.ishl, 1) := by decide +kernel
theorem dX11_rubble_31 : decode cX11_rubble 31 = .ok (.invokevirtual 426, 3) := by decide +kernel
theorem dX11_rubble_34 : decode cX11_rubble 34 = .ok (.ifCond .le 35, 3) := by decide +kernel
theorem dX11_rubble_37 : decode cX11_rubble 37 = .ok (.aload_n 0, 1) := by decide +kernel
theorem dX11_rubble_38 : decode cX11_rubble 38 = .ok (.iload_n 1, 1) := by decide +kernel
theorem dX11_rubble_39 : decode cX11_rubble 39 = .ok (.i2l, 1) := by decide +kernel
theorem dX11_rubble_40 : decode cX11_rubble 40 = .ok (.invokevirtual 229, 3) := by decide +kernel
theorem dX11_rubble_43 : decode cX11_rubble 43 = .ok (.aload_n 0, 1) := by decide +kernel
theorem dX11_rubble_44 : decode cX11_rubble 44 = .ok (.lconst 0, 1) := by decide +kernel
theorem dX11_rubble_45 : decode cX11_rubble 45 = .ok (.invokevirtual 236, 3) := by decide +kernel
theorem dX11_rubble_48 : decode cX11_rubble 48 = .ok (.aload_n 0, 1) := by decide +kernel
theorem dX11_rubble_49 : decode cX11_rubble 49 = .ok (.lconst 0, 1) := by decide +kernel
theorem dX11_rubble_50 : decode cX11_rubble 50 = .ok (.invokevirtual 236, 3) := by decide +kernel
theorem dX11_rubble_53 : decode cX11_rubble 53 = .ok (.aload_n 0, 1) := by decide +kernel
theorem dX11_rubble_54 : decode cX11_rubble 54 = .ok (.aload_n 0, 1) := by decide +kernel
theorem dX11_rubble_55 : decode cX11_rubble 55 = .ok (.getfield 56, 3) := by decide +kernel
theorem dX11_rubble_58 : decode cX11_rubble 58 = .ok (.iload_n 1, 1) := by decide +kernel
theorem dX11_rubble_59 : decode cX11_rubble 59 = .ok (.invokevirtual 429, 3) := by decide +kernel
theorem dX11_rubble_62 : decode cX11_rubble 62 = .ok (.i2l, 1) := by decide +kernel
theorem dX11_rubble_63 : decode cX11_rubble 63 = .ok (.invokevirtual 236, 3) := by decide +kernel
theorem dX11_rubble_66 : decode cX11_rubble 66 = .ok (.goto 9, 3) := by decide +kernel
theorem dX11_rubble_69 : decode cX11_rubble 69 = .ok (.iinc 1 1, 3) := by decide +kernel
theorem dX11_rubble_72 : decode cX11_rubble 72 = .ok (.goto (-59), 3) := by decide +kernel
theorem dX11_rubble_75 : decode cX11_rubble 75 = .ok (.aload_n 0, 1) := by decide +kernel
theorem dX11_rubble_76 : decode cX11_rubble 76 = .ok (.getfield 56, 3) := by decide +kernel
theorem dX11_rubble_79 : decode cX11_rubble 79 = .ok (.iconst 1, 1) := by decide +kernel
theorem dX11_rubble_80 : decode cX11_rubble 80 = .ok (.aload_n 0, 1) := by decide +kernel
theorem dX11_rubble_81 : decode cX11_rubble 81 = .ok (.getfield 33, 3) := by decide +kernel
theorem dX11_rubble_84 : decode cX11_rubble 84 = .ok (.getfield 113, 3) := by decide +kernel
theorem dX11_rubble_87 : decode cX11_rubble 87 = .ok (.ishl, 1) := by decide +kernel
theorem dX11_rubble_88 : decode cX11_rubble 88 = .ok (.iconst 1, 1) := by decide +kernel
theorem dX11_rubble_89 : decode cX11_rubble 89 = .ok (.isub, 1) := by decide +kernel
theorem dX11_rubble_90 : decode cX11_rubble 90 = .ok (.invokevirtual 426, 3) := by decide +kernel
theorem dX11_rubble_93 : decode cX11_rubble 93 = .ok (.ireturn, 1) := by decide +kernel
theorem dX11_whose_0 : decode cX11_whose 0 = .ok (.aload_n 0, 1) := by decide +kernel
theorem dX11_whose_1 : decode cX11_whose 1 = .ok (.getfield 56, 3) := by decide +kernel
theorem dX11_whose_4 : decode cX11_whose 4 = .ok (.invokevirtual 423, 3) := by decide +kernel
theorem dX11_whose_7 : decode cX11_whose 7 = .ok (.iconst 0, 1) := by decide +kernel
theorem dX11_whose_8 : decode cX11_whose 8 = .ok (.istore_n 1, 1) := by decide +kernel
theorem dX11_whose_9 : decode cX11_whose 9 = .ok (.iconst 0, 1) := by decide +kernel
theorem dX11_whose_10 : decode cX11_whose 10 = .ok (.istore_n 2, 1) := by decide +kernel
theorem dX11_whose_11 : decode cX11_whose 11 = .ok (.iload_n 2, 1) := by decide +kernel
theorem dX11_whose_12 : decode cX11_whose 12 = .ok (.aload_n 0, 1) := by decide +kernel
theorem dX11_whose_13 : decode cX11_whose 13 = .ok (.getfield 33, 3) := by decide +kernel
theorem dX11_whose_16 : decode cX11_whose 16 = .ok (.getfield 113, 3) := by decide +kernel
theorem dX11_whose_19 : decode cX11_whose 19 = .ok (.if_icmp .ge 28, 3) := by decide +kernel
theorem dX11_whose_22 : decode cX11_whose 22 = .ok (.aload_n 0, 1) := by decide +kernel
theorem dX11_whose_23 : decode cX11_whose 23 = .ok (.getfield 56, 3) := by decide +kernel
theorem dX11_whose_26 : decode cX11_whose 26 = .ok (.iconst 1, 1) := by decide +kernel
theorem dX11_whose_27 : decode cX11_whose 27 = .ok (.iload_n 2, 1) := by decide +kernel
theorem dX11_whose_28 : decode cX11_whose 28 = .ok (.ishl, 1) := by decide +kernel
theorem dX11_whose_29 : decode cX11_whose 29 = .ok (.invokevirtual 426, 3) := by decide +kernel
theorem dX11_whose_32 : decode cX11_whose 32 = .ok (.ifCond .le 9, 3) := by decide +kernel
theorem dX11_whose_35 : decode cX11_whose 35 = .ok (.iload_n 1, 1) := by decide +kernel
theorem dX11_whose_36 : decode cX11_whose 36 = .ok (.iconst 1, 1) := by decide +kernel
theorem dX11_whose_37 : decode cX11_whose 37 = .ok (.iload_n 2, 1) := by decide +kernel
theorem dX11_whose_38 : decode cX11_whose 38 = .ok (.ishl, 1) := by decide +kernel
theorem dX11_whose_39 : decode cX11_whose 39 = .ok (.ior, 1) := by decide +kernel
theorem dX11_whose_40 : decode cX11_whose 40 = .ok (.istore_n 1, 1) := by decide +kernel
theorem dX11_whose_41 : decode cX11_whose 41 = .ok (.iinc 2 1, 3) := by decide +kernel
theorem dX11_whose_44 : decode cX11_whose 44 = .ok (.goto (-33), 3) := by decide +kernel
theorem dX11_whose_47 : decode cX11_whose 47 = .ok (.aload_n 0, 1) := by decide +kernel
theorem dX11_whose_48 : decode cX11_whose 48 = .ok (.aload_n 0, 1) := by decide +kernel
theorem dX11_whose_49 : decode cX11_whose 49 = .ok (.getfield 56, 3) := by decide +kernel
theorem dX11_whose_52 : decode cX11_whose 52 = .ok (.getfield 432, 3) := by decide +kernel
theorem dX11_whose_55 : decode cX11_whose 55 = .ok (.ifCond .eq 7, 3) := by decide +kernel
theorem dX11_whose_58 : decode cX11_whose 58 = .ok (.lconst 1, 1) := by decide +kernel
theorem dX11_whose_59 : decode cX11_whose 59 = .ok (.goto 4, 3) := by decide +kernel
theorem dX11_whose_62 : decode cX11_whose 62 = .ok (.lconst 0, 1) := by decide +kernel
theorem dX11_whose_63 : decode cX11_whose 63 = .ok (.invokevirtual 229, 3) := by decide +kernel
theorem dX11_whose_66 : decode cX11_whose 66 = .ok (.iload_n 1, 1) := by decide +kernel
theorem dX11_whose_67 : decode cX11_whose 67 = .ok (.ireturn, 1) := by decide +kernel
theorem dX11_next_0 : decode cX11_next 0 = .ok (.aload_n 0, 1) := by decide +kernel
theorem dX11_next_1 : decode cX11_next 1 = .ok (.getfield 56, 3) := by decide +kernel
theorem dX11_next_4 : decode cX11_next 4 = .ok (.invokevirtual 423, 3) := by decide +kernel
theorem dX11_next_7 : decode cX11_next 7 = .ok (.aload_n 0, 1) := by decide +kernel
theorem dX11_next_8 : decode cX11_next 8 = .ok (.getfield 56, 3) := by decide +kernel
theorem dX11_next_11 : decode cX11_next 11 = .ok (.iconst 1, 1) := by decide +kernel
theorem dX11_next_12 : decode cX11_next 12 = .ok (.aload_n 0, 1) := by decide +kernel
theorem dX11_next_13 : decode cX11_next 13 = .ok (.getfield 33, 3) := by decide +kernel
theorem dX11_next_16 : decode cX11_next 16 = .ok (.getfield 113, 3) := by decide +kernel
theorem dX11_next_19 : decode cX11_next 19 = .ok (.ishl, 1) := by decide +kernel
theorem dX11_next_20 : decode cX11_next 20 = .ok (.iconst 1, 1) := by decide +kernel
theorem dX11_next_21 : decode cX11_next 21 = .ok (.isub, 1) := by decide +kernel
theorem dX11_next_22 : decode cX11_next 22 = .ok (.invokevirtual 426, 3) := by decide +kernel
theorem dX11_next_25 : decode cX11_next 25 = .ok (.istore_n 1, 1) := by decide +kernel
theorem dX11_next_26 : decode cX11_next 26 = .ok (.iload_n 1, 1) := by decide +kernel
theorem dX11_next_27 : decode cX11_next 27 = .ok (.ifCond .ne 6, 3) := by decide +kernel
theorem dX11_next_30 : decode cX11_next 30 = .ok (.bipush (-2), 2) := by decide +kernel
theorem dX11_next_32 : decode cX11_next 32 = .ok (.ireturn, 1) := by decide +kernel
theorem dX11_next_33 : decode cX11_next 33 = .ok (.iload_n 1, 1) := by decide +kernel
theorem dX11_next_34 : decode cX11_next 34 = .ok (.istore_n 2, 1) := by decide +kernel
theorem dX11_next_35 : decode cX11_next 35 = .ok (.iconst 0, 1) := by decide +kernel
theorem dX11_next_36 : decode cX11_next 36 = .ok (.istore_n 3, 1) := by decide +kernel
theorem dX11_next_37 : decode cX11_next 37 = .ok (.iconst 1, 1) := by decide +kernel
theorem dX11_next_38 : decode cX11_next 38 = .ok (.istore 4, 2) := by decide +kernel
theorem dX11_next_40 : decode cX11_next 40 = .ok (.iload 4, 2) := by decide +kernel
theorem dX11_next_42 : decode cX11_next 42 = .ok (.iconst 1, 1) := by decide +kernel
theorem dX11_next_43 : decode cX11_next 43 = .ok (.aload_n 0, 1) := by decide +kernel
theorem dX11_next_44 : decode cX11_next 44 = .ok (.getfield 33, 3) := by decide +kernel
theorem dX11_next_47 : decode cX11_next 47 = .ok (.getfield 113, 3) := by decide +kernel
theorem dX11_next_50 : decode cX11_next 50 = .ok (.ishl, 1) := by decide +kernel
theorem dX11_next_51 : decode cX11_next 51 = .ok (.if_icmp .ge 43, 3) := by decide +kernel
theorem dX11_next_54 : decode cX11_next 54 = .ok (.aload_n 0, 1) := by decide +kernel
theorem dX11_next_55 : decode cX11_next 55 = .ok (.getfield 56, 3) := by decide +kernel
theorem dX11_next_58 : decode cX11_next 58 = .ok (.iload 4, 2) := by decide +kernel
theorem dX11_next_60 : decode cX11_next 60 = .ok (.invokevirtual 426, 3) := by decide +kernel
theorem dX11_next_63 : decode cX11_next 63 = .ok (.istore 5, 2) := by decide +kernel
theorem dX11_next_65 : decode cX11_next 65 = .ok (.iload 5, 2) := by decide +kernel
theorem dX11_next_67 : decode cX11_next 67 = .ok (.iload_n 1, 1) := by decide +kernel
theorem dX11_next_68 : decode cX11_next 68 = .ok (.iload 5, 2) := by decide +kernel
theorem dX11_next_70 : decode cX11_next 70 = .ok (.isub, 1) := by decide +kernel
theorem dX11_next_71 : decode cX11_next 71 = .ok (.invokestatic 397, 3) := by decide +kernel
theorem dX11_next_74 : decode cX11_next 74 = .ok (.istore 6, 2) := by decide +kernel
theorem dX11_next_76 : decode cX11_next 76 = .ok (.iload 6, 2) := by decide +kernel
theorem dX11_next_78 : decode cX11_next 78 = .ok (.iload_n 2, 1) := by decide +kernel
theorem dX11_next_79 : decode cX11_next 79 = .ok (.if_icmp .ge 9, 3) := by decide +kernel
theorem dX11_next_82 : decode cX11_next 82 = .ok (.iload 6, 2) := by decide +kernel
theorem dX11_next_84 : decode cX11_next 84 = .ok (.istore_n 2, 1) := by decide +kernel
theorem dX11_next_85 : decode cX11_next 85 = .ok (.iload 4, 2) := by decide +kernel
theorem dX11_next_87 : decode cX11_next 87 = .ok (.istore_n 3, 1) := by decide +kernel
theorem dX11_next_88 : decode cX11_next 88 = .ok (.iinc 4 1, 3) := by decide +kernel
theorem dX11_next_91 : decode cX11_next 91 = .ok (.goto (-51), 3) := by decide +kernel
theorem dX11_next_94 : decode cX11_next 94 = .ok (.aload_n 0, 1) := by decide +kernel
theorem dX11_next_95 : decode cX11_next 95 = .ok (.iload_n 2, 1) := by decide +kernel
theorem dX11_next_96 : decode cX11_next 96 = .ok (.i2l, 1) := by decide +kernel
theorem dX11_next_97 : decode cX11_next 97 = .ok (.invokevirtual 229, 3) := by decide +kernel
theorem dX11_next_100 : decode cX11_next 100 = .ok (.iload_n 3, 1) := by decide +kernel
theorem dX11_next_101 : decode cX11_next 101 = .ok (.ireturn, 1) := by decide +kernel
theorem dX11_right_0 : decode cX11_right 0 = .ok (.aload_n 0, 1) := by decide +kernel
theorem dX11_right_1 : decode cX11_right 1 = .ok (.getfield 33, 3) := by decide +kernel
theorem dX11_right_4 : decode cX11_right 4 = .ok (.iload_n 1, 1) := by decide +kernel
theorem dX11_right_5 : decode cX11_right 5 = .ok (.invokevirtual 133, 3) := by decide +kernel
theorem dX11_right_8 : decode cX11_right 8 = .ok (.ifnull 13, 3) := by decide +kernel
theorem dX11_right_11 : decode cX11_right 11 = .ok (.iload_n 2, 1) := by decide +kernel
theorem dX11_right_12 : decode cX11_right 12 = .ok (.ifCond .lt 9, 3) := by decide +kernel
theorem dX11_right_15 : decode cX11_right 15 = .ok (.iload_n 2, 1) := by decide +kernel
theorem dX11_right_16 : decode cX11_right 16 = .ok (.bipush 10, 2) := by decide +kernel
theorem dX11_right_18 : decode cX11_right 18 = .ok (.if_icmp .le 5, 3) := by decide +kernel
theorem dX11_right_21 : decode cX11_right 21 = .ok (.iconst (-1), 1) := by decide +kernel
theorem dX11_right_22 : decode cX11_right 22 = .ok (.ireturn, 1) := by decide +kernel
theorem dX11_right_23 : decode cX11_right 23 = .ok (.aload_n 0, 1) := by decide +kernel
theorem dX11_right_24 : decode cX11_right 24 = .ok (.getfield 40, 3) := by decide +kernel
theorem dX11_right_27 : decode cX11_right 27 = .ok (.iload_n 1, 1) := by decide +kernel
theorem dX11_right_28 : decode cX11_right 28 = .ok (.invokevirtual 168, 3) := by decide +kernel
theorem dX11_right_31 : decode cX11_right 31 = .ok (.invokestatic 171, 3) := by decide +kernel
theorem dX11_right_34 : decode cX11_right 34 = .ok (.istore_n 3, 1) := by decide +kernel
theorem dX11_right_35 : decode cX11_right 35 = .ok (.iload_n 2, 1) := by decide +kernel
theorem dX11_right_36 : decode cX11_right 36 = .ok (.iload_n 3, 1) := by decide +kernel
theorem dX11_right_37 : decode cX11_right 37 = .ok (.invokestatic 435, 3) := by decide +kernel
theorem dX11_right_40 : decode cX11_right 40 = .ok (.lstore 4, 2) := by decide +kernel
theorem dX11_right_42 : decode cX11_right 42 = .ok (.bipush 10, 2) := by decide +kernel
theorem dX11_right_44 : decode cX11_right 44 = .ok (.iload_n 3, 1) := by decide +kernel
theorem dX11_right_45 : decode cX11_right 45 = .ok (.invokestatic 435, 3) := by decide +kernel
theorem dX11_right_48 : decode cX11_right 48 = .ok (.lstore 6, 2) := by decide +kernel
theorem dX11_right_50 : decode cX11_right 50 = .ok (.lload 6, 2) := by decide +kernel
theorem dX11_right_52 : decode cX11_right 52 = .ok (.lload 4, 2) := by decide +kernel
theorem dX11_right_54 : decode cX11_right 54 = .ok (.invokestatic 439, 3) := by decide +kernel
theorem dX11_right_57 : decode cX11_right 57 = .ok (.lstore 8, 2) := by decide +kernel
theorem dX11_right_59 : decode cX11_right 59 = .ok (.lload 8, 2) := by decide +kernel
theorem dX11_right_61 : decode cX11_right 61 = .ok (.lconst 0, 1) := by decide +kernel
theorem dX11_right_62 : decode cX11_right 62 = .ok (.lcmp, 1) := by decide +kernel
theorem dX11_right_63 : decode cX11_right 63 = .ok (.ifCond .le 17, 3) := by decide +kernel
theorem dX11_right_66 : decode cX11_right 66 = .ok (.lload 4, 2) := by decide +kernel
theorem dX11_right_68 : decode cX11_right 68 = .ok (.lload 8, 2) := by decide +kernel
theorem dX11_right_70 : decode cX11_right 70 = .ok (.ldiv, 1) := by decide +kernel
theorem dX11_right_71 : decode cX11_right 71 = .ok (.lstore 4, 2) := by decide +kernel
theorem dX11_right_73 : decode cX11_right 73 = .ok (.lload 6, 2) := by decide +kernel
theorem dX11_right_75 : decode cX11_right 75 = .ok (.lload 8, 2) := by decide +kernel
theorem dX11_right_77 : decode cX11_right 77 = .ok (.ldiv, 1) := by decide +kernel
theorem dX11_right_78 : decode cX11_right 78 = .ok (.lstore 6, 2) := by decide +kernel
theorem dX11_right_80 : decode cX11_right 80 = .ok (.aload_n 0, 1) := by decide +kernel
theorem dX11_right_81 : decode cX11_right 81 = .ok (.lload 4, 2) := by decide +kernel
theorem dX11_right_83 : decode cX11_right 83 = .ok (.invokevirtual 229, 3) := by decide +kernel
theorem dX11_right_86 : decode cX11_right 86 = .ok (.aload_n 0, 1) := by decide +kernel
theorem dX11_right_87 : decode cX11_right 87 = .ok (.lload 6, 2) := by decide +kernel
theorem dX11_right_89 : decode cX11_right 89 = .ok (.invokevirtual 236, 3) := by decide +kernel
theorem dX11_right_92 : decode cX11_right 92 = .ok (.iconst 0, 1) := by decide +kernel
theorem dX11_right_93 : decode cX11_right 93 = .ok (.ireturn, 1) := by decide +kernel
theorem dX11_care_0 : decode cX11_care 0 = .ok (.aload_n 0, 1) := by decide +kernel
theorem dX11_care_1 : decode cX11_care 1 = .ok (.getfield 33, 3) := by decide +kernel
theorem dX11_care_4 : decode cX11_care 4 = .ok (.iload_n 1, 1) := by decide +kernel
theorem dX11_care_5 : decode cX11_care 5 = .ok (.invokevirtual 133, 3) := by decide +kernel
theorem dX11_care_8 : decode cX11_care 8 = .ok (.ifnull 13, 3) := by decide +kernel
theorem dX11_care_11 : decode cX11_care 11 = .ok (.iload_n 2, 1) := by decide +kernel
theorem dX11_care_12 : decode cX11_care 12 = .ok (.ifCond .lt 9, 3) := by decide +kernel
theorem dX11_care_15 : decode cX11_care 15 = .ok (.iload_n 2, 1) := by decide +kernel
theorem dX11_care_16 : decode cX11_care 16 = .ok (.bipush 100, 2) := by decide +kernel
theorem dX11_care_18 : decode cX11_care 18 = .ok (.if_icmp .le 5, 3) := by decide +kernel
theorem dX11_care_21 : decode cX11_care 21 = .ok (.iconst (-1), 1) := by decide +kernel
theorem dX11_care_22 : decode cX11_care 22 = .ok (.ireturn, 1) := by decide +kernel
theorem dX11_care_23 : decode cX11_care 23 = .ok (.aload_n 0, 1) := by decide +kernel
theorem dX11_care_24 : decode cX11_care 24 = .ok (.getfield 40, 3) := by decide +kernel
theorem dX11_care_27 : decode cX11_care 27 = .ok (.iload_n 1, 1) := by decide +kernel
theorem dX11_care_28 : decode cX11_care 28 = .ok (.invokevirtual 168, 3) := by decide +kernel
theorem dX11_care_31 : decode cX11_care 31 = .ok (.invokestatic 171, 3) := by decide +kernel
theorem dX11_care_34 : decode cX11_care 34 = .ok (.istore_n 3, 1) := by decide +kernel
theorem dX11_care_35 : decode cX11_care 35 = .ok (.iconst 0, 1) := by decide +kernel
theorem dX11_care_36 : decode cX11_care 36 = .ok (.istore 4, 2) := by decide +kernel
theorem dX11_care_38 : decode cX11_care 38 = .ok (.iload 4, 2) := by decide +kernel
theorem dX11_care_40 : decode cX11_care 40 = .ok (.bipush 10, 2) := by decide +kernel
theorem dX11_care_42 : decode cX11_care 42 = .ok (.if_icmp .ge 35, 3) := by decide +kernel
theorem dX11_care_45 : decode cX11_care 45 = .ok (.iload 4, 2) := by decide +kernel
theorem dX11_care_47 : decode cX11_care 47 = .ok (.iload_n 3, 1) := by decide +kernel
theorem dX11_care_48 : decode cX11_care 48 = .ok (.invokestatic 435, 3) := by decide +kernel
theorem dX11_care_51 : decode cX11_care 51 = .ok (.ldc2_w 443, 3) := by decide +kernel
theorem dX11_care_54 : decode cX11_care 54 = .ok (.lmul, 1) := by decide +kernel
theorem dX11_care_55 : decode cX11_care 55 = .ok (.bipush 10, 2) := by decide +kernel
theorem dX11_care_57 : decode cX11_care 57 = .ok (.iload_n 3, 1) := by decide +kernel
theorem dX11_care_58 : decode cX11_care 58 = .ok (.invokestatic 435, 3) := by decide +kernel
theorem dX11_care_61 : decode cX11_care 61 = .ok (.iload_n 2, 1) := by decide +kernel
theorem dX11_care_62 : decode cX11_care 62 = .ok (.i2l, 1) := by decide +kernel
theorem dX11_care_63 : decode cX11_care 63 = .ok (.lmul, 1) := by decide +kernel
theorem dX11_care_64 : decode cX11_care 64 = .ok (.lcmp, 1) := by decide +kernel
theorem dX11_care_65 : decode cX11_care 65 = .ok (.ifCond .lt 6, 3) := by decide +kernel
theorem dX11_care_68 : decode cX11_care 68 = .ok (.iload 4, 2) := by decide +kernel
theorem dX11_care_70 : decode cX11_care 70 = .ok (.ireturn, 1) := by decide +kernel
theorem dX11_care_71 : decode cX11_care 71 = .ok (.iinc 4 1, 3) := by decide +kernel
theorem dX11_care_74 : decode cX11_care 74 = .ok (.goto (-36), 3) := by decide +kernel
theorem dX11_care_77 : decode cX11_care 77 = .ok (.bipush 10, 2) := by decide +kernel
theorem dX11_care_79 : decode cX11_care 79 = .ok (.ireturn, 1) := by decide +kernel
theorem dX11_weeks_0 : decode cX11_weeks 0 = .ok (.aload_n 0, 1) := by decide +kernel
theorem dX11_weeks_1 : decode cX11_weeks 1 = .ok (.getfield 33, 3) := by decide +kernel
theorem dX11_weeks_4 : decode cX11_weeks 4 = .ok (.getfield 113, 3) := by decide +kernel
theorem dX11_weeks_7 : decode cX11_weeks 7 = .ok (.ifCond .eq 24, 3) := by decide +kernel
theorem dX11_weeks_10 : decode cX11_weeks 10 = .ok (.iload_n 2, 1) := by decide +kernel
theorem dX11_weeks_11 : decode cX11_weeks 11 = .ok (.iconst 1, 1) := by decide +kernel
theorem dX11_weeks_12 : decode cX11_weeks 12 = .ok (.if_icmp .lt 19, 3) := by decide +kernel
theorem dX11_weeks_15 : decode cX11_weeks 15 = .ok (.iload_n 2, 1) := by decide +kernel
theorem dX11_weeks_16 : decode cX11_weeks 16 = .ok (.bipush 20, 2) := by decide +kernel
theorem dX11_weeks_18 : decode cX11_weeks 18 = .ok (.if_icmp .gt 13, 3) := by decide +kernel
theorem dX11_weeks_21 : decode cX11_weeks 21 = .ok (.iload_n 3, 1) := by decide +kernel
theorem dX11_weeks_22 : decode cX11_weeks 22 = .ok (.ifCond .lt 9, 3) := by decide +kernel
theorem dX11_weeks_25 : decode cX11_weeks 25 = .ok (.iload_n 3, 1) := by decide +kernel
theorem dX11_weeks_26 : decode cX11_weeks 26 = .ok (.bipush 10, 2) := by decide +kernel
theorem dX11_weeks_28 : decode cX11_weeks 28 = .ok (.if_icmp .le 5, 3) := by decide +kernel
theorem dX11_weeks_31 : decode cX11_weeks 31 = .ok (.iconst (-1), 1) := by decide +kernel
theorem dX11_weeks_32 : decode cX11_weeks 32 = .ok (.ireturn, 1) := by decide +kernel
theorem dX11_weeks_33 : decode cX11_weeks 33 = .ok (.aload_n 0, 1) := by decide +kernel
theorem dX11_weeks_34 : decode cX11_weeks 34 = .ok (.iload_n 1, 1) := by decide +kernel
theorem dX11_weeks_35 : decode cX11_weeks 35 = .ok (.putfield 445, 3) := by decide +kernel
theorem dX11_weeks_38 : decode cX11_weeks 38 = .ok (.aload_n 0, 1) := by decide +kernel
theorem dX11_weeks_39 : decode cX11_weeks 39 = .ok (.getfield 74, 3) := by decide +kernel
theorem dX11_weeks_42 : decode cX11_weeks 42 = .ok (.invokevirtual 448, 3) := by decide +kernel
theorem dX11_weeks_45 : decode cX11_weeks 45 = .ok (.iconst 0, 1) := by decide +kernel
theorem dX11_weeks_46 : decode cX11_weeks 46 = .ok (.istore 4, 2) := by decide +kernel
theorem dX11_weeks_48 : decode cX11_weeks 48 = .ok (.iconst (-1), 1) := by decide +kernel
theorem dX11_weeks_49 : decode cX11_weeks 49 = .ok (.istore 5, 2) := by decide +kernel
theorem dX11_weeks_51 : decode cX11_weeks 51 = .ok (.iconst (-1), 1) := by decide +kernel
theorem dX11_weeks_52 : decode cX11_weeks 52 = .ok (.istore 6, 2) := by decide +kernel
theorem dX11_weeks_54 : decode cX11_weeks 54 = .ok (.iconst 0, 1) := by decide +kernel
theorem dX11_weeks_55 : decode cX11_weeks 55 = .ok (.istore 7, 2) := by decide +kernel
theorem dX11_weeks_57 : decode cX11_weeks 57 = .ok (.iload 7, 2) := by decide +kernel
theorem dX11_weeks_59 : decode cX11_weeks 59 = .ok (.iload_n 2, 1) := by decide +kernel
theorem dX11_weeks_60 : decode cX11_weeks 60 = .ok (.if_icmp .ge 87, 3) := by decide +kernel
theorem dX11_weeks_63 : decode cX11_weeks 63 = .ok (.aload_n 0, 1) := by decide +kernel
theorem dX11_weeks_64 : decode cX11_weeks 64 = .ok (.getfield 74, 3) := by decide +kernel
theorem dX11_weeks_67 : decode cX11_weeks 67 = .ok (.aload_n 0, 1) := by decide +kernel
theorem dX11_weeks_68 : decode cX11_weeks 68 = .ok (.iload_n 3, 1) := by decide +kernel
theorem dX11_weeks_69 : decode cX11_weeks 69 = .ok (.invokevirtual 451, 3) := by decide +kernel
theorem dX11_weeks_72 : decode cX11_weeks 72 = .ok (.invokevirtual 355, 3) := by decide +kernel
theorem dX11_weeks_75 : decode cX11_weeks 75 = .ok (.aload_n 0, 1) := by decide +kernel
theorem dX11_weeks_76 : decode cX11_weeks 76 = .ok (.getfield 74, 3) := by decide +kernel
theorem dX11_weeks_79 : decode cX11_weeks 79 = .ok (.iconst 0, 1) := by decide +kernel
theorem dX11_weeks_80 : decode cX11_weeks 80 = .ok (.iconst 0, 1) := by decide +kernel
theorem dX11_weeks_81 : decode cX11_weeks 81 = .ok (.iconst 0, 1) := by decide +kernel
theorem dX11_weeks_82 : decode cX11_weeks 82 = .ok (.invokevirtual 359, 3) := by decide +kernel
theorem dX11_weeks_85 : decode cX11_weeks 85 = .ok (.aload_n 0, 1) := by decide +kernel
theorem dX11_weeks_86 : decode cX11_weeks 86 = .ok (.getfield 74, 3) := by decide +kernel
theorem dX11_weeks_89 : decode cX11_weeks 89 = .ok (.invokevirtual 363, 3) := by decide +kernel
theorem dX11_weeks_92 : decode cX11_weeks 92 = .ok (.ifCond .eq 49, 3) := by decide +kernel
theorem dX11_weeks_95 : decode cX11_weeks 95 = .ok (.iload 4, 2) := by decide +kernel
theorem dX11_weeks_97 : decode cX11_weeks 97 = .ok (.ifCond .ne 13, 3) := by decide +kernel
theorem dX11_weeks_100 : decode cX11_weeks 100 = .ok (.aload_n 0, 1) := by decide +kernel
theorem dX11_weeks_101 : decode cX11_weeks 101 = .ok (.getfield 74, 3) := by decide +kernel
theorem dX11_weeks_104 : decode cX11_weeks 104 = .ok (.getfield 370, 3) := by decide +kernel
theorem dX11_weeks_107 : decode cX11_weeks 107 = .ok (.goto 15, 3) := by decide +kernel
theorem dX11_weeks_110 : decode cX11_weeks 110 = .ok (.iload 5, 2) := by decide +kernel
theorem dX11_weeks_112 : decode cX11_weeks 112 = .ok (.aload_n 0, 1) := by decide +kernel
theorem dX11_weeks_113 : decode cX11_weeks 113 = .ok (.getfield 74, 3) := by decide +kernel
theorem dX11_weeks_116 : decode cX11_weeks 116 = .ok (.getfield 370, 3) := by decide +kernel
theorem dX11_weeks_119 : decode cX11_weeks 119 = .ok (.invokestatic 337, 3) := by decide +kernel
theorem dX11_weeks_122 : decode cX11_weeks 122 = .ok (.istore 5, 2) := by decide +kernel
theorem dX11_weeks_124 : decode cX11_weeks 124 = .ok (.iload 6, 2) := by decide +kernel
theorem dX11_weeks_126 : decode cX11_weeks 126 = .ok (.aload_n 0, 1) := by decide +kernel
theorem dX11_weeks_127 : decode cX11_weeks 127 = .ok (.getfield 74, 3) := by decide +kernel
theorem dX11_weeks_130 : decode cX11_weeks 130 = .ok (.getfield 370, 3) := by decide +kernel
theorem dX11_weeks_133 : decode cX11_weeks 133 = .ok (.invokestatic 397, 3) := by decide +kernel
theorem dX11_weeks_136 : decode cX11_weeks 136 = .ok (.istore 6, 2) := by decide +kernel
theorem dX11_weeks_138 : decode cX11_weeks 138 = .ok (.iinc 4 1, 3) := by decide +kernel
theorem dX11_weeks_141 : decode cX11_weeks 141 = .ok (.iinc 7 1, 3) := by decide +kernel
theorem dX11_weeks_144 : decode cX11_weeks 144 = .ok (.goto (-87), 3) := by decide +kernel
theorem dX11_weeks_147 : decode cX11_weeks 147 = .ok (.aload_n 0, 1) := by decide +kernel
theorem dX11_weeks_148 : decode cX11_weeks 148 = .ok (.iload 5, 2) := by decide +kernel
theorem dX11_weeks_150 : decode cX11_weeks 150 = .ok (.i2l, 1) := by decide +kernel
theorem dX11_weeks_151 : decode cX11_weeks 151 = .ok (.invokevirtual 229, 3) := by decide +kernel
theorem dX11_weeks_154 : decode cX11_weeks 154 = .ok (.aload_n 0, 1) := by decide +kernel
theorem dX11_weeks_155 : decode cX11_weeks 155 = .ok (.iload 6, 2) := by decide +kernel
theorem dX11_weeks_157 : decode cX11_weeks 157 = .ok (.i2l, 1) := by decide +kernel
theorem dX11_weeks_158 : decode cX11_weeks 158 = .ok (.invokevirtual 236, 3) := by decide +kernel
theorem dX11_weeks_161 : decode cX11_weeks 161 = .ok (.iload 4, 2) := by decide +kernel
theorem dX11_weeks_163 : decode cX11_weeks 163 = .ok (.ireturn, 1) := by decide +kernel
theorem dX11_drawOut_0 : decode cX11_drawOut 0 = .ok (.aload_n 0, 1) := by decide +kernel
theorem dX11_drawOut_1 : decode cX11_drawOut 1 = .ok (.getfield 74, 3) := by decide +kernel
theorem dX11_drawOut_4 : decode cX11_drawOut 4 = .ok (.getfield 455, 3) := by decide +kernel
theorem dX11_drawOut_7 : decode cX11_drawOut 7 = .ok (.astore_n 2, 1) := by decide +kernel
theorem dX11_drawOut_8 : decode cX11_drawOut 8 = .ok (.iconst 0, 1) := by decide +kernel
theorem dX11_drawOut_9 : decode cX11_drawOut 9 = .ok (.istore_n 3, 1) := by decide +kernel
theorem dX11_drawOut_10 : decode cX11_drawOut 10 = .ok (.iload_n 3, 1) := by decide +kernel
theorem dX11_drawOut_11 : decode cX11_drawOut 11 = .ok (.aload_n 0, 1) := by decide +kernel
theorem dX11_drawOut_12 : decode cX11_drawOut 12 = .ok (.getfield 33, 3) := by decide +kernel
theorem dX11_drawOut_15 : decode cX11_drawOut 15 = .ok (.getfield 113, 3) := by decide +kernel
theorem dX11_drawOut_18 : decode cX11_drawOut 18 = .ok (.if_icmp .ge 76, 3) := by decide +kernel
theorem dX11_drawOut_21 : decode cX11_drawOut 21 = .ok (.iload_n 3, 1) := by decide +kernel
theorem dX11_drawOut_22 : decode cX11_drawOut 22 = .ok (.aload_n 2, 1) := by decide +kernel
theorem dX11_drawOut_23 : decode cX11_drawOut 23 = .ok (.arraylength, 1) := by decide +kernel
theorem dX11_drawOut_24 : decode cX11_drawOut 24 = .ok (.if_icmp .ge 70, 3) := by decide +kernel
theorem dX11_drawOut_27 : decode cX11_drawOut 27 = .ok (.aload_n 0, 1) := by decide +kernel
theorem dX11_drawOut_28 : decode cX11_drawOut 28 = .ok (.getfield 33, 3) := by decide +kernel
theorem dX11_drawOut_31 : decode cX11_drawOut 31 = .ok (.iload_n 3, 1) := by decide +kernel
theorem dX11_drawOut_32 : decode cX11_drawOut 32 = .ok (.invokevirtual 123, 3) := by decide +kernel
theorem dX11_drawOut_35 : decode cX11_drawOut 35 = .ok (.istore 4, 2) := by decide +kernel
theorem dX11_drawOut_37 : decode cX11_drawOut 37 = .ok (.iconst 0, 1) := by decide +kernel
theorem dX11_drawOut_38 : decode cX11_drawOut 38 = .ok (.istore 5, 2) := by decide +kernel
theorem dX11_drawOut_40 : decode cX11_drawOut 40 = .ok (.iconst 0, 1) := by decide +kernel
theorem dX11_drawOut_41 : decode cX11_drawOut 41 = .ok (.istore 6, 2) := by decide +kernel
theorem dX11_drawOut_43 : decode cX11_drawOut 43 = .ok (.iload 6, 2) := by decide +kernel
theorem dX11_drawOut_45 : decode cX11_drawOut 45 = .ok (.bipush 16, 2) := by decide +kernel
theorem dX11_drawOut_47 : decode cX11_drawOut 47 = .ok (.if_icmp .ge 36, 3) := by decide +kernel
theorem dX11_drawOut_50 : decode cX11_drawOut 50 = .ok (.iload 4, 2) := by decide +kernel
theorem dX11_drawOut_52 : decode cX11_drawOut 52 = .ok (.iload 6, 2) := by decide +kernel
theorem dX11_drawOut_54 : decode cX11_drawOut 54 = .ok (.ishr, 1) := by decide +kernel
theorem dX11_drawOut_55 : decode cX11_drawOut 55 = .ok (.iconst 1, 1) := by decide +kernel
theorem dX11_drawOut_56 : decode cX11_drawOut 56 = .ok (.iand, 1) := by decide +kernel
theorem dX11_drawOut_57 : decode cX11_drawOut 57 = .ok (.ifCond .eq 20, 3) := by decide +kernel
theorem dX11_drawOut_60 : decode cX11_drawOut 60 = .ok (.aload_n 0, 1) := by decide +kernel
theorem dX11_drawOut_61 : decode cX11_drawOut 61 = .ok (.invokevirtual 458, 3) := by decide +kernel
theorem dX11_drawOut_64 : decode cX11_drawOut 64 = .ok (.iload_n 1, 1) := by decide +kernel
theorem dX11_drawOut_65 : decode cX11_drawOut 65 = .ok (.if_icmp .ge 12, 3) := by decide +kernel
theorem dX11_drawOut_68 : decode cX11_drawOut 68 = .ok (.iload 5, 2) := by decide +kernel
theorem dX11_drawOut_70 : decode cX11_drawOut 70 = .ok (.iconst 1, 1) := by decide +kernel
theorem dX11_drawOut_71 : decode cX11_drawOut 71 = .ok (.iload 6, 2) := by decide +kernel
theorem dX11_drawOut_73 : decode cX11_drawOut 73 = .ok (.ishl, 1) := by decide +kernel
theorem dX11_drawOut_74 : decode cX11_drawOut 74 = .ok (.ior, 1) := by decide +kernel
theorem dX11_drawOut_75 : decode cX11_drawOut 75 = .ok (.istore 5, 2) := by decide +kernel
theorem dX11_drawOut_77 : decode cX11_drawOut 77 = .ok (.iinc 6 1, 3) := by decide +kernel
theorem dX11_drawOut_80 : decode cX11_drawOut 80 = .ok (.goto (-37), 3) := by decide +kernel
theorem dX11_drawOut_83 : decode cX11_drawOut 83 = .ok (.aload_n 2, 1) := by decide +kernel
theorem dX11_drawOut_84 : decode cX11_drawOut 84 = .ok (.iload_n 3, 1) := by decide +kernel
theorem dX11_drawOut_85 : decode cX11_drawOut 85 = .ok (.iload 5, 2) := by decide +kernel
theorem dX11_drawOut_87 : decode cX11_drawOut 87 = .ok (.iastore, 1) := by decide +kernel
theorem dX11_drawOut_88 : decode cX11_drawOut 88 = .ok (.iinc 3 1, 3) := by decide +kernel
theorem dX11_drawOut_91 : decode cX11_drawOut 91 = .ok (.goto (-81), 3) := by decide +kernel
theorem dX11_drawOut_94 : decode cX11_drawOut 94 = .ok (.aload_n 2, 1) := by decide +kernel
theorem dX11_drawOut_95 : decode cX11_drawOut 95 = .ok (.areturn, 1) := by decide +kernel
theorem dX11_drawTenth_0 : decode cX11_drawTenth 0 = .ok (.aload_n 0, 1) := by decide +kernel
theorem dX11_drawTenth_1 : decode cX11_drawTenth 1 = .ok (.aload_n 0, 1) := by decide +kernel
theorem dX11_drawTenth_2 : decode cX11_drawTenth 2 = .ok (.getfield 445, 3) := by decide +kernel
theorem dX11_drawTenth_5 : decode cX11_drawTenth 5 = .ok (.ldc_w 461, 3) := by decide +kernel
theorem dX11_drawTenth_8 : decode cX11_drawTenth 8 = .ok (.imul, 1) := by decide +kernel
theorem dX11_drawTenth_9 : decode cX11_drawTenth 9 = .ok (.sipush 12345, 3) := by decide +kernel
theorem dX11_drawTenth_12 : decode cX11_drawTenth 12 = .ok (.iadd, 1) := by decide +kernel
theorem dX11_drawTenth_13 : decode cX11_drawTenth 13 = .ok (.putfield 445, 3) := by decide +kernel
theorem dX11_drawTenth_16 : decode cX11_drawTenth 16 = .ok (.aload_n 0, 1) := by decide +kernel
theorem dX11_drawTenth_17 : decode cX11_drawTenth 17 = .ok (.getfield 445, 3) := by decide +kernel
theorem dX11_drawTenth_20 : decode cX11_drawTenth 20 = .ok (.bipush 16, 2) := by decide +kernel
theorem dX11_drawTenth_22 : decode cX11_drawTenth 22 = .ok (.iushr, 1) := by decide +kernel
theorem dX11_drawTenth_23 : decode cX11_drawTenth 23 = .ok (.bipush 10, 2) := by decide +kernel
theorem dX11_drawTenth_25 : decode cX11_drawTenth 25 = .ok (.irem, 1) := by decide +kernel
theorem dX11_drawTenth_26 : decode cX11_drawTenth 26 = .ok (.ireturn, 1) := by decide +kernel
theorem dX11_power_0 : decode cX11_power 0 = .ok (.lconst 1, 1) := by decide +kernel
theorem dX11_power_1 : decode cX11_power 1 = .ok (.lstore_n 2, 1) := by decide +kernel
theorem dX11_power_2 : decode cX11_power 2 = .ok (.iconst 0, 1) := by decide +kernel
theorem dX11_power_3 : decode cX11_power 3 = .ok (.istore 4, 2) := by decide +kernel
theorem dX11_power_5 : decode cX11_power 5 = .ok (.iload 4, 2) := by decide +kernel
theorem dX11_power_7 : decode cX11_power 7 = .ok (.iload_n 1, 1) := by decide +kernel
theorem dX11_power_8 : decode cX11_power 8 = .ok (.if_icmp .ge 14, 3) := by decide +kernel
theorem dX11_power_11 : decode cX11_power 11 = .ok (.lload_n 2, 1) := by decide +kernel
theorem dX11_power_12 : decode cX11_power 12 = .ok (.iload_n 0, 1) := by decide +kernel
theorem dX11_power_13 : decode cX11_power 13 = .ok (.i2l, 1) := by decide +kernel
theorem dX11_power_14 : decode cX11_power 14 = .ok (.lmul, 1) := by decide +kernel
theorem dX11_power_15 : decode cX11_power 15 = .ok (.lstore_n 2, 1) := by decide +kernel
theorem dX11_power_16 : decode cX11_power 16 = .ok (.iinc 4 1, 3) := by decide +kernel
theorem dX11_power_19 : decode cX11_power 19 = .ok (.goto (-14), 3) := by decide +kernel
theorem dX11_power_22 : decode cX11_power 22 = .ok (.lload_n 2, 1) := by decide +kernel
theorem dX11_power_23 : decode cX11_power 23 = .ok (.lreturn, 1) := by decide +kernel
theorem dX11_commonDivisor_0 : decode cX11_commonDivisor 0 = .ok (.lload_n 0, 1) := by decide +kernel
theorem dX11_commonDivisor_1 : decode cX11_commonDivisor 1 = .ok (.lstore 4, 2) := by decide +kernel
theorem dX11_commonDivisor_3 : decode cX11_commonDivisor 3 = .ok (.lload_n 2, 1) := by decide +kernel
theorem dX11_commonDivisor_4 : decode cX11_commonDivisor 4 = .ok (.lstore 6, 2) := by decide +kernel
theorem dX11_commonDivisor_6 : decode cX11_commonDivisor 6 = .ok (.iconst 0, 1) := by decide +kernel
theorem dX11_commonDivisor_7 : decode cX11_commonDivisor 7 = .ok (.istore 8, 2) := by decide +kernel
theorem dX11_commonDivisor_9 : decode cX11_commonDivisor 9 = .ok (.iload 8, 2) := by decide +kernel
theorem dX11_commonDivisor_11 : decode cX11_commonDivisor 11 = .ok (.bipush 100, 2) := by decide +kernel
theorem dX11_commonDivisor_13 : decode cX11_commonDivisor 13 = .ok (.if_icmp .ge 31, 3) := by decide +kernel
theorem dX11_commonDivisor_16 : decode cX11_commonDivisor 16 = .ok (.lload 6, 2) := by decide +kernel
theorem dX11_commonDivisor_18 : decode cX11_commonDivisor 18 = .ok (.lconst 0, 1) := by decide +kernel
theorem dX11_commonDivisor_19 : decode cX11_commonDivisor 19 = .ok (.lcmp, 1) := by decide +kernel
theorem dX11_commonDivisor_20 : decode cX11_commonDivisor 20 = .ok (.ifCond .eq 24, 3) := by decide +kernel
theorem dX11_commonDivisor_23 : decode cX11_commonDivisor 23 = .ok (.lload 4, 2) := by decide +kernel
theorem dX11_commonDivisor_25 : decode cX11_commonDivisor 25 = .ok (.lload 6, 2) := by decide +kernel
theorem dX11_commonDivisor_27 : decode cX11_commonDivisor 27 = .ok (.lrem, 1) := by decide +kernel
theorem dX11_commonDivisor_28 : decode cX11_commonDivisor 28 = .ok (.lstore 9, 2) := by decide +kernel
theorem dX11_commonDivisor_30 : decode cX11_commonDivisor 30 = .ok (.lload 6, 2) := by decide +kernel
theorem dX11_commonDivisor_32 : decode cX11_commonDivisor 32 = .ok (.lstore 4, 2) := by decide +kernel
theorem dX11_commonDivisor_34 : decode cX11_commonDivisor 34 = .ok (.lload 9, 2) := by decide +kernel
theorem dX11_commonDivisor_36 : decode cX11_commonDivisor 36 = .ok (.lstore 6, 2) := by decide +kernel
theorem dX11_commonDivisor_38 : decode cX11_commonDivisor 38 = .ok (.iinc 8 1, 3) := by decide +kernel
theorem dX11_commonDivisor_41 : decode cX11_commonDivisor 41 = .ok (.goto (-32), 3) := by decide +kernel
theorem dX11_commonDivisor_44 : decode cX11_commonDivisor 44 = .ok (.lload 4, 2) := by decide +kernel
theorem dX11_commonDivisor_46 : decode cX11_commonDivisor 46 = .ok (.lreturn, 1) := by decide +kernel
theorem dX11_keep_0 : decode cX11_keep 0 = .ok (.iload_n 1, 1) := by decide +kernel
theorem dX11_keep_1 : decode cX11_keep 1 = .ok (.ifCond .lt 12, 3) := by decide +kernel
theorem dX11_keep_4 : decode cX11_keep 4 = .ok (.iload_n 1, 1) := by decide +kernel
theorem dX11_keep_5 : decode cX11_keep 5 = .ok (.aload_n 0, 1) := by decide +kernel
theorem dX11_keep_6 : decode cX11_keep 6 = .ok (.getfield 87, 3) := by decide +kernel
theorem dX11_keep_9 : decode cX11_keep 9 = .ok (.arraylength, 1) := by decide +kernel
theorem dX11_keep_10 : decode cX11_keep 10 = .ok (.if_icmp .lt 5, 3) := by decide +kernel
theorem dX11_keep_13 : decode cX11_keep 13 = .ok (.iconst 0, 1) := by decide +kernel
theorem dX11_keep_14 : decode cX11_keep 14 = .ok (.ireturn, 1) := by decide +kernel
theorem dX11_keep_15 : decode cX11_keep 15 = .ok (.aload_n 0, 1) := by decide +kernel
theorem dX11_keep_16 : decode cX11_keep 16 = .ok (.getfield 87, 3) := by decide +kernel
theorem dX11_keep_19 : decode cX11_keep 19 = .ok (.iload_n 1, 1) := by decide +kernel
theorem dX11_keep_20 : decode cX11_keep 20 = .ok (.aaload, 1) := by decide +kernel
theorem dX11_keep_21 : decode cX11_keep 21 = .ok (.aload_n 0, 1) := by decide +kernel
theorem dX11_keep_22 : decode cX11_keep 22 = .ok (.getfield 40, 3) := by decide +kernel
theorem dX11_keep_25 : decode cX11_keep 25 = .ok (.invokevirtual 462, 3) := by decide +kernel
theorem dX11_keep_28 : decode cX11_keep 28 = .ok (.aload_n 0, 1) := by decide +kernel
theorem dX11_keep_29 : decode cX11_keep 29 = .ok (.getfield 91, 3) := by decide +kernel
theorem dX11_keep_32 : decode cX11_keep 32 = .ok (.iload_n 1, 1) := by decide +kernel
theorem dX11_keep_33 : decode cX11_keep 33 = .ok (.aload_n 0, 1) := by decide +kernel
theorem dX11_keep_34 : decode cX11_keep 34 = .ok (.getfield 33, 3) := by decide +kernel
theorem dX11_keep_37 : decode cX11_keep 37 = .ok (.getfield 113, 3) := by decide +kernel
theorem dX11_keep_40 : decode cX11_keep 40 = .ok (.iastore, 1) := by decide +kernel
theorem dX11_keep_41 : decode cX11_keep 41 = .ok (.iconst 1, 1) := by decide +kernel
theorem dX11_keep_42 : decode cX11_keep 42 = .ok (.ireturn, 1) := by decide +kernel
theorem dX11_again_0 : decode cX11_again 0 = .ok (.iload_n 1, 1) := by decide +kernel
theorem dX11_again_1 : decode cX11_again 1 = .ok (.ifCond .lt 48, 3) := by decide +kernel
theorem dX11_again_4 : decode cX11_again 4 = .ok (.iload_n 1, 1) := by decide +kernel
theorem dX11_again_5 : decode cX11_again 5 = .ok (.aload_n 0, 1) := by decide +kernel
theorem dX11_again_6 : decode cX11_again 6 = .ok (.getfield 87, 3) := by decide +kernel
theorem dX11_again_9 : decode cX11_again 9 = .ok (.arraylength, 1) := by decide +kernel
theorem dX11_again_10 : decode cX11_again 10 = .ok (.if_icmp .ge 39, 3) := by decide +kernel
theorem dX11_again_13 : decode cX11_again 13 = .ok (.aload_n 0, 1) := by decide +kernel
theorem dX11_again_14 : decode cX11_again 14 = .ok (.getfield 91, 3) := by decide +kernel
theorem dX11_again_17 : decode cX11_again 17 = .ok (.iload_n 1, 1) := by decide +kernel
theorem dX11_again_18 : decode cX11_again 18 = .ok (.iaload, 1) := by decide +kernel
theorem dX11_again_19 : decode cX11_again 19 = .ok (.aload_n 0, 1) := by decide +kernel
theorem dX11_again_20 : decode cX11_again 20 = .ok (.getfield 33, 3) := by decide +kernel
theorem dX11_again_23 : decode cX11_again 23 = .ok (.getfield 113, 3) := by decide +kernel
theorem dX11_again_26 : decode cX11_again 26 = .ok (.if_icmp .ne 23, 3) := by decide +kernel
theorem dX11_again_29 : decode cX11_again 29 = .ok (.aload_n 0, 1) := by decide +kernel
theorem dX11_again_30 : decode cX11_again 30 = .ok (.getfield 87, 3) := by decide +kernel
theorem dX11_again_33 : decode cX11_again 33 = .ok (.iload_n 1, 1) := by decide +kernel
theorem dX11_again_34 : decode cX11_again 34 = .ok (.aaload, 1) := by decide +kernel
theorem dX11_again_35 : decode cX11_again 35 = .ok (.getfield 203, 3) := by decide +kernel
theorem dX11_again_38 : decode cX11_again 38 = .ok (.aload_n 0, 1) := by decide +kernel
theorem dX11_again_39 : decode cX11_again 39 = .ok (.getfield 19, 3) := by decide +kernel
theorem dX11_again_42 : decode cX11_again 42 = .ok (.iconst 0, 1) := by decide +kernel
theorem dX11_again_43 : decode cX11_again 43 = .ok (.invokevirtual 176, 3) := by decide +kernel
theorem dX11_again_46 : decode cX11_again 46 = .ok (.if_icmp .le 5, 3) := by decide +kernel
theorem dX11_again_49 : decode cX11_again 49 = .ok (.iconst 0, 1) := by decide +kernel
theorem dX11_again_50 : decode cX11_again 50 = .ok (.ireturn, 1) := by decide +kernel
theorem dX11_again_51 : decode cX11_again 51 = .ok (.aload_n 0, 1) := by decide +kernel
theorem dX11_again_52 : decode cX11_again 52 = .ok (.getfield 40, 3) := by decide +kernel
theorem dX11_again_55 : decode cX11_again 55 = .ok (.aload_n 0, 1) := by decide +kernel
theorem dX11_again_56 : decode cX11_again 56 = .ok (.getfield 87, 3) := by decide +kernel
theorem dX11_again_59 : decode cX11_again 59 = .ok (.iload_n 1, 1) := by decide +kernel
theorem dX11_again_60 : decode cX11_again 60 = .ok (.aaload, 1) := by decide +kernel
theorem dX11_again_61 : decode cX11_again 61 = .ok (.invokevirtual 462, 3) := by decide +kernel
theorem dX11_again_64 : decode cX11_again 64 = .ok (.aload_n 0, 1) := by decide +kernel
theorem dX11_again_65 : decode cX11_again 65 = .ok (.getfield 47, 3) := by decide +kernel
theorem dX11_again_68 : decode cX11_again 68 = .ok (.invokevirtual 131, 3) := by decide +kernel
theorem dX11_again_71 : decode cX11_again 71 = .ok (.iconst 1, 1) := by decide +kernel
theorem dX11_again_72 : decode cX11_again 72 = .ok (.ireturn, 1) := by decide +kernel
theorem dX11_count_0 : decode cX11_count 0 = .ok (.iload_n 1, 1) := by decide +kernel
theorem dX11_count_1 : decode cX11_count 1 = .ok (.tableswitch 160 0 11 #[63, 71, 79, 87, 95, 104, 113, 122, 130, 138, 143, 151], 63) := by decide +kernel
theorem dX11_count_64 : decode cX11_count 64 = .ok (.aload_n 0, 1) := by decide +kernel
theorem dX11_count_65 : decode cX11_count 65 = .ok (.getfield 33, 3) := by decide +kernel
theorem dX11_count_68 : decode cX11_count 68 = .ok (.getfield 113, 3) := by decide +kernel
theorem dX11_count_71 : decode cX11_count 71 = .ok (.ireturn, 1) := by decide +kernel
theorem dX11_count_72 : decode cX11_count 72 = .ok (.aload_n 0, 1) := by decide +kernel
theorem dX11_count_73 : decode cX11_count 73 = .ok (.getfield 40, 3) := by decide +kernel
theorem dX11_count_76 : decode cX11_count 76 = .ok (.getfield 252, 3) := by decide +kernel
theorem dX11_count_79 : decode cX11_count 79 = .ok (.ireturn, 1) := by decide +kernel
theorem dX11_count_80 : decode cX11_count 80 = .ok (.aload_n 0, 1) := by decide +kernel
theorem dX11_count_81 : decode cX11_count 81 = .ok (.getfield 40, 3) := by decide +kernel
theorem dX11_count_84 : decode cX11_count 84 = .ok (.getfield 203, 3) := by decide +kernel
theorem dX11_count_87 : decode cX11_count 87 = .ok (.ireturn, 1) := by decide +kernel
theorem dX11_count_88 : decode cX11_count 88 = .ok (.aload_n 0, 1) := by decide +kernel
theorem dX11_count_89 : decode cX11_count 89 = .ok (.getfield 40, 3) := by decide +kernel
theorem dX11_count_92 : decode cX11_count 92 = .ok (.getfield 253, 3) := by decide +kernel
theorem dX11_count_95 : decode cX11_count 95 = .ok (.ireturn, 1) := by decide +kernel
theorem dX11_count_96 : decode cX11_count 96 = .ok (.aload_n 0, 1) := by decide +kernel
theorem dX11_count_97 : decode cX11_count 97 = .ok (.getfield 40, 3) := by decide +kernel
theorem dX11_count_100 : decode cX11_count 100 = .ok (.iconst 1, 1) := by decide +kernel
theorem dX11_count_101 : decode cX11_count 101 = .ok (.invokevirtual 256, 3) := by decide +kernel
theorem dX11_count_104 : decode cX11_count 104 = .ok (.ireturn, 1) := by decide +kernel
theorem dX11_count_105 : decode cX11_count 105 = .ok (.aload_n 0, 1) := by decide +kernel
theorem dX11_count_106 : decode cX11_count 106 = .ok (.getfield 40, 3) := by decide +kernel
theorem dX11_count_109 : decode cX11_count 109 = .ok (.iconst 2, 1) := by decide +kernel
theorem dX11_count_110 : decode cX11_count 110 = .ok (.invokevirtual 256, 3) := by decide +kernel
theorem dX11_count_113 : decode cX11_count 113 = .ok (.ireturn, 1) := by decide +kernel
theorem dX11_count_114 : decode cX11_count 114 = .ok (.aload_n 0, 1) := by decide +kernel
theorem dX11_count_115 : decode cX11_count 115 = .ok (.getfield 40, 3) := by decide +kernel
theorem dX11_count_118 : decode cX11_count 118 = .ok (.iconst 3, 1) := by decide +kernel
theorem dX11_count_119 : decode cX11_count 119 = .ok (.invokevirtual 256, 3) := by decide +kernel
theorem dX11_count_122 : decode cX11_count 122 = .ok (.ireturn, 1) := by decide +kernel
theorem dX11_count_123 : decode cX11_count 123 = .ok (.aload_n 0, 1) := by decide +kernel
theorem dX11_count_124 : decode cX11_count 124 = .ok (.getfield 56, 3) := by decide +kernel
theorem dX11_count_127 : decode cX11_count 127 = .ok (.getfield 422, 3) := by decide +kernel
theorem dX11_count_130 : decode cX11_count 130 = .ok (.ireturn, 1) := by decide +kernel
theorem dX11_count_131 : decode cX11_count 131 = .ok (.aload_n 0, 1) := by decide +kernel
theorem dX11_count_132 : decode cX11_count 132 = .ok (.getfield 47, 3) := by decide +kernel
theorem dX11_count_135 : decode cX11_count 135 = .ok (.getfield 272, 3) := by decide +kernel
theorem dX11_count_138 : decode cX11_count 138 = .ok (.ireturn, 1) := by decide +kernel
theorem dX11_count_139 : decode cX11_count 139 = .ok (.aload_n 0, 1) := by decide +kernel
theorem dX11_count_140 : decode cX11_count 140 = .ok (.getfield 465, 3) := by decide +kernel
theorem dX11_count_143 : decode cX11_count 143 = .ok (.ireturn, 1) := by decide +kernel
theorem dX11_count_144 : decode cX11_count 144 = .ok (.aload_n 0, 1) := by decide +kernel
theorem dX11_count_145 : decode cX11_count 145 = .ok (.getfield 12, 3) := by decide +kernel
theorem dX11_count_148 : decode cX11_count 148 = .ok (.getfield 106, 3) := by decide +kernel
theorem dX11_count_151 : decode cX11_count 151 = .ok (.ireturn, 1) := by decide +kernel
theorem dX11_count_152 : decode cX11_count 152 = .ok (.aload_n 0, 1) := by decide +kernel
theorem dX11_count_153 : decode cX11_count 153 = .ok (.getfield 19, 3) := by decide +kernel
theorem dX11_count_156 : decode cX11_count 156 = .ok (.iconst 0, 1) := by decide +kernel
theorem dX11_count_157 : decode cX11_count 157 = .ok (.invokevirtual 176, 3) := by decide +kernel
theorem dX11_count_160 : decode cX11_count 160 = .ok (.ireturn, 1) := by decide +kernel
theorem dX11_count_161 : decode cX11_count 161 = .ok (.bipush (-100), 2) := by decide +kernel
theorem dX11_count_163 : decode cX11_count 163 = .ok (.ireturn, 1) := by decide +kernel
theorem dX11_row_0 : decode cX11_row 0 = .ok (.iload_n 1, 1) := by decide +kernel
theorem dX11_row_1 : decode cX11_row 1 = .ok (.ifCond .lt 20, 3) := by decide +kernel
theorem dX11_row_4 : decode cX11_row 4 = .ok (.iload_n 1, 1) := by decide +kernel
theorem dX11_row_5 : decode cX11_row 5 = .ok (.aload_n 0, 1) := by decide +kernel
theorem dX11_row_6 : decode cX11_row 6 = .ok (.getfield 465, 3) := by decide +kernel
theorem dX11_row_9 : decode cX11_row 9 = .ok (.if_icmp .ge 12, 3) := by decide +kernel
theorem dX11_row_12 : decode cX11_row 12 = .ok (.iload_n 1, 1) := by decide +kernel
theorem dX11_row_13 : decode cX11_row 13 = .ok (.aload_n 0, 1) := by decide +kernel
theorem dX11_row_14 : decode cX11_row 14 = .ok (.getfield 98, 3) := by decide +kernel
theorem dX11_row_17 : decode cX11_row 17 = .ok (.arraylength, 1) := by decide +kernel
theorem dX11_row_18 : decode cX11_row 18 = .ok (.if_icmp .lt 14, 3) := by decide +kernel
theorem dX11_row_21 : decode cX11_row 21 = .ok (.new 137, 3) := by decide +kernel
theorem dX11_row_24 : decode cX11_row 24 = .ok (.dup, 1) := by decide +kernel
theorem dX11_row_25 : decode cX11_row 25 = .ok (.ldc_w 468, 3) := by decide +kernel
theorem dX11_row_28 : decode cX11_row 28 = .ok (.invokespecial 141, 3) := by decide +kernel
theorem dX11_row_31 : decode cX11_row 31 = .ok (.athrow, 1) := by decide +kernel
theorem dX11_row_32 : decode cX11_row 32 = .ok (.aload_n 0, 1) := by decide +kernel
theorem dX11_row_33 : decode cX11_row 33 = .ok (.getfield 98, 3) := by decide +kernel
theorem dX11_row_36 : decode cX11_row 36 = .ok (.iload_n 1, 1) := by decide +kernel
theorem dX11_row_37 : decode cX11_row 37 = .ok (.laload, 1) := by decide +kernel
theorem dX11_row_38 : decode cX11_row 38 = .ok (.lreturn, 1) := by decide +kernel
theorem dX11_clearRow_0 : decode cX11_clearRow 0 = .ok (.aload_n 0, 1) := by decide +kernel
theorem dX11_clearRow_1 : decode cX11_clearRow 1 = .ok (.iconst 0, 1) := by decide +kernel
theorem dX11_clearRow_2 : decode cX11_clearRow 2 = .ok (.putfield 465, 3) := by decide +kernel
theorem dX11_clearRow_5 : decode cX11_clearRow 5 = .ok (.return_, 1) := by decide +kernel
theorem dX11_tell_0 : decode cX11_tell 0 = .ok (.aload_n 0, 1) := by decide +kernel
theorem dX11_tell_1 : decode cX11_tell 1 = .ok (.invokevirtual 380, 3) := by decide +kernel
theorem dX11_tell_4 : decode cX11_tell 4 = .ok (.aload_n 0, 1) := by decide +kernel
theorem dX11_tell_5 : decode cX11_tell 5 = .ok (.lload_n 1, 1) := by decide +kernel
theorem dX11_tell_6 : decode cX11_tell 6 = .ok (.invokevirtual 236, 3) := by decide +kernel
theorem dX11_tell_9 : decode cX11_tell 9 = .ok (.return_, 1) := by decide +kernel
theorem dX11_tellMore_0 : decode cX11_tellMore 0 = .ok (.aload_n 0, 1) := by decide +kernel
theorem dX11_tellMore_1 : decode cX11_tellMore 1 = .ok (.getfield 465, 3) := by decide +kernel
theorem dX11_tellMore_4 : decode cX11_tellMore 4 = .ok (.aload_n 0, 1) := by decide +kernel
theorem dX11_tellMore_5 : decode cX11_tellMore 5 = .ok (.getfield 98, 3) := by decide +kernel
theorem dX11_tellMore_8 : decode cX11_tellMore 8 = .ok (.arraylength, 1) := by decide +kernel
theorem dX11_tellMore_9 : decode cX11_tellMore 9 = .ok (.if_icmp .ge 23, 3) := by decide +kernel
theorem dX11_tellMore_12 : decode cX11_tellMore 12 = .ok (.aload_n 0, 1) := by decide +kernel
theorem dX11_tellMore_13 : decode cX11_tellMore 13 = .ok (.getfield 98, 3) := by decide +kernel
theorem dX11_tellMore_16 : decode cX11_tellMore 16 = .ok (.aload_n 0, 1) := by decide +kernel
theorem dX11_tellMore_17 : decode cX11_tellMore 17 = .ok (.getfield 465, 3) := by decide +kernel
theorem dX11_tellMore_20 : decode cX11_tellMore 20 = .ok (.lload_n 1, 1) := by decide +kernel
theorem dX11_tellMore_21 : decode cX11_tellMore 21 = .ok (.lastore, 1) := by decide +kernel
theorem dX11_tellMore_22 : decode cX11_tellMore 22 = .ok (.aload_n 0, 1) := by decide +kernel
theorem dX11_tellMore_23 : decode cX11_tellMore 23 = .ok (.dup, 1) := by decide +kernel
theorem dX11_tellMore_24 : decode cX11_tellMore 24 = .ok (.getfield 465, 3) := by decide +kernel
theorem dX11_tellMore_27 : decode cX11_tellMore 27 = .ok (.iconst 1, 1) := by decide +kernel
theorem dX11_tellMore_28 : decode cX11_tellMore 28 = .ok (.iadd, 1) := by decide +kernel
theorem dX11_tellMore_29 : decode cX11_tellMore 29 = .ok (.putfield 465, 3) := by decide +kernel
theorem dX11_tellMore_32 : decode cX11_tellMore 32 = .ok (.return_, 1) := by decide +kernel
theorem dX11_driving_0 : decode cX11_driving 0 = .ok (.bipush 10, 2) := by decide +kernel
theorem dX11_driving_2 : decode cX11_driving 2 = .ok (.iload_n 0, 1) := by decide +kernel
theorem dX11_driving_3 : decode cX11_driving 3 = .ok (.iload_n 1, 1) := by decide +kernel
theorem dX11_driving_4 : decode cX11_driving 4 = .ok (.isub, 1) := by decide +kernel
theorem dX11_driving_5 : decode cX11_driving 5 = .ok (.invokestatic 470, 3) := by decide +kernel
theorem dX11_driving_8 : decode cX11_driving 8 = .ok (.imul, 1) := by decide +kernel
theorem dX11_driving_9 : decode cX11_driving 9 = .ok (.ireturn, 1) := by decide +kernel
theorem dX12_init_0 : decode cX12_init 0 = .ok (.aload_n 0, 1) := by decide +kernel
theorem dX12_init_1 : decode cX12_init 1 = .ok (.invokespecial 3, 3) := by decide +kernel
theorem dX12_init_4 : decode cX12_init 4 = .ok (.aload_n 0, 1) := by decide +kernel
theorem dX12_init_5 : decode cX12_init 5 = .ok (.bipush 24, 2) := by decide +kernel
theorem dX12_init_7 : decode cX12_init 7 = .ok (.newarray .long, 2) := by decide +kernel
theorem dX12_init_9 : decode cX12_init 9 = .ok (.putfield 9, 3) := by decide +kernel
theorem dX12_init_12 : decode cX12_init 12 = .ok (.aload_n 0, 1) := by decide +kernel
theorem dX12_init_13 : decode cX12_init 13 = .ok (.bipush 6, 2) := by decide +kernel
theorem dX12_init_15 : decode cX12_init 15 = .ok (.newarray .int, 2) := by decide +kernel
theorem dX12_init_17 : decode cX12_init 17 = .ok (.putfield 13, 3) := by decide +kernel
theorem dX12_init_20 : decode cX12_init 20 = .ok (.aload_n 0, 1) := by decide +kernel
theorem dX12_init_21 : decode cX12_init 21 = .ok (.bipush 6, 2) := by decide +kernel
theorem dX12_init_23 : decode cX12_init 23 = .ok (.newarray .int, 2) := by decide +kernel
theorem dX12_init_25 : decode cX12_init 25 = .ok (.putfield 17, 3) := by decide +kernel
theorem dX12_init_28 : decode cX12_init 28 = .ok (.aload_n 0, 1) := by decide +kernel
theorem dX12_init_29 : decode cX12_init 29 = .ok (.bipush 6, 2) := by decide +kernel
theorem dX12_init_31 : decode cX12_init 31 = .ok (.newarray .int, 2) := by decide +kernel
theorem dX12_init_33 : decode cX12_init 33 = .ok (.putfield 20, 3) := by decide +kernel
theorem dX12_init_36 : decode cX12_init 36 = .ok (.aload_n 0, 1) := by decide +kernel
theorem dX12_init_37 : decode cX12_init 37 = .ok (.bipush 6, 2) := by decide +kernel
theorem dX12_init_39 : decode cX12_init 39 = .ok (.newarray .boolean, 2) := by decide +kernel
theorem dX12_init_41 : decode cX12_init 41 = .ok (.putfield 23, 3) := by decide +kernel
theorem dX12_init_44 : decode cX12_init 44 = .ok (.aload_n 0, 1) := by decide +kernel
theorem dX12_init_45 : decode cX12_init 45 = .ok (.bipush 6, 2) := by decide +kernel
theorem dX12_init_47 : decode cX12_init 47 = .ok (.newarray .int, 2) := by decide +kernel
theorem dX12_init_49 : decode cX12_init 49 = .ok (.putfield 27, 3) := by decide +kernel
theorem dX12_init_52 : decode cX12_init 52 = .ok (.aload_n 0, 1) := by decide +kernel
theorem dX12_init_53 : decode cX12_init 53 = .ok (.bipush 6, 2) := by decide +kernel
theorem dX12_init_55 : decode cX12_init 55 = .ok (.newarray .int, 2) := by decide +kernel
theorem dX12_init_57 : decode cX12_init 57 = .ok (.putfield 30, 3) := by decide +kernel
theorem dX12_init_60 : decode cX12_init 60 = .ok (.aload_n 0, 1) := by decide +kernel
theorem dX12_init_61 : decode cX12_init 61 = .ok (.bipush 6, 2) := by decide +kernel
theorem dX12_init_63 : decode cX12_init 63 = .ok (.newarray .int, 2) := by decide +kernel
theorem dX12_init_65 : decode cX12_init 65 = .ok (.putfield 33, 3) := by decide +kernel
theorem dX12_init_68 : decode cX12_init 68 = .ok (.aload_n 0, 1) := by decide +kernel
theorem dX12_init_69 : decode cX12_init 69 = .ok (.bipush 96, 2) := by decide +kernel
theorem dX12_init_71 : decode cX12_init 71 = .ok (.newarray .int, 2) := by decide +kernel
theorem dX12_init_73 : decode cX12_init 73 = .ok (.putfield 36, 3) := by decide +kernel
theorem dX12_init_76 : decode cX12_init 76 = .ok (.aload_n 0, 1) := by decide +kernel
theorem dX12_init_77 : decode cX12_init 77 = .ok (.bipush 7, 2) := by decide +kernel
theorem dX12_init_79 : decode cX12_init 79 = .ok (.newarray .int, 2) := by decide +kernel
theorem dX12_init_81 : decode cX12_init 81 = .ok (.dup, 1) := by decide +kernel
theorem dX12_init_82 : decode cX12_init 82 = .ok (.iconst 0, 1) := by decide +kernel
theorem dX12_init_83 : decode cX12_init 83 = .ok (.bipush 100, 2) := by decide +kernel
theorem dX12_init_85 : decode cX12_init 85 = .ok (.iastore, 1) := by decide +kernel
theorem dX12_init_86 : decode cX12_init 86 = .ok (.dup, 1) := by decide +kernel
theorem dX12_init_87 : decode cX12_init 87 = .ok (.iconst 1, 1) := by decide +kernel
theorem dX12_init_88 : decode cX12_init 88 = .ok (.iconst 2, 1) := by decide +kernel
theorem dX12_init_89 : decode cX12_init 89 = .ok (.iastore, 1) := by decide +kernel
theorem dX12_init_90 : decode cX12_init 90 = .ok (.dup, 1) := by decide +kernel
theorem dX12_init_91 : decode cX12_init 91 = .ok (.iconst 2, 1) := by decide +kernel
theorem dX12_init_92 : decode cX12_init 92 = .ok (.iconst 0, 1) := by decide +kernel
theorem dX12_init_93 : decode cX12_init 93 = .ok (.iastore, 1) := by decide +kernel
theorem dX12_init_94 : decode cX12_init 94 = .ok (.dup, 1) := by decide +kernel
theorem dX12_init_95 : decode cX12_init 95 = .ok (.iconst 3, 1) := by decide +kernel
theorem dX12_init_96 : decode cX12_init 96 = .ok (.iconst 1, 1) := by decide +kernel
theorem dX12_init_97 : decode cX12_init 97 = .ok (.iastore, 1) := by decide +kernel
theorem dX12_init_98 : decode cX12_init 98 = .ok (.dup, 1) := by decide +kernel
theorem dX12_init_99 : decode cX12_init 99 = .ok (.iconst 4, 1) := by decide +kernel
theorem dX12_init_100 : decode cX12_init 100 = .ok (.bipush 30, 2) := by decide +kernel
theorem dX12_init_102 : decode cX12_init 102 = .ok (.iastore, 1) := by decide +kernel
theorem dX12_init_103 : decode cX12_init 103 = .ok (.dup, 1) := by decide +kernel
theorem dX12_init_104 : decode cX12_init 104 = .ok (.iconst 5, 1) := by decide +kernel
theorem dX12_init_105 : decode cX12_init 105 = .ok (.bipush 50, 2) := by decide +kernel
theorem dX12_init_107 : decode cX12_init 107 = .ok (.iastore, 1) := by decide +kernel
theorem dX12_init_108 : decode cX12_init 108 = .ok (.dup, 1) := by decide +kernel
theorem dX12_init_109 : decode cX12_init 109 = .ok (.bipush 6, 2) := by decide +kernel
theorem dX12_init_111 : decode cX12_init 111 = .ok (.sipush 480, 3) := by decide +kernel
theorem dX12_init_114 : decode cX12_init 114 = .ok (.iastore, 1) := by decide +kernel
theorem dX12_init_115 : decode cX12_init 115 = .ok (.putfield 39, 3) := by decide +kernel
theorem dX12_init_118 : decode cX12_init 118 = .ok (.aload_n 0, 1) := by decide +kernel
theorem dX12_init_119 : decode cX12_init 119 = .ok (.bipush 99, 2) := by decide +kernel
theorem dX12_init_121 : decode cX12_init 121 = .ok (.newarray .int, 2) := by decide +kernel
theorem dX12_init_123 : decode cX12_init 123 = .ok (.putfield 42, 3) := by decide +kernel
theorem dX12_init_126 : decode cX12_init 126 = .ok (.aload_n 0, 1) := by decide +kernel
theorem dX12_init_127 : decode cX12_init 127 = .ok (.bipush 99, 2) := by decide +kernel
theorem dX12_init_129 : decode cX12_init 129 = .ok (.newarray .int, 2) := by decide +kernel
theorem dX12_init_131 : decode cX12_init 131 = .ok (.putfield 45, 3) := by decide +kernel
theorem dX12_init_134 : decode cX12_init 134 = .ok (.aload_n 0, 1) := by decide +kernel
theorem dX12_init_135 : decode cX12_init 135 = .ok (.bipush 80, 2) := by decide +kernel
theorem dX12_init_137 : decode cX12_init 137 = .ok (.newarray .int, 2) := by decide +kernel
theorem dX12_init_139 : decode cX12_init 139 = .ok (.putfield 48, 3) := by decide +kernel
theorem dX12_init_142 : decode cX12_init 142 = .ok (.aload_n 0, 1) := by decide +kernel
theorem dX12_init_143 : decode cX12_init 143 = .ok (.bipush 36, 2) := by decide +kernel
theorem dX12_init_145 : decode cX12_init 145 = .ok (.newarray .int, 2) := by decide +kernel
theorem dX12_init_147 : decode cX12_init 147 = .ok (.putfield 51, 3) := by decide +kernel
theorem dX12_init_150 : decode cX12_init 150 = .ok (.aload_n 0, 1) := by decide +kernel
theorem dX12_init_151 : decode cX12_init 151 = .ok (.bipush 96, 2) := by decide +kernel
theorem dX12_init_153 : decode cX12_init 153 = .ok (.newarray .int, 2) := by decide +kernel
theorem dX12_init_155 : decode cX12_init 155 = .ok (.putfield 54, 3) := by decide +kernel
theorem dX12_init_158 : decode cX12_init 158 = .ok (.aload_n 0, 1) := by decide +kernel
theorem dX12_init_159 : decode cX12_init 159 = .ok (.bipush 80, 2) := by decide +kernel
theorem dX12_init_161 : decode cX12_init 161 = .ok (.newarray .int, 2) := by decide +kernel
theorem dX12_init_163 : decode cX12_init 163 = .ok (.putfield 57, 3) := by decide +kernel
theorem dX12_init_166 : decode cX12_init 166 = .ok (.aload_n 0, 1) := by decide +kernel
theorem dX12_init_167 : decode cX12_init 167 = .ok (.bipush 80, 2) := by decide +kernel
theorem dX12_init_169 : decode cX12_init 169 = .ok (.newarray .int, 2) := by decide +kernel
theorem dX12_init_171 : decode cX12_init 171 = .ok (.putfield 60, 3) := by decide +kernel
theorem dX12_init_174 : decode cX12_init 174 = .ok (.aload_n 0, 1) := by decide +kernel
theorem dX12_init_175 : decode cX12_init 175 = .ok (.bipush 80, 2) := by decide +kernel
theorem dX12_init_177 : decode cX12_init 177 = .ok (.newarray .int, 2) := by decide +kernel
theorem dX12_init_179 : decode cX12_init 179 = .ok (.putfield 63, 3) := by decide +kernel
theorem dX12_init_182 : decode cX12_init 182 = .ok (.aload_n 0, 1) := by decide +kernel
theorem dX12_init_183 : decode cX12_init 183 = .ok (.bipush 8, 2) := by decide +kernel
theorem dX12_init_185 : decode cX12_init 185 = .ok (.newarray .int, 2) := by decide +kernel
theorem dX12_init_187 : decode cX12_init 187 = .ok (.putfield 66, 3) := by decide +kernel
theorem dX12_init_190 : decode cX12_init 190 = .ok (.aload_n 0, 1) := by decide +kernel
theorem dX12_init_191 : decode cX12_init 191 = .ok (.bipush 99, 2) := by decide +kernel
theorem dX12_init_193 : decode cX12_init 193 = .ok (.newarray .int, 2) := by decide +kernel
theorem dX12_init_195 : decode cX12_init 195 = .ok (.putfield 69, 3) := by decide +kernel
theorem dX12_init_198 : decode cX12_init 198 = .ok (.aload_n 0, 1) := by decide +kernel
theorem dX12_init_199 : decode cX12_init 199 = .ok (.sipush 1584, 3) := by decide +kernel
theorem dX12_init_202 : decode cX12_init 202 = .ok (.newarray .int, 2) := by decide +kernel
theorem dX12_init_204 : decode cX12_init 204 = .ok (.putfield 72, 3) := by decide +kernel
theorem dX12_init_207 : decode cX12_init 207 = .ok (.aload_n 0, 1) := by decide +kernel
theorem dX12_init_208 : decode cX12_init 208 = .ok (.bipush 60, 2) := by decide +kernel
theorem dX12_init_210 : decode cX12_init 210 = .ok (.newarray .int, 2) := by decide +kernel
theorem dX12_init_212 : decode cX12_init 212 = .ok (.putfield 75, 3) := by decide +kernel
theorem dX12_init_215 : decode cX12_init 215 = .ok (.aload_n 0, 1) := by decide +kernel
theorem dX12_init_216 : decode cX12_init 216 = .ok (.bipush 60, 2) := by decide +kernel
theorem dX12_init_218 : decode cX12_init 218 = .ok (.newarray .int, 2) := by decide +kernel
theorem dX12_init_220 : decode cX12_init 220 = .ok (.putfield 78, 3) := by decide +kernel
theorem dX12_init_223 : decode cX12_init 223 = .ok (.aload_n 0, 1) := by decide +kernel
theorem dX12_init_224 : decode cX12_init 224 = .ok (.bipush 60, 2) := by decide +kernel
theorem dX12_init_226 : decode cX12_init 226 = .ok (.newarray .int, 2) := by decide +kernel
theorem dX12_init_228 : decode cX12_init 228 = .ok (.putfield 81, 3) := by decide +kernel
theorem dX12_init_231 : decode cX12_init 231 = .ok (.aload_n 0, 1) := by decide +kernel
theorem dX12_init_232 : decode cX12_init 232 = .ok (.bipush 16, 2) := by decide +kernel
theorem dX12_init_234 : decode cX12_init 234 = .ok (.newarray .int, 2) := by decide +kernel
theorem dX12_init_236 : decode cX12_init 236 = .ok (.putfield 84, 3) := by decide +kernel
theorem dX12_init_239 : decode cX12_init 239 = .ok (.aload_n 0, 1) := by decide +kernel
theorem dX12_init_240 : decode cX12_init 240 = .ok (.bipush 6, 2) := by decide +kernel
theorem dX12_init_242 : decode cX12_init 242 = .ok (.newarray .int, 2) := by decide +kernel
theorem dX12_init_244 : decode cX12_init 244 = .ok (.putfield 87, 3) := by decide +kernel
theorem dX12_init_247 : decode cX12_init 247 = .ok (.aload_n 0, 1) := by decide +kernel
theorem dX12_init_248 : decode cX12_init 248 = .ok (.bipush 6, 2) := by decide +kernel
theorem dX12_init_250 : decode cX12_init 250 = .ok (.newarray .int, 2) := by decide +kernel
theorem dX12_init_252 : decode cX12_init 252 = .ok (.putfield 90, 3) := by decide +kernel
theorem dX12_init_255 : decode cX12_init 255 = .ok (.aload_n 0, 1) := by decide +kernel
theorem dX12_init_256 : decode cX12_init 256 = .ok (.bipush 7, 2) := by decide +kernel
theorem dX12_init_258 : decode cX12_init 258 = .ok (.newarray .int, 2) := by decide +kernel
theorem dX12_init_260 : decode cX12_init 260 = .ok (.putfield 93, 3) := by decide +kernel
theorem dX12_init_263 : decode cX12_init 263 = .ok (.aload_n 0, 1) := by decide +kernel
theorem dX12_init_264 : decode cX12_init 264 = .ok (.bipush 6, 2) := by decide +kernel
theorem dX12_init_266 : decode cX12_init 266 = .ok (.newarray .int, 2) := by decide +kernel
theorem dX12_init_268 : decode cX12_init 268 = .ok (.putfield 96, 3) := by decide +kernel
theorem dX12_init_271 : decode cX12_init 271 = .ok (.aload_n 0, 1) := by decide +kernel
theorem dX12_init_272 : decode cX12_init 272 = .ok (.bipush 6, 2) := by decide +kernel
theorem dX12_init_274 : decode cX12_init 274 = .ok (.newarray .int, 2) := by decide +kernel
theorem dX12_init_276 : decode cX12_init 276 = .ok (.putfield 99, 3) := by decide +kernel
theorem dX12_init_279 : decode cX12_init 279 = .ok (.aload_n 0, 1) := by decide +kernel
theorem dX12_init_280 : decode cX12_init 280 = .ok (.bipush 6, 2) := by decide +kernel
theorem dX12_init_282 : decode cX12_init 282 = .ok (.newarray .int, 2) := by decide +kernel
theorem dX12_init_284 : decode cX12_init 284 = .ok (.putfield 102, 3) := by decide +kernel
theorem dX12_init_287 : decode cX12_init 287 = .ok (.aload_n 0, 1) := by decide +kernel
theorem dX12_init_288 : decode cX12_init 288 = .ok (.bipush 10, 2) := by decide +kernel
theorem dX12_init_290 : decode cX12_init 290 = .ok (.newarray .int, 2) := by decide +kernel
theorem dX12_init_292 : decode cX12_init 292 = .ok (.putfield 105, 3) := by decide +kernel
theorem dX12_init_295 : decode cX12_init 295 = .ok (.aload_n 0, 1) := by decide +kernel
theorem dX12_init_296 : decode cX12_init 296 = .ok (.bipush 10, 2) := by decide +kernel
theorem dX12_init_298 : decode cX12_init 298 = .ok (.newarray .int, 2) := by decide +kernel
theorem dX12_init_300 : decode cX12_init 300 = .ok (.putfield 108, 3) := by decide +kernel
theorem dX12_init_303 : decode cX12_init 303 = .ok (.aload_n 0, 1) := by decide +kernel
theorem dX12_init_304 : decode cX12_init 304 = .ok (.bipush 6, 2) := by decide +kernel
theorem dX12_init_306 : decode cX12_init 306 = .ok (.newarray .int, 2) := by decide +kernel
theorem dX12_init_308 : decode cX12_init 308 = .ok (.putfield 111, 3) := by decide +kernel
theorem dX12_init_311 : decode cX12_init 311 = .ok (.aload_n 0, 1) := by decide +kernel
theorem dX12_init_312 : decode cX12_init 312 = .ok (.bipush 6, 2) := by decide +kernel
theorem dX12_init_314 : decode cX12_init 314 = .ok (.newarray .int, 2) := by decide +kernel
theorem dX12_init_316 : decode cX12_init 316 = .ok (.putfield 114, 3) := by decide +kernel
theorem dX12_init_319 : decode cX12_init 319 = .ok (.aload_n 0, 1) := by decide +kernel
theorem dX12_init_320 : decode cX12_init 320 = .ok (.iconst 3, 1) := by decide +kernel
theorem dX12_init_321 : decode cX12_init 321 = .ok (.newarray .boolean, 2) := by decide +kernel
theorem dX12_init_323 : decode cX12_init 323 = .ok (.putfield 117, 3) := by decide +kernel
theorem dX12_init_326 : decode cX12_init 326 = .ok (.aload_n 0, 1) := by decide +kernel
theorem dX12_init_327 : decode cX12_init 327 = .ok (.iconst 3, 1) := by decide +kernel
theorem dX12_init_328 : decode cX12_init 328 = .ok (.newarray .int, 2) := by decide +kernel
theorem dX12_init_330 : decode cX12_init 330 = .ok (.putfield 120, 3) := by decide +kernel
theorem dX12_init_333 : decode cX12_init 333 = .ok (.aload_n 0, 1) := by decide +kernel
theorem dX12_init_334 : decode cX12_init 334 = .ok (.sipush 297, 3) := by decide +kernel
theorem dX12_init_337 : decode cX12_init 337 = .ok (.newarray .int, 2) := by decide +kernel
theorem dX12_init_339 : decode cX12_init 339 = .ok (.putfield 123, 3) := by decide +kernel
theorem dX12_init_342 : decode cX12_init 342 = .ok (.return_, 1) := by decide +kernel
theorem dX12_thrown_0 : decode cX12_thrown 0 = .ok (.aload_n 0, 1) := by decide +kernel
theorem dX12_thrown_1 : decode cX12_thrown 1 = .ok (.getfield 126, 3) := by decide +kernel
theorem dX12_thrown_4 : decode cX12_thrown 4 = .ok (.ireturn, 1) := by decide +kernel
theorem dX12_refuse_0 : decode cX12_refuse 0 = .ok (.aload_n 0, 1) := by decide +kernel
theorem dX12_refuse_1 : decode cX12_refuse 1 = .ok (.iconst 1, 1) := by decide +kernel
theorem dX12_refuse_2 : decode cX12_refuse 2 = .ok (.putfield 126, 3) := by decide +kernel
theorem dX12_refuse_5 : decode cX12_refuse 5 = .ok (.iconst 0, 1) := by decide +kernel
theorem dX12_refuse_6 : decode cX12_refuse 6 = .ok (.ireturn, 1) := by decide +kernel
theorem dX12_in_0 : decode cX12_in 0 = .ok (.lload_n 0, 1) := by decide +kernel
theorem dX12_in_1 : decode cX12_in 1 = .ok (.lload_n 2, 1) := by decide +kernel
theorem dX12_in_2 : decode cX12_in 2 = .ok (.lcmp, 1) := by decide +kernel
theorem dX12_in_3 : decode cX12_in 3 = .ok (.ifCond .lt 14, 3) := by decide +kernel
theorem dX12_in_6 : decode cX12_in 6 = .ok (.lload_n 0, 1) := by decide +kernel
theorem dX12_in_7 : decode cX12_in 7 = .ok (.lload 4, 2) := by decide +kernel
theorem dX12_in_9 : decode cX12_in 9 = .ok (.lcmp, 1) := by decide +kernel
theorem dX12_in_10 : decode cX12_in 10 = .ok (.ifCond .gt 7, 3) := by decide +kernel
theorem dX12_in_13 : decode cX12_in 13 = .ok (.iconst 1, 1) := by decide +kernel
theorem dX12_in_14 : decode cX12_in 14 = .ok (.goto 4, 3) := by decide +kernel
theorem dX12_in_17 : decode cX12_in 17 = .ok (.iconst 0, 1) := by decide +kernel
theorem dX12_in_18 : decode cX12_in 18 = .ok (.ireturn, 1) := by decide +kernel
theorem dX12_has_0 : decode cX12_has 0 = .ok (.iload_n 0, 1) := by decide +kernel
theorem dX12_has_1 : decode cX12_has 1 = .ok (.iload_n 1, 1) := by decide +kernel
theorem dX12_has_2 : decode cX12_has 2 = .ok (.ishr, 1) := by decide +kernel
theorem dX12_has_3 : decode cX12_has 3 = .ok (.iconst 1, 1) := by decide +kernel
theorem dX12_has_4 : decode cX12_has 4 = .ok (.iand, 1) := by decide +kernel
theorem dX12_has_5 : decode cX12_has 5 = .ok (.iconst 1, 1) := by decide +kernel
theorem dX12_has_6 : decode cX12_has 6 = .ok (.if_icmp .ne 7, 3) := by decide +kernel
theorem dX12_has_9 : decode cX12_has 9 = .ok (.iconst 1, 1) := by decide +kernel
theorem dX12_has_10 : decode cX12_has 10 = .ok (.goto 4, 3) := by decide +kernel
theorem dX12_has_13 : decode cX12_has 13 = .ok (.iconst 0, 1) := by decide +kernel
theorem dX12_has_14 : decode cX12_has 14 = .ok (.ireturn, 1) := by decide +kernel
theorem dX12_flag_0 : decode cX12_flag 0 = .ok (.iload_n 0, 1) := by decide +kernel
theorem dX12_flag_1 : decode cX12_flag 1 = .ok (.ifCond .eq 7, 3) := by decide +kernel
theorem dX12_flag_4 : decode cX12_flag 4 = .ok (.iconst 1, 1) := by decide +kernel
theorem dX12_flag_5 : decode cX12_flag 5 = .ok (.goto 4, 3) := by decide +kernel
theorem dX12_flag_8 : decode cX12_flag 8 = .ok (.iconst 0, 1) := by decide +kernel
theorem dX12_flag_9 : decode cX12_flag 9 = .ok (.ireturn, 1) := by decide +kernel
theorem dX12_common_0 : decode cX12_common 0 = .ok (.lload_n 2, 1) := by decide +kernel
theorem dX12_common_1 : decode cX12_common 1 = .ok (.lconst 0, 1) := by decide +kernel
theorem dX12_common_2 : decode cX12_common 2 = .ok (.lcmp, 1) := by decide +kernel
theorem dX12_common_3 : decode cX12_common 3 = .ok (.ifCond .ne 7, 3) := by decide +kernel
theorem dX12_common_6 : decode cX12_common 6 = .ok (.lload_n 0, 1) := by decide +kernel
theorem dX12_common_7 : decode cX12_common 7 = .ok (.goto 10, 3) := by decide +kernel
theorem dX12_common_10 : decode cX12_common 10 = .ok (.lload_n 2, 1) := by decide +kernel
theorem dX12_common_11 : decode cX12_common 11 = .ok (.lload_n 0, 1) := by decide +kernel
theorem dX12_common_12 : decode cX12_common 12 = .ok (.lload_n 2, 1) := by decide +kernel
theorem dX12_common_13 : decode cX12_common 13 = .ok (.lrem, 1) := by decide +kernel
theorem dX12_common_14 : decode cX12_common 14 = .ok (.invokestatic 130, 3) := by decide +kernel
theorem dX12_common_17 : decode cX12_common 17 = .ok (.lreturn, 1) := by decide +kernel
theorem dX12_enters_0 : decode cX12_enters 0 = .ok (.aload_n 0, 1) := by decide +kernel
theorem dX12_enters_1 : decode cX12_enters 1 = .ok (.getfield 9, 3) := by decide +kernel
theorem dX12_enters_4 : decode cX12_enters 4 = .ok (.aload_n 0, 1) := by decide +kernel
theorem dX12_enters_5 : decode cX12_enters 5 = .ok (.getfield 134, 3) := by decide +kernel
theorem dX12_enters_8 : decode cX12_enters 8 = .ok (.lload_n 1, 1) := by decide +kernel
theorem dX12_enters_9 : decode cX12_enters 9 = .ok (.lastore, 1) := by decide +kernel
theorem dX12_enters_10 : decode cX12_enters 10 = .ok (.aload_n 0, 1) := by decide +kernel
theorem dX12_enters_11 : decode cX12_enters 11 = .ok (.dup, 1) := by decide +kernel
theorem dX12_enters_12 : decode cX12_enters 12 = .ok (.getfield 134, 3) := by decide +kernel
theorem dX12_enters_15 : decode cX12_enters 15 = .ok (.iconst 1, 1) := by decide +kernel
theorem dX12_enters_16 : decode cX12_enters 16 = .ok (.iadd, 1) := by decide +kernel
theorem dX12_enters_17 : decode cX12_enters 17 = .ok (.putfield 134, 3) := by decide +kernel
theorem dX12_enters_20 : decode cX12_enters 20 = .ok (.return_, 1) := by decide +kernel
theorem dX12_isStreet_0 : decode cX12_isStreet 0 = .ok (.iload_n 1, 1) := by decide +kernel
theorem dX12_isStreet_1 : decode cX12_isStreet 1 = .ok (.i2l, 1) := by decide +kernel
theorem dX12_isStreet_2 : decode cX12_isStreet 2 = .ok (.lconst 0, 1) := by decide +kernel
theorem dX12_isStreet_3 : decode cX12_isStreet 3 = .ok (.aload_n 0, 1) := by decide +kernel
theorem dX12_isStreet_4 : decode cX12_isStreet 4 = .ok (.getfield 137, 3) := by decide +kernel
theorem dX12_isStreet_7 : decode cX12_isStreet 7 = .ok (.iconst 1, 1) := by decide +kernel
theorem dX12_isStreet_8 : decode cX12_isStreet 8 = .ok (.isub, 1) := by decide +kernel
theorem dX12_isStreet_9 : decode cX12_isStreet 9 = .ok (.i2l, 1) := by decide +kernel
theorem dX12_isStreet_10 : decode cX12_isStreet 10 = .ok (.invokestatic 140, 3) := by decide +kernel
theorem dX12_isStreet_13 : decode cX12_isStreet 13 = .ok (.ireturn, 1) := by decide +kernel
theorem dX12_all_0 : decode cX12_all 0 = .ok (.iconst 1, 1) := by decide +kernel
theorem dX12_all_1 : decode cX12_all 1 = .ok (.aload_n 0, 1) := by decide +kernel
theorem dX12_all_2 : decode cX12_all 2 = .ok (.getfield 137, 3) := by decide +kernel
theorem dX12_all_5 : decode cX12_all 5 = .ok (.ishl, 1) := by decide +kernel
theorem dX12_all_6 : decode cX12_all 6 = .ok (.iconst 1, 1) := by decide +kernel
theorem dX12_all_7 : decode cX12_all 7 = .ok (.isub, 1) := by decide +kernel
theorem dX12_all_8 : decode cX12_all 8 = .ok (.ireturn, 1) := by decide +kernel
theorem dX12_at_0 : decode cX12_at 0 = .ok (.bipush 16, 2) := by decide +kernel
theorem dX12_at_2 : decode cX12_at 2 = .ok (.iload_n 0, 1) := by decide +kernel
theorem dX12_at_3 : decode cX12_at 3 = .ok (.imul, 1) := by decide +kernel
theorem dX12_at_4 : decode cX12_at 4 = .ok (.bipush 8, 2) := by decide +kernel
theorem dX12_at_6 : decode cX12_at 6 = .ok (.iload_n 1, 1) := by decide +kernel
theorem dX12_at_7 : decode cX12_at 7 = .ok (.imul, 1) := by decide +kernel
theorem dX12_at_8 : decode cX12_at 8 = .ok (.iadd, 1) := by decide +kernel
theorem dX12_at_9 : decode cX12_at 9 = .ok (.iload_n 2, 1) := by decide +kernel
theorem dX12_at_10 : decode cX12_at 10 = .ok (.iadd, 1) := by decide +kernel
theorem dX12_at_11 : decode cX12_at 11 = .ok (.ireturn, 1) := by decide +kernel
theorem dX12_isHouse_0 : decode cX12_isHouse 0 = .ok (.aload_n 0, 1) := by decide +kernel
theorem dX12_isHouse_1 : decode cX12_isHouse 1 = .ok (.iload_n 1, 1) := by decide +kernel
theorem dX12_isHouse_2 : decode cX12_isHouse 2 = .ok (.invokevirtual 144, 3) := by decide +kernel
theorem dX12_isHouse_5 : decode cX12_isHouse 5 = .ok (.ifCond .eq 35, 3) := by decide +kernel
theorem dX12_isHouse_8 : decode cX12_isHouse 8 = .ok (.iload_n 2, 1) := by decide +kernel
theorem dX12_isHouse_9 : decode cX12_isHouse 9 = .ok (.i2l, 1) := by decide +kernel
theorem dX12_isHouse_10 : decode cX12_isHouse 10 = .ok (.lconst 0, 1) := by decide +kernel
theorem dX12_isHouse_11 : decode cX12_isHouse 11 = .ok (.lconst 1, 1) := by decide +kernel
theorem dX12_isHouse_12 : decode cX12_isHouse 12 = .ok (.invokestatic 140, 3) := by decide +kernel
theorem dX12_isHouse_15 : decode cX12_isHouse 15 = .ok (.ifCond .eq 25, 3) := by decide +kernel
theorem dX12_isHouse_18 : decode cX12_isHouse 18 = .ok (.iload_n 3, 1) := by decide +kernel
theorem dX12_isHouse_19 : decode cX12_isHouse 19 = .ok (.i2l, 1) := by decide +kernel
theorem dX12_isHouse_20 : decode cX12_isHouse 20 = .ok (.lconst 0, 1) := by decide +kernel
theorem dX12_isHouse_21 : decode cX12_isHouse 21 = .ok (.aload_n 0, 1) := by decide +kernel
theorem dX12_isHouse_22 : decode cX12_isHouse 22 = .ok (.getfield 17, 3) := by decide +kernel
theorem dX12_isHouse_25 : decode cX12_isHouse 25 = .ok (.iload_n 1, 1) := by decide +kernel
theorem dX12_isHouse_26 : decode cX12_isHouse 26 = .ok (.iaload, 1) := by decide +kernel
theorem dX12_isHouse_27 : decode cX12_isHouse 27 = .ok (.iconst 1, 1) := by decide +kernel
theorem dX12_isHouse_28 : decode cX12_isHouse 28 = .ok (.isub, 1) := by decide +kernel
theorem dX12_isHouse_29 : decode cX12_isHouse 29 = .ok (.i2l, 1) := by decide +kernel
theorem dX12_isHouse_30 : decode cX12_isHouse 30 = .ok (.invokestatic 140, 3) := by decide +kernel
theorem dX12_isHouse_33 : decode cX12_isHouse 33 = .ok (.ifCond .eq 7, 3) := by decide +kernel
theorem dX12_isHouse_36 : decode cX12_isHouse 36 = .ok (.iconst 1, 1) := by decide +kernel
theorem dX12_isHouse_37 : decode cX12_isHouse 37 = .ok (.goto 4, 3) := by decide +kernel
theorem dX12_isHouse_40 : decode cX12_isHouse 40 = .ok (.iconst 0, 1) := by decide +kernel
theorem dX12_isHouse_41 : decode cX12_isHouse 41 = .ok (.ireturn, 1) := by decide +kernel
theorem dX12_sign_0 : decode cX12_sign 0 = .ok (.aload_n 0, 1) := by decide +kernel
theorem dX12_sign_1 : decode cX12_sign 1 = .ok (.iconst 0, 1) := by decide +kernel
theorem dX12_sign_2 : decode cX12_sign 2 = .ok (.putfield 126, 3) := by decide +kernel
theorem dX12_sign_5 : decode cX12_sign 5 = .ok (.aload_n 0, 1) := by decide +kernel
theorem dX12_sign_6 : decode cX12_sign 6 = .ok (.getfield 148, 3) := by decide +kernel
theorem dX12_sign_9 : decode cX12_sign 9 = .ok (.bipush 76, 2) := by decide +kernel
theorem dX12_sign_11 : decode cX12_sign 11 = .ok (.if_icmp .le 5, 3) := by decide +kernel
theorem dX12_sign_14 : decode cX12_sign 14 = .ok (.iconst (-1), 1) := by decide +kernel
theorem dX12_sign_15 : decode cX12_sign 15 = .ok (.ireturn, 1) := by decide +kernel
theorem dX12_sign_16 : decode cX12_sign 16 = .ok (.iconst 0, 1) := by decide +kernel
theorem dX12_sign_17 : decode cX12_sign 17 = .ok (.istore_n 2, 1) := by decide +kernel
theorem dX12_sign_18 : decode cX12_sign 18 = .ok (.iload_n 2, 1) := by decide +kernel
theorem dX12_sign_19 : decode cX12_sign 19 = .ok (.iconst 4, 1) := by decide +kernel
theorem dX12_sign_20 : decode cX12_sign 20 = .ok (.if_icmp .ge 33, 3) := by decide +kernel
theorem dX12_sign_23 : decode cX12_sign 23 = .ok (.aload_n 0, 1) := by decide +kernel
theorem dX12_sign_24 : decode cX12_sign 24 = .ok (.getfield 48, 3) := by decide +kernel
theorem dX12_sign_27 : decode cX12_sign 27 = .ok (.aload_n 0, 1) := by decide +kernel
theorem dX12_sign_28 : decode cX12_sign 28 = .ok (.getfield 148, 3) := by decide +kernel
theorem dX12_sign_31 : decode cX12_sign 31 = .ok (.iload_n 2, 1) := by decide +kernel
theorem dX12_sign_32 : decode cX12_sign 32 = .ok (.iadd, 1) := by decide +kernel
theorem dX12_sign_33 : decode cX12_sign 33 = .ok (.iload_n 1, 1) := by decide +kernel
theorem dX12_sign_34 : decode cX12_sign 34 = .ok (.bipush 24, 2) := by decide +kernel
theorem dX12_sign_36 : decode cX12_sign 36 = .ok (.bipush 8, 2) := by decide +kernel
theorem dX12_sign_38 : decode cX12_sign 38 = .ok (.iload_n 2, 1) := by decide +kernel
theorem dX12_sign_39 : decode cX12_sign 39 = .ok (.imul, 1) := by decide +kernel
theorem dX12_sign_40 : decode cX12_sign 40 = .ok (.isub, 1) := by decide +kernel
theorem dX12_sign_41 : decode cX12_sign 41 = .ok (.ishr, 1) := by decide +kernel
theorem dX12_sign_42 : decode cX12_sign 42 = .ok (.sipush 255, 3) := by decide +kernel
theorem dX12_sign_45 : decode cX12_sign 45 = .ok (.iand, 1) := by decide +kernel
theorem dX12_sign_46 : decode cX12_sign 46 = .ok (.iastore, 1) := by decide +kernel
theorem dX12_sign_47 : decode cX12_sign 47 = .ok (.iinc 2 1, 3) := by decide +kernel
theorem dX12_sign_50 : decode cX12_sign 50 = .ok (.goto (-32), 3) := by decide +kernel
theorem dX12_sign_53 : decode cX12_sign 53 = .ok (.aload_n 0, 1) := by decide +kernel
theorem dX12_sign_54 : decode cX12_sign 54 = .ok (.dup, 1) := by decide +kernel
theorem dX12_sign_55 : decode cX12_sign 55 = .ok (.getfield 148, 3) := by decide +kernel
theorem dX12_sign_58 : decode cX12_sign 58 = .ok (.iconst 4, 1) := by decide +kernel
theorem dX12_sign_59 : decode cX12_sign 59 = .ok (.iadd, 1) := by decide +kernel
theorem dX12_sign_60 : decode cX12_sign 60 = .ok (.putfield 148, 3) := by decide +kernel
theorem dX12_sign_63 : decode cX12_sign 63 = .ok (.aload_n 0, 1) := by decide +kernel
theorem dX12_sign_64 : decode cX12_sign 64 = .ok (.getfield 148, 3) := by decide +kernel
theorem dX12_sign_67 : decode cX12_sign 67 = .ok (.ireturn, 1) := by decide +kernel
theorem dX12_end_0 : decode cX12_end 0 = .ok (.aload_n 0, 1) := by decide +kernel
theorem dX12_end_1 : decode cX12_end 1 = .ok (.iconst 0, 1) := by decide +kernel
theorem dX12_end_2 : decode cX12_end 2 = .ok (.putfield 126, 3) := by decide +kernel
theorem dX12_end_5 : decode cX12_end 5 = .ok (.iload_n 1, 1) := by decide +kernel
theorem dX12_end_6 : decode cX12_end 6 = .ok (.i2l, 1) := by decide +kernel
theorem dX12_end_7 : decode cX12_end 7 = .ok (.lconst 0, 1) := by decide +kernel
theorem dX12_end_8 : decode cX12_end 8 = .ok (.aload_n 0, 1) := by decide +kernel
theorem dX12_end_9 : decode cX12_end 9 = .ok (.getfield 148, 3) := by decide +kernel
theorem dX12_end_12 : decode cX12_end 12 = .ok (.i2l, 1) := by decide +kernel
theorem dX12_end_13 : decode cX12_end 13 = .ok (.invokestatic 140, 3) := by decide +kernel
theorem dX12_end_16 : decode cX12_end 16 = .ok (.ifCond .ne 5, 3) := by decide +kernel
theorem dX12_end_19 : decode cX12_end 19 = .ok (.iconst 0, 1) := by decide +kernel
theorem dX12_end_20 : decode cX12_end 20 = .ok (.ireturn, 1) := by decide +kernel
theorem dX12_end_21 : decode cX12_end 21 = .ok (.aload_n 0, 1) := by decide +kernel
theorem dX12_end_22 : decode cX12_end 22 = .ok (.iload_n 1, 1) := by decide +kernel
theorem dX12_end_23 : decode cX12_end 23 = .ok (.putfield 148, 3) := by decide +kernel
theorem dX12_end_26 : decode cX12_end 26 = .ok (.iconst 1, 1) := by decide +kernel
theorem dX12_end_27 : decode cX12_end 27 = .ok (.ireturn, 1) := by decide +kernel
theorem dX12_begins_0 : decode cX12_begins 0 = .ok (.aload_n 0, 1) := by decide +kernel
theorem dX12_begins_1 : decode cX12_begins 1 = .ok (.getfield 148, 3) := by decide +kernel
theorem dX12_begins_4 : decode cX12_begins 4 = .ok (.istore_n 2, 1) := by decide +kernel
theorem dX12_begins_5 : decode cX12_begins 5 = .ok (.aload_n 0, 1) := by decide +kernel
theorem dX12_begins_6 : decode cX12_begins 6 = .ok (.iconst 0, 1) := by decide +kernel
theorem dX12_begins_7 : decode cX12_begins 7 = .ok (.putfield 148, 3) := by decide +kernel
theorem dX12_begins_10 : decode cX12_begins 10 = .ok (.aload_n 0, 1) := by decide +kernel
theorem dX12_begins_11 : decode cX12_begins 11 = .ok (.iconst 0, 1) := by decide +kernel
theorem dX12_begins_12 : decode cX12_begins 12 = .ok (.putfield 151, 3) := by decide +kernel
theorem dX12_begins_15 : decode cX12_begins 15 = .ok (.aload_n 0, 1) := by decide +kernel
theorem dX12_begins_16 : decode cX12_begins 16 = .ok (.iconst 0, 1) := by decide +kernel
theorem dX12_begins_17 : decode cX12_begins 17 = .ok (.putfield 154, 3) := by decide +kernel
theorem dX12_begins_20 : decode cX12_begins 20 = .ok (.aload_n 0, 1) := by decide +kernel
theorem dX12_begins_21 : decode cX12_begins 21 = .ok (.iload_n 2, 1) := by decide +kernel
theorem dX12_begins_22 : decode cX12_begins 22 = .ok (.iload_n 1, 1) := by decide +kernel
theorem dX12_begins_23 : decode cX12_begins 23 = .ok (.invokestatic 157, 3) := by decide +kernel
theorem dX12_begins_26 : decode cX12_begins 26 = .ok (.putfield 163, 3) := by decide +kernel
theorem dX12_begins_29 : decode cX12_begins 29 = .ok (.iload_n 2, 1) := by decide +kernel
theorem dX12_begins_30 : decode cX12_begins 30 = .ok (.ireturn, 1) := by decide +kernel
theorem dX12_isNext_0 : decode cX12_isNext 0 = .ok (.aload_n 0, 1) := by decide +kernel
theorem dX12_isNext_1 : decode cX12_isNext 1 = .ok (.getfield 151, 3) := by decide +kernel
theorem dX12_isNext_4 : decode cX12_isNext 4 = .ok (.aload_n 0, 1) := by decide +kernel
theorem dX12_isNext_5 : decode cX12_isNext 5 = .ok (.getfield 163, 3) := by decide +kernel
theorem dX12_isNext_8 : decode cX12_isNext 8 = .ok (.if_icmp .ge 20, 3) := by decide +kernel
theorem dX12_isNext_11 : decode cX12_isNext 11 = .ok (.aload_n 0, 1) := by decide +kernel
theorem dX12_isNext_12 : decode cX12_isNext 12 = .ok (.getfield 48, 3) := by decide +kernel
theorem dX12_isNext_15 : decode cX12_isNext 15 = .ok (.aload_n 0, 1) := by decide +kernel
theorem dX12_isNext_16 : decode cX12_isNext 16 = .ok (.getfield 151, 3) := by decide +kernel
theorem dX12_isNext_19 : decode cX12_isNext 19 = .ok (.iaload, 1) := by decide +kernel
theorem dX12_isNext_20 : decode cX12_isNext 20 = .ok (.iload_n 1, 1) := by decide +kernel
theorem dX12_isNext_21 : decode cX12_isNext 21 = .ok (.if_icmp .ne 7, 3) := by decide +kernel
theorem dX12_isNext_24 : decode cX12_isNext 24 = .ok (.iconst 1, 1) := by decide +kernel
theorem dX12_isNext_25 : decode cX12_isNext 25 = .ok (.goto 4, 3) := by decide +kernel
theorem dX12_isNext_28 : decode cX12_isNext 28 = .ok (.iconst 0, 1) := by decide +kernel
