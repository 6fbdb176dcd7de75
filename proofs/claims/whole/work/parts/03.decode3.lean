theorem dX12_isNext_29 : decode cX12_isNext 29 = .ok (.istore_n 2, 1) := by decide +kernel
theorem dX12_isNext_30 : decode cX12_isNext 30 = .ok (.aload_n 0, 1) := by decide +kernel
theorem dX12_isNext_31 : decode cX12_isNext 31 = .ok (.dup, 1) := by decide +kernel
theorem dX12_isNext_32 : decode cX12_isNext 32 = .ok (.getfield 151, 3) := by decide +kernel
theorem dX12_isNext_35 : decode cX12_isNext 35 = .ok (.iload_n 2, 1) := by decide +kernel
theorem dX12_isNext_36 : decode cX12_isNext 36 = .ok (.invokestatic 166, 3) := by decide +kernel
theorem dX12_isNext_39 : decode cX12_isNext 39 = .ok (.iadd, 1) := by decide +kernel
theorem dX12_isNext_40 : decode cX12_isNext 40 = .ok (.putfield 151, 3) := by decide +kernel
theorem dX12_isNext_43 : decode cX12_isNext 43 = .ok (.iload_n 2, 1) := by decide +kernel
theorem dX12_isNext_44 : decode cX12_isNext 44 = .ok (.ireturn, 1) := by decide +kernel
theorem dX12_isDigit_0 : decode cX12_isDigit 0 = .ok (.aload_n 0, 1) := by decide +kernel
theorem dX12_isDigit_1 : decode cX12_isDigit 1 = .ok (.getfield 151, 3) := by decide +kernel
theorem dX12_isDigit_4 : decode cX12_isDigit 4 = .ok (.aload_n 0, 1) := by decide +kernel
theorem dX12_isDigit_5 : decode cX12_isDigit 5 = .ok (.getfield 163, 3) := by decide +kernel
theorem dX12_isDigit_8 : decode cX12_isDigit 8 = .ok (.if_icmp .ge 29, 3) := by decide +kernel
theorem dX12_isDigit_11 : decode cX12_isDigit 11 = .ok (.aload_n 0, 1) := by decide +kernel
theorem dX12_isDigit_12 : decode cX12_isDigit 12 = .ok (.getfield 48, 3) := by decide +kernel
theorem dX12_isDigit_15 : decode cX12_isDigit 15 = .ok (.aload_n 0, 1) := by decide +kernel
theorem dX12_isDigit_16 : decode cX12_isDigit 16 = .ok (.getfield 151, 3) := by decide +kernel
theorem dX12_isDigit_19 : decode cX12_isDigit 19 = .ok (.iaload, 1) := by decide +kernel
theorem dX12_isDigit_20 : decode cX12_isDigit 20 = .ok (.i2l, 1) := by decide +kernel
theorem dX12_isDigit_21 : decode cX12_isDigit 21 = .ok (.ldc2_w 170, 3) := by decide +kernel
theorem dX12_isDigit_24 : decode cX12_isDigit 24 = .ok (.ldc2_w 172, 3) := by decide +kernel
theorem dX12_isDigit_27 : decode cX12_isDigit 27 = .ok (.invokestatic 140, 3) := by decide +kernel
theorem dX12_isDigit_30 : decode cX12_isDigit 30 = .ok (.ifCond .eq 7, 3) := by decide +kernel
theorem dX12_isDigit_33 : decode cX12_isDigit 33 = .ok (.iconst 1, 1) := by decide +kernel
theorem dX12_isDigit_34 : decode cX12_isDigit 34 = .ok (.goto 4, 3) := by decide +kernel
theorem dX12_isDigit_37 : decode cX12_isDigit 37 = .ok (.iconst 0, 1) := by decide +kernel
theorem dX12_isDigit_38 : decode cX12_isDigit 38 = .ok (.ireturn, 1) := by decide +kernel
theorem dX12_among_0 : decode cX12_among 0 = .ok (.iconst 0, 1) := by decide +kernel
theorem dX12_among_1 : decode cX12_among 1 = .ok (.istore_n 2, 1) := by decide +kernel
theorem dX12_among_2 : decode cX12_among 2 = .ok (.iload_n 2, 1) := by decide +kernel
theorem dX12_among_3 : decode cX12_among 3 = .ok (.aload_n 1, 1) := by decide +kernel
theorem dX12_among_4 : decode cX12_among 4 = .ok (.invokevirtual 174, 3) := by decide +kernel
theorem dX12_among_7 : decode cX12_among 7 = .ok (.if_icmp .ge 39, 3) := by decide +kernel
theorem dX12_among_10 : decode cX12_among 10 = .ok (.aload_n 0, 1) := by decide +kernel
theorem dX12_among_11 : decode cX12_among 11 = .ok (.getfield 151, 3) := by decide +kernel
theorem dX12_among_14 : decode cX12_among 14 = .ok (.aload_n 0, 1) := by decide +kernel
theorem dX12_among_15 : decode cX12_among 15 = .ok (.getfield 163, 3) := by decide +kernel
theorem dX12_among_18 : decode cX12_among 18 = .ok (.if_icmp .ge 28, 3) := by decide +kernel
theorem dX12_among_21 : decode cX12_among 21 = .ok (.aload_n 1, 1) := by decide +kernel
theorem dX12_among_22 : decode cX12_among 22 = .ok (.iload_n 2, 1) := by decide +kernel
theorem dX12_among_23 : decode cX12_among 23 = .ok (.invokevirtual 180, 3) := by decide +kernel
theorem dX12_among_26 : decode cX12_among 26 = .ok (.aload_n 0, 1) := by decide +kernel
theorem dX12_among_27 : decode cX12_among 27 = .ok (.getfield 48, 3) := by decide +kernel
theorem dX12_among_30 : decode cX12_among 30 = .ok (.aload_n 0, 1) := by decide +kernel
theorem dX12_among_31 : decode cX12_among 31 = .ok (.getfield 151, 3) := by decide +kernel
theorem dX12_among_34 : decode cX12_among 34 = .ok (.iaload, 1) := by decide +kernel
theorem dX12_among_35 : decode cX12_among 35 = .ok (.if_icmp .ne 5, 3) := by decide +kernel
theorem dX12_among_38 : decode cX12_among 38 = .ok (.iload_n 2, 1) := by decide +kernel
theorem dX12_among_39 : decode cX12_among 39 = .ok (.ireturn, 1) := by decide +kernel
theorem dX12_among_40 : decode cX12_among 40 = .ok (.iinc 2 1, 3) := by decide +kernel
theorem dX12_among_43 : decode cX12_among 43 = .ok (.goto (-41), 3) := by decide +kernel
theorem dX12_among_46 : decode cX12_among 46 = .ok (.iconst (-1), 1) := by decide +kernel
theorem dX12_among_47 : decode cX12_among 47 = .ok (.ireturn, 1) := by decide +kernel
theorem dX12_takesOf_0 : decode cX12_takesOf 0 = .ok (.aload_n 0, 1) := by decide +kernel
theorem dX12_takesOf_1 : decode cX12_takesOf 1 = .ok (.aload_n 1, 1) := by decide +kernel
theorem dX12_takesOf_2 : decode cX12_takesOf 2 = .ok (.invokevirtual 184, 3) := by decide +kernel
theorem dX12_takesOf_5 : decode cX12_takesOf 5 = .ok (.istore_n 2, 1) := by decide +kernel
theorem dX12_takesOf_6 : decode cX12_takesOf 6 = .ok (.aload_n 0, 1) := by decide +kernel
theorem dX12_takesOf_7 : decode cX12_takesOf 7 = .ok (.dup, 1) := by decide +kernel
theorem dX12_takesOf_8 : decode cX12_takesOf 8 = .ok (.getfield 151, 3) := by decide +kernel
theorem dX12_takesOf_11 : decode cX12_takesOf 11 = .ok (.iload_n 2, 1) := by decide +kernel
theorem dX12_takesOf_12 : decode cX12_takesOf 12 = .ok (.ifCond .lt 7, 3) := by decide +kernel
theorem dX12_takesOf_15 : decode cX12_takesOf 15 = .ok (.iconst 1, 1) := by decide +kernel
theorem dX12_takesOf_16 : decode cX12_takesOf 16 = .ok (.goto 4, 3) := by decide +kernel
theorem dX12_takesOf_19 : decode cX12_takesOf 19 = .ok (.iconst 0, 1) := by decide +kernel
theorem dX12_takesOf_20 : decode cX12_takesOf 20 = .ok (.invokestatic 166, 3) := by decide +kernel
theorem dX12_takesOf_23 : decode cX12_takesOf 23 = .ok (.iadd, 1) := by decide +kernel
theorem dX12_takesOf_24 : decode cX12_takesOf 24 = .ok (.putfield 151, 3) := by decide +kernel
theorem dX12_takesOf_27 : decode cX12_takesOf 27 = .ok (.iload_n 2, 1) := by decide +kernel
theorem dX12_takesOf_28 : decode cX12_takesOf 28 = .ok (.ireturn, 1) := by decide +kernel
theorem dX12_number_0 : decode cX12_number 0 = .ok (.aload_n 0, 1) := by decide +kernel
theorem dX12_number_1 : decode cX12_number 1 = .ok (.invokevirtual 188, 3) := by decide +kernel
theorem dX12_number_4 : decode cX12_number 4 = .ok (.ifCond .ne 5, 3) := by decide +kernel
theorem dX12_number_7 : decode cX12_number 7 = .ok (.iconst (-1), 1) := by decide +kernel
theorem dX12_number_8 : decode cX12_number 8 = .ok (.ireturn, 1) := by decide +kernel
theorem dX12_number_9 : decode cX12_number 9 = .ok (.iconst 0, 1) := by decide +kernel
theorem dX12_number_10 : decode cX12_number 10 = .ok (.istore_n 2, 1) := by decide +kernel
theorem dX12_number_11 : decode cX12_number 11 = .ok (.iconst 0, 1) := by decide +kernel
theorem dX12_number_12 : decode cX12_number 12 = .ok (.istore_n 3, 1) := by decide +kernel
theorem dX12_number_13 : decode cX12_number 13 = .ok (.iload_n 3, 1) := by decide +kernel
theorem dX12_number_14 : decode cX12_number 14 = .ok (.iload_n 1, 1) := by decide +kernel
theorem dX12_number_15 : decode cX12_number 15 = .ok (.if_icmp .ge 44, 3) := by decide +kernel
theorem dX12_number_18 : decode cX12_number 18 = .ok (.aload_n 0, 1) := by decide +kernel
theorem dX12_number_19 : decode cX12_number 19 = .ok (.invokevirtual 188, 3) := by decide +kernel
theorem dX12_number_22 : decode cX12_number 22 = .ok (.ifCond .eq 37, 3) := by decide +kernel
theorem dX12_number_25 : decode cX12_number 25 = .ok (.bipush 10, 2) := by decide +kernel
theorem dX12_number_27 : decode cX12_number 27 = .ok (.iload_n 2, 1) := by decide +kernel
theorem dX12_number_28 : decode cX12_number 28 = .ok (.imul, 1) := by decide +kernel
theorem dX12_number_29 : decode cX12_number 29 = .ok (.aload_n 0, 1) := by decide +kernel
theorem dX12_number_30 : decode cX12_number 30 = .ok (.getfield 48, 3) := by decide +kernel
theorem dX12_number_33 : decode cX12_number 33 = .ok (.aload_n 0, 1) := by decide +kernel
theorem dX12_number_34 : decode cX12_number 34 = .ok (.getfield 151, 3) := by decide +kernel
theorem dX12_number_37 : decode cX12_number 37 = .ok (.iaload, 1) := by decide +kernel
theorem dX12_number_38 : decode cX12_number 38 = .ok (.iadd, 1) := by decide +kernel
theorem dX12_number_39 : decode cX12_number 39 = .ok (.bipush 48, 2) := by decide +kernel
theorem dX12_number_41 : decode cX12_number 41 = .ok (.isub, 1) := by decide +kernel
theorem dX12_number_42 : decode cX12_number 42 = .ok (.istore_n 2, 1) := by decide +kernel
theorem dX12_number_43 : decode cX12_number 43 = .ok (.aload_n 0, 1) := by decide +kernel
theorem dX12_number_44 : decode cX12_number 44 = .ok (.dup, 1) := by decide +kernel
theorem dX12_number_45 : decode cX12_number 45 = .ok (.getfield 151, 3) := by decide +kernel
theorem dX12_number_48 : decode cX12_number 48 = .ok (.iconst 1, 1) := by decide +kernel
theorem dX12_number_49 : decode cX12_number 49 = .ok (.iadd, 1) := by decide +kernel
theorem dX12_number_50 : decode cX12_number 50 = .ok (.putfield 151, 3) := by decide +kernel
theorem dX12_number_53 : decode cX12_number 53 = .ok (.iinc 3 1, 3) := by decide +kernel
theorem dX12_number_56 : decode cX12_number 56 = .ok (.goto (-43), 3) := by decide +kernel
theorem dX12_number_59 : decode cX12_number 59 = .ok (.iload_n 2, 1) := by decide +kernel
theorem dX12_number_60 : decode cX12_number 60 = .ok (.ireturn, 1) := by decide +kernel
theorem dX12_faultOf_0 : decode cX12_faultOf 0 = .ok (.iload_n 3, 1) := by decide +kernel
theorem dX12_faultOf_1 : decode cX12_faultOf 1 = .ok (.ifCond .eq 18, 3) := by decide +kernel
theorem dX12_faultOf_4 : decode cX12_faultOf 4 = .ok (.aload_n 0, 1) := by decide +kernel
theorem dX12_faultOf_5 : decode cX12_faultOf 5 = .ok (.getfield 151, 3) := by decide +kernel
theorem dX12_faultOf_8 : decode cX12_faultOf 8 = .ok (.aload_n 0, 1) := by decide +kernel
theorem dX12_faultOf_9 : decode cX12_faultOf 9 = .ok (.getfield 163, 3) := by decide +kernel
theorem dX12_faultOf_12 : decode cX12_faultOf 12 = .ok (.if_icmp .ne 7, 3) := by decide +kernel
theorem dX12_faultOf_15 : decode cX12_faultOf 15 = .ok (.iconst 1, 1) := by decide +kernel
theorem dX12_faultOf_16 : decode cX12_faultOf 16 = .ok (.goto 4, 3) := by decide +kernel
theorem dX12_faultOf_19 : decode cX12_faultOf 19 = .ok (.iconst 0, 1) := by decide +kernel
theorem dX12_faultOf_20 : decode cX12_faultOf 20 = .ok (.istore 4, 2) := by decide +kernel
theorem dX12_faultOf_22 : decode cX12_faultOf 22 = .ok (.iload_n 1, 1) := by decide +kernel
theorem dX12_faultOf_23 : decode cX12_faultOf 23 = .ok (.iload_n 2, 1) := by decide +kernel
theorem dX12_faultOf_24 : decode cX12_faultOf 24 = .ok (.if_icmp .le 20, 3) := by decide +kernel
theorem dX12_faultOf_27 : decode cX12_faultOf 27 = .ok (.iload 4, 2) := by decide +kernel
theorem dX12_faultOf_29 : decode cX12_faultOf 29 = .ok (.ifCond .ne 11, 3) := by decide +kernel
theorem dX12_faultOf_32 : decode cX12_faultOf 32 = .ok (.aload_n 0, 1) := by decide +kernel
theorem dX12_faultOf_33 : decode cX12_faultOf 33 = .ok (.getfield 151, 3) := by decide +kernel
theorem dX12_faultOf_36 : decode cX12_faultOf 36 = .ok (.iload_n 2, 1) := by decide +kernel
theorem dX12_faultOf_37 : decode cX12_faultOf 37 = .ok (.if_icmp .lt 7, 3) := by decide +kernel
theorem dX12_faultOf_40 : decode cX12_faultOf 40 = .ok (.iconst (-1), 1) := by decide +kernel
theorem dX12_faultOf_41 : decode cX12_faultOf 41 = .ok (.iload_n 2, 1) := by decide +kernel
theorem dX12_faultOf_42 : decode cX12_faultOf 42 = .ok (.isub, 1) := by decide +kernel
theorem dX12_faultOf_43 : decode cX12_faultOf 43 = .ok (.ireturn, 1) := by decide +kernel
theorem dX12_faultOf_44 : decode cX12_faultOf 44 = .ok (.iload 4, 2) := by decide +kernel
theorem dX12_faultOf_46 : decode cX12_faultOf 46 = .ok (.ifCond .eq 7, 3) := by decide +kernel
theorem dX12_faultOf_49 : decode cX12_faultOf 49 = .ok (.iconst 0, 1) := by decide +kernel
theorem dX12_faultOf_50 : decode cX12_faultOf 50 = .ok (.goto 9, 3) := by decide +kernel
theorem dX12_faultOf_53 : decode cX12_faultOf 53 = .ok (.iconst (-1), 1) := by decide +kernel
theorem dX12_faultOf_54 : decode cX12_faultOf 54 = .ok (.aload_n 0, 1) := by decide +kernel
theorem dX12_faultOf_55 : decode cX12_faultOf 55 = .ok (.getfield 151, 3) := by decide +kernel
theorem dX12_faultOf_58 : decode cX12_faultOf 58 = .ok (.isub, 1) := by decide +kernel
theorem dX12_faultOf_59 : decode cX12_faultOf 59 = .ok (.ireturn, 1) := by decide +kernel
theorem dX12_readsStreet_0 : decode cX12_readsStreet 0 = .ok (.aload_n 0, 1) := by decide +kernel
theorem dX12_readsStreet_1 : decode cX12_readsStreet 1 = .ok (.getfield 137, 3) := by decide +kernel
theorem dX12_readsStreet_4 : decode cX12_readsStreet 4 = .ok (.aload_n 0, 1) := by decide +kernel
theorem dX12_readsStreet_5 : decode cX12_readsStreet 5 = .ok (.getfield 192, 3) := by decide +kernel
theorem dX12_readsStreet_8 : decode cX12_readsStreet 8 = .ok (.iadd, 1) := by decide +kernel
theorem dX12_readsStreet_9 : decode cX12_readsStreet 9 = .ok (.bipush 6, 2) := by decide +kernel
theorem dX12_readsStreet_11 : decode cX12_readsStreet 11 = .ok (.if_icmp .eq 12, 3) := by decide +kernel
theorem dX12_readsStreet_14 : decode cX12_readsStreet 14 = .ok (.aload_n 0, 1) := by decide +kernel
theorem dX12_readsStreet_15 : decode cX12_readsStreet 15 = .ok (.bipush 115, 2) := by decide +kernel
theorem dX12_readsStreet_17 : decode cX12_readsStreet 17 = .ok (.invokevirtual 195, 3) := by decide +kernel
theorem dX12_readsStreet_20 : decode cX12_readsStreet 20 = .ok (.ifCond .ne 5, 3) := by decide +kernel
theorem dX12_readsStreet_23 : decode cX12_readsStreet 23 = .ok (.iconst 0, 1) := by decide +kernel
theorem dX12_readsStreet_24 : decode cX12_readsStreet 24 = .ok (.ireturn, 1) := by decide +kernel
theorem dX12_readsStreet_25 : decode cX12_readsStreet 25 = .ok (.bipush 6, 2) := by decide +kernel
theorem dX12_readsStreet_27 : decode cX12_readsStreet 27 = .ok (.aload_n 0, 1) := by decide +kernel
theorem dX12_readsStreet_28 : decode cX12_readsStreet 28 = .ok (.getfield 192, 3) := by decide +kernel
theorem dX12_readsStreet_31 : decode cX12_readsStreet 31 = .ok (.imul, 1) := by decide +kernel
theorem dX12_readsStreet_32 : decode cX12_readsStreet 32 = .ok (.istore_n 1, 1) := by decide +kernel
theorem dX12_readsStreet_33 : decode cX12_readsStreet 33 = .ok (.aload_n 0, 1) := by decide +kernel
theorem dX12_readsStreet_34 : decode cX12_readsStreet 34 = .ok (.getfield 51, 3) := by decide +kernel
theorem dX12_readsStreet_37 : decode cX12_readsStreet 37 = .ok (.iload_n 1, 1) := by decide +kernel
theorem dX12_readsStreet_38 : decode cX12_readsStreet 38 = .ok (.aload_n 0, 1) := by decide +kernel
theorem dX12_readsStreet_39 : decode cX12_readsStreet 39 = .ok (.iconst 2, 1) := by decide +kernel
theorem dX12_readsStreet_40 : decode cX12_readsStreet 40 = .ok (.invokevirtual 198, 3) := by decide +kernel
theorem dX12_readsStreet_43 : decode cX12_readsStreet 43 = .ok (.iastore, 1) := by decide +kernel
theorem dX12_readsStreet_44 : decode cX12_readsStreet 44 = .ok (.aload_n 0, 1) := by decide +kernel
theorem dX12_readsStreet_45 : decode cX12_readsStreet 45 = .ok (.getfield 51, 3) := by decide +kernel
theorem dX12_readsStreet_48 : decode cX12_readsStreet 48 = .ok (.iload_n 1, 1) := by decide +kernel
theorem dX12_readsStreet_49 : decode cX12_readsStreet 49 = .ok (.iaload, 1) := by decide +kernel
theorem dX12_readsStreet_50 : decode cX12_readsStreet 50 = .ok (.ifCond .lt 12, 3) := by decide +kernel
theorem dX12_readsStreet_53 : decode cX12_readsStreet 53 = .ok (.aload_n 0, 1) := by decide +kernel
theorem dX12_readsStreet_54 : decode cX12_readsStreet 54 = .ok (.bipush 58, 2) := by decide +kernel
theorem dX12_readsStreet_56 : decode cX12_readsStreet 56 = .ok (.invokevirtual 195, 3) := by decide +kernel
theorem dX12_readsStreet_59 : decode cX12_readsStreet 59 = .ok (.ifCond .ne 5, 3) := by decide +kernel
theorem dX12_readsStreet_62 : decode cX12_readsStreet 62 = .ok (.iconst 0, 1) := by decide +kernel
theorem dX12_readsStreet_63 : decode cX12_readsStreet 63 = .ok (.ireturn, 1) := by decide +kernel
theorem dX12_readsStreet_64 : decode cX12_readsStreet 64 = .ok (.iconst 0, 1) := by decide +kernel
theorem dX12_readsStreet_65 : decode cX12_readsStreet 65 = .ok (.istore_n 2, 1) := by decide +kernel
theorem dX12_readsStreet_66 : decode cX12_readsStreet 66 = .ok (.iload_n 2, 1) := by decide +kernel
theorem dX12_readsStreet_67 : decode cX12_readsStreet 67 = .ok (.bipush 8, 2) := by decide +kernel
theorem dX12_readsStreet_69 : decode cX12_readsStreet 69 = .ok (.if_icmp .ge 35, 3) := by decide +kernel
theorem dX12_readsStreet_72 : decode cX12_readsStreet 72 = .ok (.aload_n 0, 1) := by decide +kernel
theorem dX12_readsStreet_73 : decode cX12_readsStreet 73 = .ok (.invokevirtual 188, 3) := by decide +kernel
theorem dX12_readsStreet_76 : decode cX12_readsStreet 76 = .ok (.ifCond .eq 28, 3) := by decide +kernel
theorem dX12_readsStreet_79 : decode cX12_readsStreet 79 = .ok (.aload_n 0, 1) := by decide +kernel
theorem dX12_readsStreet_80 : decode cX12_readsStreet 80 = .ok (.getfield 54, 3) := by decide +kernel
theorem dX12_readsStreet_83 : decode cX12_readsStreet 83 = .ok (.aload_n 0, 1) := by decide +kernel
theorem dX12_readsStreet_84 : decode cX12_readsStreet 84 = .ok (.getfield 192, 3) := by decide +kernel
theorem dX12_readsStreet_87 : decode cX12_readsStreet 87 = .ok (.iconst 0, 1) := by decide +kernel
theorem dX12_readsStreet_88 : decode cX12_readsStreet 88 = .ok (.iload_n 2, 1) := by decide +kernel
theorem dX12_readsStreet_89 : decode cX12_readsStreet 89 = .ok (.invokestatic 202, 3) := by decide +kernel
theorem dX12_readsStreet_92 : decode cX12_readsStreet 92 = .ok (.aload_n 0, 1) := by decide +kernel
theorem dX12_readsStreet_93 : decode cX12_readsStreet 93 = .ok (.iconst 1, 1) := by decide +kernel
theorem dX12_readsStreet_94 : decode cX12_readsStreet 94 = .ok (.invokevirtual 198, 3) := by decide +kernel
theorem dX12_readsStreet_97 : decode cX12_readsStreet 97 = .ok (.iastore, 1) := by decide +kernel
theorem dX12_readsStreet_98 : decode cX12_readsStreet 98 = .ok (.iinc 2 1, 3) := by decide +kernel
theorem dX12_readsStreet_101 : decode cX12_readsStreet 101 = .ok (.goto (-35), 3) := by decide +kernel
theorem dX12_readsStreet_104 : decode cX12_readsStreet 104 = .ok (.iload_n 2, 1) := by decide +kernel
theorem dX12_readsStreet_105 : decode cX12_readsStreet 105 = .ok (.ifCond .eq 12, 3) := by decide +kernel
theorem dX12_readsStreet_108 : decode cX12_readsStreet 108 = .ok (.aload_n 0, 1) := by decide +kernel
theorem dX12_readsStreet_109 : decode cX12_readsStreet 109 = .ok (.bipush 47, 2) := by decide +kernel
theorem dX12_readsStreet_111 : decode cX12_readsStreet 111 = .ok (.invokevirtual 195, 3) := by decide +kernel
theorem dX12_readsStreet_114 : decode cX12_readsStreet 114 = .ok (.ifCond .ne 5, 3) := by decide +kernel
theorem dX12_readsStreet_117 : decode cX12_readsStreet 117 = .ok (.iconst 0, 1) := by decide +kernel
theorem dX12_readsStreet_118 : decode cX12_readsStreet 118 = .ok (.ireturn, 1) := by decide +kernel
theorem dX12_readsStreet_119 : decode cX12_readsStreet 119 = .ok (.aload_n 0, 1) := by decide +kernel
theorem dX12_readsStreet_120 : decode cX12_readsStreet 120 = .ok (.getfield 51, 3) := by decide +kernel
theorem dX12_readsStreet_123 : decode cX12_readsStreet 123 = .ok (.iload_n 1, 1) := by decide +kernel
theorem dX12_readsStreet_124 : decode cX12_readsStreet 124 = .ok (.iconst 1, 1) := by decide +kernel
theorem dX12_readsStreet_125 : decode cX12_readsStreet 125 = .ok (.iadd, 1) := by decide +kernel
theorem dX12_readsStreet_126 : decode cX12_readsStreet 126 = .ok (.iload_n 2, 1) := by decide +kernel
theorem dX12_readsStreet_127 : decode cX12_readsStreet 127 = .ok (.iastore, 1) := by decide +kernel
theorem dX12_readsStreet_128 : decode cX12_readsStreet 128 = .ok (.iconst 0, 1) := by decide +kernel
theorem dX12_readsStreet_129 : decode cX12_readsStreet 129 = .ok (.istore_n 3, 1) := by decide +kernel
theorem dX12_readsStreet_130 : decode cX12_readsStreet 130 = .ok (.iload_n 3, 1) := by decide +kernel
theorem dX12_readsStreet_131 : decode cX12_readsStreet 131 = .ok (.iload_n 2, 1) := by decide +kernel
theorem dX12_readsStreet_132 : decode cX12_readsStreet 132 = .ok (.if_icmp .ge 47, 3) := by decide +kernel
theorem dX12_readsStreet_135 : decode cX12_readsStreet 135 = .ok (.aload_n 0, 1) := by decide +kernel
theorem dX12_readsStreet_136 : decode cX12_readsStreet 136 = .ok (.getfield 54, 3) := by decide +kernel
theorem dX12_readsStreet_139 : decode cX12_readsStreet 139 = .ok (.aload_n 0, 1) := by decide +kernel
theorem dX12_readsStreet_140 : decode cX12_readsStreet 140 = .ok (.getfield 192, 3) := by decide +kernel
theorem dX12_readsStreet_143 : decode cX12_readsStreet 143 = .ok (.iconst 1, 1) := by decide +kernel
theorem dX12_readsStreet_144 : decode cX12_readsStreet 144 = .ok (.iload_n 3, 1) := by decide +kernel
theorem dX12_readsStreet_145 : decode cX12_readsStreet 145 = .ok (.invokestatic 202, 3) := by decide +kernel
theorem dX12_readsStreet_148 : decode cX12_readsStreet 148 = .ok (.aload_n 0, 1) := by decide +kernel
theorem dX12_readsStreet_149 : decode cX12_readsStreet 149 = .ok (.iconst 1, 1) := by decide +kernel
theorem dX12_readsStreet_150 : decode cX12_readsStreet 150 = .ok (.invokevirtual 198, 3) := by decide +kernel
theorem dX12_readsStreet_153 : decode cX12_readsStreet 153 = .ok (.iastore, 1) := by decide +kernel
theorem dX12_readsStreet_154 : decode cX12_readsStreet 154 = .ok (.aload_n 0, 1) := by decide +kernel
theorem dX12_readsStreet_155 : decode cX12_readsStreet 155 = .ok (.getfield 54, 3) := by decide +kernel
theorem dX12_readsStreet_158 : decode cX12_readsStreet 158 = .ok (.aload_n 0, 1) := by decide +kernel
theorem dX12_readsStreet_159 : decode cX12_readsStreet 159 = .ok (.getfield 192, 3) := by decide +kernel
theorem dX12_readsStreet_162 : decode cX12_readsStreet 162 = .ok (.iconst 1, 1) := by decide +kernel
theorem dX12_readsStreet_163 : decode cX12_readsStreet 163 = .ok (.iload_n 3, 1) := by decide +kernel
theorem dX12_readsStreet_164 : decode cX12_readsStreet 164 = .ok (.invokestatic 202, 3) := by decide +kernel
theorem dX12_readsStreet_167 : decode cX12_readsStreet 167 = .ok (.iaload, 1) := by decide +kernel
theorem dX12_readsStreet_168 : decode cX12_readsStreet 168 = .ok (.ifCond .ge 5, 3) := by decide +kernel
theorem dX12_readsStreet_171 : decode cX12_readsStreet 171 = .ok (.iconst 0, 1) := by decide +kernel
theorem dX12_readsStreet_172 : decode cX12_readsStreet 172 = .ok (.ireturn, 1) := by decide +kernel
theorem dX12_readsStreet_173 : decode cX12_readsStreet 173 = .ok (.iinc 3 1, 3) := by decide +kernel
theorem dX12_readsStreet_176 : decode cX12_readsStreet 176 = .ok (.goto (-46), 3) := by decide +kernel
theorem dX12_readsStreet_179 : decode cX12_readsStreet 179 = .ok (.aload_n 0, 1) := by decide +kernel
theorem dX12_readsStreet_180 : decode cX12_readsStreet 180 = .ok (.getfield 51, 3) := by decide +kernel
theorem dX12_readsStreet_183 : decode cX12_readsStreet 183 = .ok (.iload_n 1, 1) := by decide +kernel
theorem dX12_readsStreet_184 : decode cX12_readsStreet 184 = .ok (.iconst 3, 1) := by decide +kernel
theorem dX12_readsStreet_185 : decode cX12_readsStreet 185 = .ok (.iadd, 1) := by decide +kernel
theorem dX12_readsStreet_186 : decode cX12_readsStreet 186 = .ok (.aload_n 0, 1) := by decide +kernel
theorem dX12_readsStreet_187 : decode cX12_readsStreet 187 = .ok (.bipush 33, 2) := by decide +kernel
theorem dX12_readsStreet_189 : decode cX12_readsStreet 189 = .ok (.invokevirtual 195, 3) := by decide +kernel
theorem dX12_readsStreet_192 : decode cX12_readsStreet 192 = .ok (.invokestatic 166, 3) := by decide +kernel
theorem dX12_readsStreet_195 : decode cX12_readsStreet 195 = .ok (.iastore, 1) := by decide +kernel
theorem dX12_readsStreet_196 : decode cX12_readsStreet 196 = .ok (.aload_n 0, 1) := by decide +kernel
theorem dX12_readsStreet_197 : decode cX12_readsStreet 197 = .ok (.ldc 205, 2) := by decide +kernel
theorem dX12_readsStreet_199 : decode cX12_readsStreet 199 = .ok (.invokevirtual 207, 3) := by decide +kernel
theorem dX12_readsStreet_202 : decode cX12_readsStreet 202 = .ok (.istore_n 3, 1) := by decide +kernel
theorem dX12_readsStreet_203 : decode cX12_readsStreet 203 = .ok (.aload_n 0, 1) := by decide +kernel
theorem dX12_readsStreet_204 : decode cX12_readsStreet 204 = .ok (.getfield 51, 3) := by decide +kernel
theorem dX12_readsStreet_207 : decode cX12_readsStreet 207 = .ok (.iload_n 1, 1) := by decide +kernel
theorem dX12_readsStreet_208 : decode cX12_readsStreet 208 = .ok (.iconst 2, 1) := by decide +kernel
theorem dX12_readsStreet_209 : decode cX12_readsStreet 209 = .ok (.iadd, 1) := by decide +kernel
theorem dX12_readsStreet_210 : decode cX12_readsStreet 210 = .ok (.iload_n 3, 1) := by decide +kernel
theorem dX12_readsStreet_211 : decode cX12_readsStreet 211 = .ok (.ifCond .ge 7, 3) := by decide +kernel
theorem dX12_readsStreet_214 : decode cX12_readsStreet 214 = .ok (.iconst 0, 1) := by decide +kernel
theorem dX12_readsStreet_215 : decode cX12_readsStreet 215 = .ok (.goto 8, 3) := by decide +kernel
theorem dX12_readsStreet_218 : decode cX12_readsStreet 218 = .ok (.iconst 2, 1) := by decide +kernel
theorem dX12_readsStreet_219 : decode cX12_readsStreet 219 = .ok (.iload_n 3, 1) := by decide +kernel
theorem dX12_readsStreet_220 : decode cX12_readsStreet 220 = .ok (.imul, 1) := by decide +kernel
theorem dX12_readsStreet_221 : decode cX12_readsStreet 221 = .ok (.iconst 1, 1) := by decide +kernel
theorem dX12_readsStreet_222 : decode cX12_readsStreet 222 = .ok (.isub, 1) := by decide +kernel
theorem dX12_readsStreet_223 : decode cX12_readsStreet 223 = .ok (.iastore, 1) := by decide +kernel
theorem dX12_readsStreet_224 : decode cX12_readsStreet 224 = .ok (.aload_n 0, 1) := by decide +kernel
theorem dX12_readsStreet_225 : decode cX12_readsStreet 225 = .ok (.getfield 51, 3) := by decide +kernel
theorem dX12_readsStreet_228 : decode cX12_readsStreet 228 = .ok (.iload_n 1, 1) := by decide +kernel
theorem dX12_readsStreet_229 : decode cX12_readsStreet 229 = .ok (.iconst 4, 1) := by decide +kernel
theorem dX12_readsStreet_230 : decode cX12_readsStreet 230 = .ok (.iadd, 1) := by decide +kernel
theorem dX12_readsStreet_231 : decode cX12_readsStreet 231 = .ok (.iconst (-1), 1) := by decide +kernel
theorem dX12_readsStreet_232 : decode cX12_readsStreet 232 = .ok (.iastore, 1) := by decide +kernel
theorem dX12_readsStreet_233 : decode cX12_readsStreet 233 = .ok (.aload_n 0, 1) := by decide +kernel
theorem dX12_readsStreet_234 : decode cX12_readsStreet 234 = .ok (.getfield 51, 3) := by decide +kernel
theorem dX12_readsStreet_237 : decode cX12_readsStreet 237 = .ok (.iload_n 1, 1) := by decide +kernel
theorem dX12_readsStreet_238 : decode cX12_readsStreet 238 = .ok (.iconst 5, 1) := by decide +kernel
theorem dX12_readsStreet_239 : decode cX12_readsStreet 239 = .ok (.iadd, 1) := by decide +kernel
theorem dX12_readsStreet_240 : decode cX12_readsStreet 240 = .ok (.iconst (-1), 1) := by decide +kernel
theorem dX12_readsStreet_241 : decode cX12_readsStreet 241 = .ok (.iastore, 1) := by decide +kernel
theorem dX12_readsStreet_242 : decode cX12_readsStreet 242 = .ok (.aload_n 0, 1) := by decide +kernel
theorem dX12_readsStreet_243 : decode cX12_readsStreet 243 = .ok (.dup, 1) := by decide +kernel
theorem dX12_readsStreet_244 : decode cX12_readsStreet 244 = .ok (.getfield 192, 3) := by decide +kernel
theorem dX12_readsStreet_247 : decode cX12_readsStreet 247 = .ok (.iconst 1, 1) := by decide +kernel
theorem dX12_readsStreet_248 : decode cX12_readsStreet 248 = .ok (.iadd, 1) := by decide +kernel
theorem dX12_readsStreet_249 : decode cX12_readsStreet 249 = .ok (.putfield 192, 3) := by decide +kernel
theorem dX12_readsStreet_252 : decode cX12_readsStreet 252 = .ok (.aload_n 0, 1) := by decide +kernel
theorem dX12_readsStreet_253 : decode cX12_readsStreet 253 = .ok (.bipush 120, 2) := by decide +kernel
theorem dX12_readsStreet_255 : decode cX12_readsStreet 255 = .ok (.invokevirtual 195, 3) := by decide +kernel
theorem dX12_readsStreet_258 : decode cX12_readsStreet 258 = .ok (.ifCond .ne 5, 3) := by decide +kernel
theorem dX12_readsStreet_261 : decode cX12_readsStreet 261 = .ok (.iconst 1, 1) := by decide +kernel
theorem dX12_readsStreet_262 : decode cX12_readsStreet 262 = .ok (.ireturn, 1) := by decide +kernel
theorem dX12_readsStreet_263 : decode cX12_readsStreet 263 = .ok (.aload_n 0, 1) := by decide +kernel
theorem dX12_readsStreet_264 : decode cX12_readsStreet 264 = .ok (.getfield 51, 3) := by decide +kernel
theorem dX12_readsStreet_267 : decode cX12_readsStreet 267 = .ok (.iload_n 1, 1) := by decide +kernel
theorem dX12_readsStreet_268 : decode cX12_readsStreet 268 = .ok (.iconst 4, 1) := by decide +kernel
theorem dX12_readsStreet_269 : decode cX12_readsStreet 269 = .ok (.iadd, 1) := by decide +kernel
theorem dX12_readsStreet_270 : decode cX12_readsStreet 270 = .ok (.aload_n 0, 1) := by decide +kernel
theorem dX12_readsStreet_271 : decode cX12_readsStreet 271 = .ok (.iconst 3, 1) := by decide +kernel
theorem dX12_readsStreet_272 : decode cX12_readsStreet 272 = .ok (.invokevirtual 198, 3) := by decide +kernel
theorem dX12_readsStreet_275 : decode cX12_readsStreet 275 = .ok (.iastore, 1) := by decide +kernel
theorem dX12_readsStreet_276 : decode cX12_readsStreet 276 = .ok (.aload_n 0, 1) := by decide +kernel
theorem dX12_readsStreet_277 : decode cX12_readsStreet 277 = .ok (.getfield 51, 3) := by decide +kernel
theorem dX12_readsStreet_280 : decode cX12_readsStreet 280 = .ok (.iload_n 1, 1) := by decide +kernel
theorem dX12_readsStreet_281 : decode cX12_readsStreet 281 = .ok (.iconst 4, 1) := by decide +kernel
theorem dX12_readsStreet_282 : decode cX12_readsStreet 282 = .ok (.iadd, 1) := by decide +kernel
theorem dX12_readsStreet_283 : decode cX12_readsStreet 283 = .ok (.iaload, 1) := by decide +kernel
theorem dX12_readsStreet_284 : decode cX12_readsStreet 284 = .ok (.ifCond .lt 12, 3) := by decide +kernel
theorem dX12_readsStreet_287 : decode cX12_readsStreet 287 = .ok (.aload_n 0, 1) := by decide +kernel
theorem dX12_readsStreet_288 : decode cX12_readsStreet 288 = .ok (.bipush 45, 2) := by decide +kernel
theorem dX12_readsStreet_290 : decode cX12_readsStreet 290 = .ok (.invokevirtual 195, 3) := by decide +kernel
theorem dX12_readsStreet_293 : decode cX12_readsStreet 293 = .ok (.ifCond .ne 5, 3) := by decide +kernel
theorem dX12_readsStreet_296 : decode cX12_readsStreet 296 = .ok (.iconst 0, 1) := by decide +kernel
theorem dX12_readsStreet_297 : decode cX12_readsStreet 297 = .ok (.ireturn, 1) := by decide +kernel
theorem dX12_readsStreet_298 : decode cX12_readsStreet 298 = .ok (.aload_n 0, 1) := by decide +kernel
theorem dX12_readsStreet_299 : decode cX12_readsStreet 299 = .ok (.getfield 51, 3) := by decide +kernel
theorem dX12_readsStreet_302 : decode cX12_readsStreet 302 = .ok (.iload_n 1, 1) := by decide +kernel
theorem dX12_readsStreet_303 : decode cX12_readsStreet 303 = .ok (.iconst 5, 1) := by decide +kernel
theorem dX12_readsStreet_304 : decode cX12_readsStreet 304 = .ok (.iadd, 1) := by decide +kernel
theorem dX12_readsStreet_305 : decode cX12_readsStreet 305 = .ok (.aload_n 0, 1) := by decide +kernel
theorem dX12_readsStreet_306 : decode cX12_readsStreet 306 = .ok (.iconst 3, 1) := by decide +kernel
theorem dX12_readsStreet_307 : decode cX12_readsStreet 307 = .ok (.invokevirtual 198, 3) := by decide +kernel
theorem dX12_readsStreet_310 : decode cX12_readsStreet 310 = .ok (.iastore, 1) := by decide +kernel
theorem dX12_readsStreet_311 : decode cX12_readsStreet 311 = .ok (.aload_n 0, 1) := by decide +kernel
theorem dX12_readsStreet_312 : decode cX12_readsStreet 312 = .ok (.getfield 51, 3) := by decide +kernel
theorem dX12_readsStreet_315 : decode cX12_readsStreet 315 = .ok (.iload_n 1, 1) := by decide +kernel
theorem dX12_readsStreet_316 : decode cX12_readsStreet 316 = .ok (.iconst 5, 1) := by decide +kernel
theorem dX12_readsStreet_317 : decode cX12_readsStreet 317 = .ok (.iadd, 1) := by decide +kernel
theorem dX12_readsStreet_318 : decode cX12_readsStreet 318 = .ok (.iaload, 1) := by decide +kernel
theorem dX12_readsStreet_319 : decode cX12_readsStreet 319 = .ok (.aload_n 0, 1) := by decide +kernel
theorem dX12_readsStreet_320 : decode cX12_readsStreet 320 = .ok (.getfield 51, 3) := by decide +kernel
theorem dX12_readsStreet_323 : decode cX12_readsStreet 323 = .ok (.iload_n 1, 1) := by decide +kernel
theorem dX12_readsStreet_324 : decode cX12_readsStreet 324 = .ok (.iconst 4, 1) := by decide +kernel
theorem dX12_readsStreet_325 : decode cX12_readsStreet 325 = .ok (.iadd, 1) := by decide +kernel
theorem dX12_readsStreet_326 : decode cX12_readsStreet 326 = .ok (.iaload, 1) := by decide +kernel
theorem dX12_readsStreet_327 : decode cX12_readsStreet 327 = .ok (.if_icmp .lt 5, 3) := by decide +kernel
theorem dX12_readsStreet_330 : decode cX12_readsStreet 330 = .ok (.iconst 1, 1) := by decide +kernel
theorem dX12_readsStreet_331 : decode cX12_readsStreet 331 = .ok (.ireturn, 1) := by decide +kernel
theorem dX12_readsStreet_332 : decode cX12_readsStreet 332 = .ok (.aload_n 0, 1) := by decide +kernel
theorem dX12_readsStreet_333 : decode cX12_readsStreet 333 = .ok (.dup, 1) := by decide +kernel
theorem dX12_readsStreet_334 : decode cX12_readsStreet 334 = .ok (.getfield 151, 3) := by decide +kernel
theorem dX12_readsStreet_337 : decode cX12_readsStreet 337 = .ok (.aload_n 0, 1) := by decide +kernel
theorem dX12_readsStreet_338 : decode cX12_readsStreet 338 = .ok (.getfield 51, 3) := by decide +kernel
theorem dX12_readsStreet_341 : decode cX12_readsStreet 341 = .ok (.iload_n 1, 1) := by decide +kernel
theorem dX12_readsStreet_342 : decode cX12_readsStreet 342 = .ok (.iconst 5, 1) := by decide +kernel
theorem dX12_readsStreet_343 : decode cX12_readsStreet 343 = .ok (.iadd, 1) := by decide +kernel
theorem dX12_readsStreet_344 : decode cX12_readsStreet 344 = .ok (.iaload, 1) := by decide +kernel
theorem dX12_readsStreet_345 : decode cX12_readsStreet 345 = .ok (.ifCond .lt 7, 3) := by decide +kernel
theorem dX12_readsStreet_348 : decode cX12_readsStreet 348 = .ok (.iconst 1, 1) := by decide +kernel
theorem dX12_readsStreet_349 : decode cX12_readsStreet 349 = .ok (.goto 4, 3) := by decide +kernel
theorem dX12_readsStreet_352 : decode cX12_readsStreet 352 = .ok (.iconst 0, 1) := by decide +kernel
theorem dX12_readsStreet_353 : decode cX12_readsStreet 353 = .ok (.invokestatic 166, 3) := by decide +kernel
theorem dX12_readsStreet_356 : decode cX12_readsStreet 356 = .ok (.isub, 1) := by decide +kernel
theorem dX12_readsStreet_357 : decode cX12_readsStreet 357 = .ok (.putfield 151, 3) := by decide +kernel
theorem dX12_readsStreet_360 : decode cX12_readsStreet 360 = .ok (.iconst 0, 1) := by decide +kernel
theorem dX12_readsStreet_361 : decode cX12_readsStreet 361 = .ok (.ireturn, 1) := by decide +kernel
theorem dX12_streets_0 : decode cX12_streets 0 = .ok (.aload_n 0, 1) := by decide +kernel
theorem dX12_streets_1 : decode cX12_streets 1 = .ok (.iconst 0, 1) := by decide +kernel
theorem dX12_streets_2 : decode cX12_streets 2 = .ok (.putfield 126, 3) := by decide +kernel
theorem dX12_streets_5 : decode cX12_streets 5 = .ok (.aload_n 0, 1) := by decide +kernel
theorem dX12_streets_6 : decode cX12_streets 6 = .ok (.bipush 76, 2) := by decide +kernel
theorem dX12_streets_8 : decode cX12_streets 8 = .ok (.invokevirtual 210, 3) := by decide +kernel
theorem dX12_streets_11 : decode cX12_streets 11 = .ok (.istore_n 1, 1) := by decide +kernel
theorem dX12_streets_12 : decode cX12_streets 12 = .ok (.aload_n 0, 1) := by decide +kernel
theorem dX12_streets_13 : decode cX12_streets 13 = .ok (.iconst 0, 1) := by decide +kernel
theorem dX12_streets_14 : decode cX12_streets 14 = .ok (.putfield 192, 3) := by decide +kernel
theorem dX12_streets_17 : decode cX12_streets 17 = .ok (.iconst 1, 1) := by decide +kernel
theorem dX12_streets_18 : decode cX12_streets 18 = .ok (.istore_n 2, 1) := by decide +kernel
theorem dX12_streets_19 : decode cX12_streets 19 = .ok (.iload_n 1, 1) := by decide +kernel
theorem dX12_streets_20 : decode cX12_streets 20 = .ok (.ifCond .le 7, 3) := by decide +kernel
theorem dX12_streets_23 : decode cX12_streets 23 = .ok (.iconst 1, 1) := by decide +kernel
theorem dX12_streets_24 : decode cX12_streets 24 = .ok (.goto 4, 3) := by decide +kernel
theorem dX12_streets_27 : decode cX12_streets 27 = .ok (.iconst 0, 1) := by decide +kernel
theorem dX12_streets_28 : decode cX12_streets 28 = .ok (.istore_n 3, 1) := by decide +kernel
theorem dX12_streets_29 : decode cX12_streets 29 = .ok (.iload_n 3, 1) := by decide +kernel
theorem dX12_streets_30 : decode cX12_streets 30 = .ok (.ifCond .eq 30, 3) := by decide +kernel
theorem dX12_streets_33 : decode cX12_streets 33 = .ok (.aload_n 0, 1) := by decide +kernel
theorem dX12_streets_34 : decode cX12_streets 34 = .ok (.invokevirtual 213, 3) := by decide +kernel
theorem dX12_streets_37 : decode cX12_streets 37 = .ok (.istore_n 2, 1) := by decide +kernel
theorem dX12_streets_38 : decode cX12_streets 38 = .ok (.iload_n 2, 1) := by decide +kernel
theorem dX12_streets_39 : decode cX12_streets 39 = .ok (.ifCond .eq 16, 3) := by decide +kernel
theorem dX12_streets_42 : decode cX12_streets 42 = .ok (.aload_n 0, 1) := by decide +kernel
theorem dX12_streets_43 : decode cX12_streets 43 = .ok (.bipush 59, 2) := by decide +kernel
theorem dX12_streets_45 : decode cX12_streets 45 = .ok (.invokevirtual 195, 3) := by decide +kernel
theorem dX12_streets_48 : decode cX12_streets 48 = .ok (.ifCond .eq 7, 3) := by decide +kernel
theorem dX12_streets_51 : decode cX12_streets 51 = .ok (.iconst 1, 1) := by decide +kernel
theorem dX12_streets_52 : decode cX12_streets 52 = .ok (.goto 4, 3) := by decide +kernel
theorem dX12_streets_55 : decode cX12_streets 55 = .ok (.iconst 0, 1) := by decide +kernel
theorem dX12_streets_56 : decode cX12_streets 56 = .ok (.istore_n 3, 1) := by decide +kernel
theorem dX12_streets_57 : decode cX12_streets 57 = .ok (.goto (-28), 3) := by decide +kernel
theorem dX12_streets_60 : decode cX12_streets 60 = .ok (.aload_n 0, 1) := by decide +kernel
theorem dX12_streets_61 : decode cX12_streets 61 = .ok (.iload_n 1, 1) := by decide +kernel
theorem dX12_streets_62 : decode cX12_streets 62 = .ok (.bipush 76, 2) := by decide +kernel
theorem dX12_streets_64 : decode cX12_streets 64 = .ok (.iload_n 2, 1) := by decide +kernel
theorem dX12_streets_65 : decode cX12_streets 65 = .ok (.invokevirtual 216, 3) := by decide +kernel
theorem dX12_streets_68 : decode cX12_streets 68 = .ok (.istore 4, 2) := by decide +kernel
theorem dX12_streets_70 : decode cX12_streets 70 = .ok (.iload 4, 2) := by decide +kernel
theorem dX12_streets_72 : decode cX12_streets 72 = .ok (.ifCond .ge 6, 3) := by decide +kernel
theorem dX12_streets_75 : decode cX12_streets 75 = .ok (.iload 4, 2) := by decide +kernel
theorem dX12_streets_77 : decode cX12_streets 77 = .ok (.ireturn, 1) := by decide +kernel
theorem dX12_streets_78 : decode cX12_streets 78 = .ok (.iconst 0, 1) := by decide +kernel
theorem dX12_streets_79 : decode cX12_streets 79 = .ok (.istore 5, 2) := by decide +kernel
theorem dX12_streets_81 : decode cX12_streets 81 = .ok (.iload 5, 2) := by decide +kernel
theorem dX12_streets_83 : decode cX12_streets 83 = .ok (.aload_n 0, 1) := by decide +kernel
theorem dX12_streets_84 : decode cX12_streets 84 = .ok (.getfield 192, 3) := by decide +kernel
theorem dX12_streets_87 : decode cX12_streets 87 = .ok (.if_icmp .ge 22, 3) := by decide +kernel
theorem dX12_streets_90 : decode cX12_streets 90 = .ok (.aload_n 0, 1) := by decide +kernel
theorem dX12_streets_91 : decode cX12_streets 91 = .ok (.aload_n 0, 1) := by decide +kernel
theorem dX12_streets_92 : decode cX12_streets 92 = .ok (.getfield 137, 3) := by decide +kernel
theorem dX12_streets_95 : decode cX12_streets 95 = .ok (.iload 5, 2) := by decide +kernel
theorem dX12_streets_97 : decode cX12_streets 97 = .ok (.iadd, 1) := by decide +kernel
theorem dX12_streets_98 : decode cX12_streets 98 = .ok (.iload 5, 2) := by decide +kernel
theorem dX12_streets_100 : decode cX12_streets 100 = .ok (.invokevirtual 220, 3) := by decide +kernel
theorem dX12_streets_103 : decode cX12_streets 103 = .ok (.iinc 5 1, 3) := by decide +kernel
theorem dX12_streets_106 : decode cX12_streets 106 = .ok (.goto (-25), 3) := by decide +kernel
theorem dX12_streets_109 : decode cX12_streets 109 = .ok (.aload_n 0, 1) := by decide +kernel
theorem dX12_streets_110 : decode cX12_streets 110 = .ok (.dup, 1) := by decide +kernel
theorem dX12_streets_111 : decode cX12_streets 111 = .ok (.getfield 137, 3) := by decide +kernel
theorem dX12_streets_114 : decode cX12_streets 114 = .ok (.aload_n 0, 1) := by decide +kernel
theorem dX12_streets_115 : decode cX12_streets 115 = .ok (.getfield 192, 3) := by decide +kernel
theorem dX12_streets_118 : decode cX12_streets 118 = .ok (.iadd, 1) := by decide +kernel
theorem dX12_streets_119 : decode cX12_streets 119 = .ok (.putfield 137, 3) := by decide +kernel
theorem dX12_streets_122 : decode cX12_streets 122 = .ok (.iload_n 1, 1) := by decide +kernel
theorem dX12_streets_123 : decode cX12_streets 123 = .ok (.ifCond .le 18, 3) := by decide +kernel
theorem dX12_streets_126 : decode cX12_streets 126 = .ok (.aload_n 0, 1) := by decide +kernel
theorem dX12_streets_127 : decode cX12_streets 127 = .ok (.iconst 0, 1) := by decide +kernel
theorem dX12_streets_128 : decode cX12_streets 128 = .ok (.putfield 224, 3) := by decide +kernel
theorem dX12_streets_131 : decode cX12_streets 131 = .ok (.aload_n 0, 1) := by decide +kernel
theorem dX12_streets_132 : decode cX12_streets 132 = .ok (.dup, 1) := by decide +kernel
theorem dX12_streets_133 : decode cX12_streets 133 = .ok (.getfield 227, 3) := by decide +kernel
theorem dX12_streets_136 : decode cX12_streets 136 = .ok (.iconst 1, 1) := by decide +kernel
theorem dX12_streets_137 : decode cX12_streets 137 = .ok (.iadd, 1) := by decide +kernel
theorem dX12_streets_138 : decode cX12_streets 138 = .ok (.putfield 227, 3) := by decide +kernel
theorem dX12_streets_141 : decode cX12_streets 141 = .ok (.aload_n 0, 1) := by decide +kernel
theorem dX12_streets_142 : decode cX12_streets 142 = .ok (.getfield 192, 3) := by decide +kernel
theorem dX12_streets_145 : decode cX12_streets 145 = .ok (.ireturn, 1) := by decide +kernel
theorem dX12_laysStreet_0 : decode cX12_laysStreet 0 = .ok (.aload_n 0, 1) := by decide +kernel
theorem dX12_laysStreet_1 : decode cX12_laysStreet 1 = .ok (.getfield 13, 3) := by decide +kernel
theorem dX12_laysStreet_4 : decode cX12_laysStreet 4 = .ok (.iload_n 1, 1) := by decide +kernel
theorem dX12_laysStreet_5 : decode cX12_laysStreet 5 = .ok (.aload_n 0, 1) := by decide +kernel
theorem dX12_laysStreet_6 : decode cX12_laysStreet 6 = .ok (.getfield 51, 3) := by decide +kernel
theorem dX12_laysStreet_9 : decode cX12_laysStreet 9 = .ok (.bipush 6, 2) := by decide +kernel
theorem dX12_laysStreet_11 : decode cX12_laysStreet 11 = .ok (.iload_n 2, 1) := by decide +kernel
theorem dX12_laysStreet_12 : decode cX12_laysStreet 12 = .ok (.imul, 1) := by decide +kernel
theorem dX12_laysStreet_13 : decode cX12_laysStreet 13 = .ok (.iaload, 1) := by decide +kernel
theorem dX12_laysStreet_14 : decode cX12_laysStreet 14 = .ok (.iastore, 1) := by decide +kernel
theorem dX12_laysStreet_15 : decode cX12_laysStreet 15 = .ok (.aload_n 0, 1) := by decide +kernel
theorem dX12_laysStreet_16 : decode cX12_laysStreet 16 = .ok (.getfield 17, 3) := by decide +kernel
theorem dX12_laysStreet_19 : decode cX12_laysStreet 19 = .ok (.iload_n 1, 1) := by decide +kernel
theorem dX12_laysStreet_20 : decode cX12_laysStreet 20 = .ok (.aload_n 0, 1) := by decide +kernel
theorem dX12_laysStreet_21 : decode cX12_laysStreet 21 = .ok (.getfield 51, 3) := by decide +kernel
theorem dX12_laysStreet_24 : decode cX12_laysStreet 24 = .ok (.bipush 6, 2) := by decide +kernel
theorem dX12_laysStreet_26 : decode cX12_laysStreet 26 = .ok (.iload_n 2, 1) := by decide +kernel
theorem dX12_laysStreet_27 : decode cX12_laysStreet 27 = .ok (.imul, 1) := by decide +kernel
theorem dX12_laysStreet_28 : decode cX12_laysStreet 28 = .ok (.iconst 1, 1) := by decide +kernel
theorem dX12_laysStreet_29 : decode cX12_laysStreet 29 = .ok (.iadd, 1) := by decide +kernel
theorem dX12_laysStreet_30 : decode cX12_laysStreet 30 = .ok (.iaload, 1) := by decide +kernel
theorem dX12_laysStreet_31 : decode cX12_laysStreet 31 = .ok (.iastore, 1) := by decide +kernel
theorem dX12_laysStreet_32 : decode cX12_laysStreet 32 = .ok (.aload_n 0, 1) := by decide +kernel
theorem dX12_laysStreet_33 : decode cX12_laysStreet 33 = .ok (.getfield 20, 3) := by decide +kernel
theorem dX12_laysStreet_36 : decode cX12_laysStreet 36 = .ok (.iload_n 1, 1) := by decide +kernel
theorem dX12_laysStreet_37 : decode cX12_laysStreet 37 = .ok (.aload_n 0, 1) := by decide +kernel
theorem dX12_laysStreet_38 : decode cX12_laysStreet 38 = .ok (.getfield 51, 3) := by decide +kernel
theorem dX12_laysStreet_41 : decode cX12_laysStreet 41 = .ok (.bipush 6, 2) := by decide +kernel
theorem dX12_laysStreet_43 : decode cX12_laysStreet 43 = .ok (.iload_n 2, 1) := by decide +kernel
theorem dX12_laysStreet_44 : decode cX12_laysStreet 44 = .ok (.imul, 1) := by decide +kernel
theorem dX12_laysStreet_45 : decode cX12_laysStreet 45 = .ok (.iconst 2, 1) := by decide +kernel
theorem dX12_laysStreet_46 : decode cX12_laysStreet 46 = .ok (.iadd, 1) := by decide +kernel
theorem dX12_laysStreet_47 : decode cX12_laysStreet 47 = .ok (.iaload, 1) := by decide +kernel
theorem dX12_laysStreet_48 : decode cX12_laysStreet 48 = .ok (.iastore, 1) := by decide +kernel
theorem dX12_laysStreet_49 : decode cX12_laysStreet 49 = .ok (.aload_n 0, 1) := by decide +kernel
theorem dX12_laysStreet_50 : decode cX12_laysStreet 50 = .ok (.getfield 23, 3) := by decide +kernel
theorem dX12_laysStreet_53 : decode cX12_laysStreet 53 = .ok (.iload_n 1, 1) := by decide +kernel
theorem dX12_laysStreet_54 : decode cX12_laysStreet 54 = .ok (.aload_n 0, 1) := by decide +kernel
theorem dX12_laysStreet_55 : decode cX12_laysStreet 55 = .ok (.getfield 51, 3) := by decide +kernel
theorem dX12_laysStreet_58 : decode cX12_laysStreet 58 = .ok (.bipush 6, 2) := by decide +kernel
theorem dX12_laysStreet_60 : decode cX12_laysStreet 60 = .ok (.iload_n 2, 1) := by decide +kernel
theorem dX12_laysStreet_61 : decode cX12_laysStreet 61 = .ok (.imul, 1) := by decide +kernel
theorem dX12_laysStreet_62 : decode cX12_laysStreet 62 = .ok (.iconst 3, 1) := by decide +kernel
theorem dX12_laysStreet_63 : decode cX12_laysStreet 63 = .ok (.iadd, 1) := by decide +kernel
theorem dX12_laysStreet_64 : decode cX12_laysStreet 64 = .ok (.iaload, 1) := by decide +kernel
theorem dX12_laysStreet_65 : decode cX12_laysStreet 65 = .ok (.iconst 1, 1) := by decide +kernel
theorem dX12_laysStreet_66 : decode cX12_laysStreet 66 = .ok (.if_icmp .ne 7, 3) := by decide +kernel
theorem dX12_laysStreet_69 : decode cX12_laysStreet 69 = .ok (.iconst 1, 1) := by decide +kernel
theorem dX12_laysStreet_70 : decode cX12_laysStreet 70 = .ok (.goto 4, 3) := by decide +kernel
theorem dX12_laysStreet_73 : decode cX12_laysStreet 73 = .ok (.iconst 0, 1) := by decide +kernel
theorem dX12_laysStreet_74 : decode cX12_laysStreet 74 = .ok (.bastore, 1) := by decide +kernel
theorem dX12_laysStreet_75 : decode cX12_laysStreet 75 = .ok (.aload_n 0, 1) := by decide +kernel
theorem dX12_laysStreet_76 : decode cX12_laysStreet 76 = .ok (.getfield 30, 3) := by decide +kernel
theorem dX12_laysStreet_79 : decode cX12_laysStreet 79 = .ok (.iload_n 1, 1) := by decide +kernel
theorem dX12_laysStreet_80 : decode cX12_laysStreet 80 = .ok (.aload_n 0, 1) := by decide +kernel
theorem dX12_laysStreet_81 : decode cX12_laysStreet 81 = .ok (.getfield 51, 3) := by decide +kernel
theorem dX12_laysStreet_84 : decode cX12_laysStreet 84 = .ok (.bipush 6, 2) := by decide +kernel
theorem dX12_laysStreet_86 : decode cX12_laysStreet 86 = .ok (.iload_n 2, 1) := by decide +kernel
theorem dX12_laysStreet_87 : decode cX12_laysStreet 87 = .ok (.imul, 1) := by decide +kernel
theorem dX12_laysStreet_88 : decode cX12_laysStreet 88 = .ok (.iconst 4, 1) := by decide +kernel
theorem dX12_laysStreet_89 : decode cX12_laysStreet 89 = .ok (.iadd, 1) := by decide +kernel
theorem dX12_laysStreet_90 : decode cX12_laysStreet 90 = .ok (.iaload, 1) := by decide +kernel
theorem dX12_laysStreet_91 : decode cX12_laysStreet 91 = .ok (.iastore, 1) := by decide +kernel
theorem dX12_laysStreet_92 : decode cX12_laysStreet 92 = .ok (.aload_n 0, 1) := by decide +kernel
theorem dX12_laysStreet_93 : decode cX12_laysStreet 93 = .ok (.getfield 33, 3) := by decide +kernel
theorem dX12_laysStreet_96 : decode cX12_laysStreet 96 = .ok (.iload_n 1, 1) := by decide +kernel
theorem dX12_laysStreet_97 : decode cX12_laysStreet 97 = .ok (.aload_n 0, 1) := by decide +kernel
theorem dX12_laysStreet_98 : decode cX12_laysStreet 98 = .ok (.getfield 51, 3) := by decide +kernel
theorem dX12_laysStreet_101 : decode cX12_laysStreet 101 = .ok (.bipush 6, 2) := by decide +kernel
theorem dX12_laysStreet_103 : decode cX12_laysStreet 103 = .ok (.iload_n 2, 1) := by decide +kernel
theorem dX12_laysStreet_104 : decode cX12_laysStreet 104 = .ok (.imul, 1) := by decide +kernel
theorem dX12_laysStreet_105 : decode cX12_laysStreet 105 = .ok (.iconst 5, 1) := by decide +kernel
theorem dX12_laysStreet_106 : decode cX12_laysStreet 106 = .ok (.iadd, 1) := by decide +kernel
theorem dX12_laysStreet_107 : decode cX12_laysStreet 107 = .ok (.iaload, 1) := by decide +kernel
theorem dX12_laysStreet_108 : decode cX12_laysStreet 108 = .ok (.iastore, 1) := by decide +kernel
theorem dX12_laysStreet_109 : decode cX12_laysStreet 109 = .ok (.aload_n 0, 1) := by decide +kernel
theorem dX12_laysStreet_110 : decode cX12_laysStreet 110 = .ok (.getfield 27, 3) := by decide +kernel
theorem dX12_laysStreet_113 : decode cX12_laysStreet 113 = .ok (.iload_n 1, 1) := by decide +kernel
theorem dX12_laysStreet_114 : decode cX12_laysStreet 114 = .ok (.iconst 0, 1) := by decide +kernel
theorem dX12_laysStreet_115 : decode cX12_laysStreet 115 = .ok (.iastore, 1) := by decide +kernel
theorem dX12_laysStreet_116 : decode cX12_laysStreet 116 = .ok (.iconst 0, 1) := by decide +kernel
theorem dX12_laysStreet_117 : decode cX12_laysStreet 117 = .ok (.istore_n 3, 1) := by decide +kernel
theorem dX12_laysStreet_118 : decode cX12_laysStreet 118 = .ok (.iload_n 3, 1) := by decide +kernel
theorem dX12_laysStreet_119 : decode cX12_laysStreet 119 = .ok (.iconst 2, 1) := by decide +kernel
theorem dX12_laysStreet_120 : decode cX12_laysStreet 120 = .ok (.if_icmp .ge 79, 3) := by decide +kernel
theorem dX12_laysStreet_123 : decode cX12_laysStreet 123 = .ok (.iconst 0, 1) := by decide +kernel
theorem dX12_laysStreet_124 : decode cX12_laysStreet 124 = .ok (.istore 4, 2) := by decide +kernel
theorem dX12_laysStreet_126 : decode cX12_laysStreet 126 = .ok (.iload 4, 2) := by decide +kernel
theorem dX12_laysStreet_128 : decode cX12_laysStreet 128 = .ok (.aload_n 0, 1) := by decide +kernel
theorem dX12_laysStreet_129 : decode cX12_laysStreet 129 = .ok (.getfield 17, 3) := by decide +kernel
theorem dX12_laysStreet_132 : decode cX12_laysStreet 132 = .ok (.iload_n 1, 1) := by decide +kernel
theorem dX12_laysStreet_133 : decode cX12_laysStreet 133 = .ok (.iaload, 1) := by decide +kernel
theorem dX12_laysStreet_134 : decode cX12_laysStreet 134 = .ok (.if_icmp .ge 59, 3) := by decide +kernel
theorem dX12_laysStreet_137 : decode cX12_laysStreet 137 = .ok (.aload_n 0, 1) := by decide +kernel
theorem dX12_laysStreet_138 : decode cX12_laysStreet 138 = .ok (.getfield 54, 3) := by decide +kernel
theorem dX12_laysStreet_141 : decode cX12_laysStreet 141 = .ok (.iload_n 2, 1) := by decide +kernel
theorem dX12_laysStreet_142 : decode cX12_laysStreet 142 = .ok (.iload_n 3, 1) := by decide +kernel
theorem dX12_laysStreet_143 : decode cX12_laysStreet 143 = .ok (.iload 4, 2) := by decide +kernel
theorem dX12_laysStreet_145 : decode cX12_laysStreet 145 = .ok (.invokestatic 202, 3) := by decide +kernel
theorem dX12_laysStreet_148 : decode cX12_laysStreet 148 = .ok (.iaload, 1) := by decide +kernel
theorem dX12_laysStreet_149 : decode cX12_laysStreet 149 = .ok (.istore 5, 2) := by decide +kernel
theorem dX12_laysStreet_151 : decode cX12_laysStreet 151 = .ok (.aload_n 0, 1) := by decide +kernel
theorem dX12_laysStreet_152 : decode cX12_laysStreet 152 = .ok (.getfield 36, 3) := by decide +kernel
theorem dX12_laysStreet_155 : decode cX12_laysStreet 155 = .ok (.iload_n 1, 1) := by decide +kernel
theorem dX12_laysStreet_156 : decode cX12_laysStreet 156 = .ok (.iload_n 3, 1) := by decide +kernel
theorem dX12_laysStreet_157 : decode cX12_laysStreet 157 = .ok (.iload 4, 2) := by decide +kernel
theorem dX12_laysStreet_159 : decode cX12_laysStreet 159 = .ok (.invokestatic 202, 3) := by decide +kernel
theorem dX12_laysStreet_162 : decode cX12_laysStreet 162 = .ok (.iload 5, 2) := by decide +kernel
theorem dX12_laysStreet_164 : decode cX12_laysStreet 164 = .ok (.iastore, 1) := by decide +kernel
theorem dX12_laysStreet_165 : decode cX12_laysStreet 165 = .ok (.aload_n 0, 1) := by decide +kernel
theorem dX12_laysStreet_166 : decode cX12_laysStreet 166 = .ok (.getfield 42, 3) := by decide +kernel
theorem dX12_laysStreet_169 : decode cX12_laysStreet 169 = .ok (.iload_n 1, 1) := by decide +kernel
theorem dX12_laysStreet_170 : decode cX12_laysStreet 170 = .ok (.iload_n 3, 1) := by decide +kernel
theorem dX12_laysStreet_171 : decode cX12_laysStreet 171 = .ok (.iload 4, 2) := by decide +kernel
theorem dX12_laysStreet_173 : decode cX12_laysStreet 173 = .ok (.invokestatic 202, 3) := by decide +kernel
theorem dX12_laysStreet_176 : decode cX12_laysStreet 176 = .ok (.iload 5, 2) := by decide +kernel
theorem dX12_laysStreet_178 : decode cX12_laysStreet 178 = .ok (.ifCond .le 7, 3) := by decide +kernel
theorem dX12_laysStreet_181 : decode cX12_laysStreet 181 = .ok (.iconst 1, 1) := by decide +kernel
theorem dX12_laysStreet_182 : decode cX12_laysStreet 182 = .ok (.goto 4, 3) := by decide +kernel
theorem dX12_laysStreet_185 : decode cX12_laysStreet 185 = .ok (.iconst 0, 1) := by decide +kernel
theorem dX12_laysStreet_186 : decode cX12_laysStreet 186 = .ok (.iastore, 1) := by decide +kernel
theorem dX12_laysStreet_187 : decode cX12_laysStreet 187 = .ok (.iinc 4 1, 3) := by decide +kernel
theorem dX12_laysStreet_190 : decode cX12_laysStreet 190 = .ok (.goto (-64), 3) := by decide +kernel
theorem dX12_laysStreet_193 : decode cX12_laysStreet 193 = .ok (.iinc 3 1, 3) := by decide +kernel
theorem dX12_laysStreet_196 : decode cX12_laysStreet 196 = .ok (.goto (-78), 3) := by decide +kernel
theorem dX12_laysStreet_199 : decode cX12_laysStreet 199 = .ok (.return_, 1) := by decide +kernel
theorem dX12_codes_0 : decode cX12_codes 0 = .ok (.aload_n 0, 1) := by decide +kernel
theorem dX12_codes_1 : decode cX12_codes 1 = .ok (.getfield 60, 3) := by decide +kernel
theorem dX12_codes_4 : decode cX12_codes 4 = .ok (.aload_n 0, 1) := by decide +kernel
theorem dX12_codes_5 : decode cX12_codes 5 = .ok (.getfield 230, 3) := by decide +kernel
theorem dX12_codes_8 : decode cX12_codes 8 = .ok (.iload_n 1, 1) := by decide +kernel
theorem dX12_codes_9 : decode cX12_codes 9 = .ok (.iastore, 1) := by decide +kernel
theorem dX12_codes_10 : decode cX12_codes 10 = .ok (.aload_n 0, 1) := by decide +kernel
theorem dX12_codes_11 : decode cX12_codes 11 = .ok (.dup, 1) := by decide +kernel
theorem dX12_codes_12 : decode cX12_codes 12 = .ok (.getfield 230, 3) := by decide +kernel
theorem dX12_codes_15 : decode cX12_codes 15 = .ok (.iconst 1, 1) := by decide +kernel
theorem dX12_codes_16 : decode cX12_codes 16 = .ok (.iadd, 1) := by decide +kernel
theorem dX12_codes_17 : decode cX12_codes 17 = .ok (.putfield 230, 3) := by decide +kernel
theorem dX12_codes_20 : decode cX12_codes 20 = .ok (.return_, 1) := by decide +kernel
theorem dX12_readsThing_0 : decode cX12_readsThing 0 = .ok (.aload_n 0, 1) := by decide +kernel
theorem dX12_readsThing_1 : decode cX12_readsThing 1 = .ok (.bipush 45, 2) := by decide +kernel
theorem dX12_readsThing_3 : decode cX12_readsThing 3 = .ok (.invokevirtual 195, 3) := by decide +kernel
theorem dX12_readsThing_6 : decode cX12_readsThing 6 = .ok (.ifCond .eq 17, 3) := by decide +kernel
theorem dX12_readsThing_9 : decode cX12_readsThing 9 = .ok (.aload_n 0, 1) := by decide +kernel
theorem dX12_readsThing_10 : decode cX12_readsThing 10 = .ok (.invokevirtual 233, 3) := by decide +kernel
theorem dX12_readsThing_13 : decode cX12_readsThing 13 = .ok (.istore_n 1, 1) := by decide +kernel
theorem dX12_readsThing_14 : decode cX12_readsThing 14 = .ok (.aload_n 0, 1) := by decide +kernel
theorem dX12_readsThing_15 : decode cX12_readsThing 15 = .ok (.sipush 3000, 3) := by decide +kernel
theorem dX12_readsThing_18 : decode cX12_readsThing 18 = .ok (.invokevirtual 236, 3) := by decide +kernel
theorem dX12_readsThing_21 : decode cX12_readsThing 21 = .ok (.iload_n 1, 1) := by decide +kernel
theorem dX12_readsThing_22 : decode cX12_readsThing 22 = .ok (.ireturn, 1) := by decide +kernel
theorem dX12_readsThing_23 : decode cX12_readsThing 23 = .ok (.aload_n 0, 1) := by decide +kernel
theorem dX12_readsThing_24 : decode cX12_readsThing 24 = .ok (.invokevirtual 188, 3) := by decide +kernel
theorem dX12_readsThing_27 : decode cX12_readsThing 27 = .ok (.ifCond .eq 14, 3) := by decide +kernel
theorem dX12_readsThing_30 : decode cX12_readsThing 30 = .ok (.aload_n 0, 1) := by decide +kernel
theorem dX12_readsThing_31 : decode cX12_readsThing 31 = .ok (.aload_n 0, 1) := by decide +kernel
theorem dX12_readsThing_32 : decode cX12_readsThing 32 = .ok (.iconst 3, 1) := by decide +kernel
theorem dX12_readsThing_33 : decode cX12_readsThing 33 = .ok (.invokevirtual 198, 3) := by decide +kernel
theorem dX12_readsThing_36 : decode cX12_readsThing 36 = .ok (.invokevirtual 236, 3) := by decide +kernel
theorem dX12_readsThing_39 : decode cX12_readsThing 39 = .ok (.iconst 1, 1) := by decide +kernel
theorem dX12_readsThing_40 : decode cX12_readsThing 40 = .ok (.ireturn, 1) := by decide +kernel
theorem dX12_readsThing_41 : decode cX12_readsThing 41 = .ok (.aload_n 0, 1) := by decide +kernel
theorem dX12_readsThing_42 : decode cX12_readsThing 42 = .ok (.ldc 240, 2) := by decide +kernel
theorem dX12_readsThing_44 : decode cX12_readsThing 44 = .ok (.invokevirtual 207, 3) := by decide +kernel
theorem dX12_readsThing_47 : decode cX12_readsThing 47 = .ok (.istore_n 1, 1) := by decide +kernel
theorem dX12_readsThing_48 : decode cX12_readsThing 48 = .ok (.iload_n 1, 1) := by decide +kernel
theorem dX12_readsThing_49 : decode cX12_readsThing 49 = .ok (.ifCond .lt 14, 3) := by decide +kernel
theorem dX12_readsThing_52 : decode cX12_readsThing 52 = .ok (.aload_n 0, 1) := by decide +kernel
theorem dX12_readsThing_53 : decode cX12_readsThing 53 = .ok (.sipush 1000, 3) := by decide +kernel
theorem dX12_readsThing_56 : decode cX12_readsThing 56 = .ok (.iload_n 1, 1) := by decide +kernel
theorem dX12_readsThing_57 : decode cX12_readsThing 57 = .ok (.iadd, 1) := by decide +kernel
theorem dX12_readsThing_58 : decode cX12_readsThing 58 = .ok (.invokevirtual 236, 3) := by decide +kernel
theorem dX12_readsThing_61 : decode cX12_readsThing 61 = .ok (.iconst 1, 1) := by decide +kernel
theorem dX12_readsThing_62 : decode cX12_readsThing 62 = .ok (.ireturn, 1) := by decide +kernel
theorem dX12_readsThing_63 : decode cX12_readsThing 63 = .ok (.aload_n 0, 1) := by decide +kernel
theorem dX12_readsThing_64 : decode cX12_readsThing 64 = .ok (.getfield 154, 3) := by decide +kernel
theorem dX12_readsThing_67 : decode cX12_readsThing 67 = .ok (.iconst 4, 1) := by decide +kernel
theorem dX12_readsThing_68 : decode cX12_readsThing 68 = .ok (.if_icmp .eq 12, 3) := by decide +kernel
theorem dX12_readsThing_71 : decode cX12_readsThing 71 = .ok (.aload_n 0, 1) := by decide +kernel
theorem dX12_readsThing_72 : decode cX12_readsThing 72 = .ok (.bipush 40, 2) := by decide +kernel
theorem dX12_readsThing_74 : decode cX12_readsThing 74 = .ok (.invokevirtual 195, 3) := by decide +kernel
theorem dX12_readsThing_77 : decode cX12_readsThing 77 = .ok (.ifCond .ne 5, 3) := by decide +kernel
theorem dX12_readsThing_80 : decode cX12_readsThing 80 = .ok (.iconst 0, 1) := by decide +kernel
theorem dX12_readsThing_81 : decode cX12_readsThing 81 = .ok (.ireturn, 1) := by decide +kernel
theorem dX12_readsThing_82 : decode cX12_readsThing 82 = .ok (.aload_n 0, 1) := by decide +kernel
theorem dX12_readsThing_83 : decode cX12_readsThing 83 = .ok (.dup, 1) := by decide +kernel
theorem dX12_readsThing_84 : decode cX12_readsThing 84 = .ok (.getfield 154, 3) := by decide +kernel
theorem dX12_readsThing_87 : decode cX12_readsThing 87 = .ok (.iconst 1, 1) := by decide +kernel
theorem dX12_readsThing_88 : decode cX12_readsThing 88 = .ok (.iadd, 1) := by decide +kernel
theorem dX12_readsThing_89 : decode cX12_readsThing 89 = .ok (.putfield 154, 3) := by decide +kernel
theorem dX12_readsThing_92 : decode cX12_readsThing 92 = .ok (.aload_n 0, 1) := by decide +kernel
theorem dX12_readsThing_93 : decode cX12_readsThing 93 = .ok (.iconst 0, 1) := by decide +kernel
theorem dX12_readsThing_94 : decode cX12_readsThing 94 = .ok (.invokevirtual 242, 3) := by decide +kernel
theorem dX12_readsThing_97 : decode cX12_readsThing 97 = .ok (.ifCond .eq 12, 3) := by decide +kernel
theorem dX12_readsThing_100 : decode cX12_readsThing 100 = .ok (.aload_n 0, 1) := by decide +kernel
theorem dX12_readsThing_101 : decode cX12_readsThing 101 = .ok (.bipush 41, 2) := by decide +kernel
theorem dX12_readsThing_103 : decode cX12_readsThing 103 = .ok (.invokevirtual 195, 3) := by decide +kernel
theorem dX12_readsThing_106 : decode cX12_readsThing 106 = .ok (.ifCond .ne 5, 3) := by decide +kernel
theorem dX12_readsThing_109 : decode cX12_readsThing 109 = .ok (.iconst 0, 1) := by decide +kernel
theorem dX12_readsThing_110 : decode cX12_readsThing 110 = .ok (.ireturn, 1) := by decide +kernel
theorem dX12_readsThing_111 : decode cX12_readsThing 111 = .ok (.aload_n 0, 1) := by decide +kernel
theorem dX12_readsThing_112 : decode cX12_readsThing 112 = .ok (.dup, 1) := by decide +kernel
theorem dX12_readsThing_113 : decode cX12_readsThing 113 = .ok (.getfield 154, 3) := by decide +kernel
theorem dX12_readsThing_116 : decode cX12_readsThing 116 = .ok (.iconst 1, 1) := by decide +kernel
theorem dX12_readsThing_117 : decode cX12_readsThing 117 = .ok (.isub, 1) := by decide +kernel
theorem dX12_readsThing_118 : decode cX12_readsThing 118 = .ok (.putfield 154, 3) := by decide +kernel
theorem dX12_readsThing_121 : decode cX12_readsThing 121 = .ok (.iconst 1, 1) := by decide +kernel
theorem dX12_readsThing_122 : decode cX12_readsThing 122 = .ok (.ireturn, 1) := by decide +kernel
theorem dX12_readsRank_0 : decode cX12_readsRank 0 = .ok (.iload_n 1, 1) := by decide +kernel
theorem dX12_readsRank_1 : decode cX12_readsRank 1 = .ok (.iconst 3, 1) := by decide +kernel
theorem dX12_readsRank_2 : decode cX12_readsRank 2 = .ok (.if_icmp .ne 8, 3) := by decide +kernel
theorem dX12_readsRank_5 : decode cX12_readsRank 5 = .ok (.aload_n 0, 1) := by decide +kernel
theorem dX12_readsRank_6 : decode cX12_readsRank 6 = .ok (.invokevirtual 233, 3) := by decide +kernel
theorem dX12_readsRank_9 : decode cX12_readsRank 9 = .ok (.ireturn, 1) := by decide +kernel
theorem dX12_readsRank_10 : decode cX12_readsRank 10 = .ok (.aload_n 0, 1) := by decide +kernel
theorem dX12_readsRank_11 : decode cX12_readsRank 11 = .ok (.iload_n 1, 1) := by decide +kernel
theorem dX12_readsRank_12 : decode cX12_readsRank 12 = .ok (.iconst 1, 1) := by decide +kernel
theorem dX12_readsRank_13 : decode cX12_readsRank 13 = .ok (.iadd, 1) := by decide +kernel
theorem dX12_readsRank_14 : decode cX12_readsRank 14 = .ok (.invokevirtual 242, 3) := by decide +kernel
theorem dX12_readsRank_17 : decode cX12_readsRank 17 = .ok (.ifCond .ne 5, 3) := by decide +kernel
theorem dX12_readsRank_20 : decode cX12_readsRank 20 = .ok (.iconst 0, 1) := by decide +kernel
theorem dX12_readsRank_21 : decode cX12_readsRank 21 = .ok (.ireturn, 1) := by decide +kernel
theorem dX12_readsRank_22 : decode cX12_readsRank 22 = .ok (.iconst 1, 1) := by decide +kernel
theorem dX12_readsRank_23 : decode cX12_readsRank 23 = .ok (.istore_n 2, 1) := by decide +kernel
theorem dX12_readsRank_24 : decode cX12_readsRank 24 = .ok (.iload_n 2, 1) := by decide +kernel
theorem dX12_readsRank_25 : decode cX12_readsRank 25 = .ok (.ifCond .eq 88, 3) := by decide +kernel
theorem dX12_readsRank_28 : decode cX12_readsRank 28 = .ok (.aload_n 0, 1) := by decide +kernel
theorem dX12_readsRank_29 : decode cX12_readsRank 29 = .ok (.iload_n 1, 1) := by decide +kernel
theorem dX12_readsRank_30 : decode cX12_readsRank 30 = .ok (.ifCond .ne 8, 3) := by decide +kernel
theorem dX12_readsRank_33 : decode cX12_readsRank 33 = .ok (.ldc 245, 2) := by decide +kernel
theorem dX12_readsRank_35 : decode cX12_readsRank 35 = .ok (.goto 15, 3) := by decide +kernel
theorem dX12_readsRank_38 : decode cX12_readsRank 38 = .ok (.iload_n 1, 1) := by decide +kernel
theorem dX12_readsRank_39 : decode cX12_readsRank 39 = .ok (.iconst 1, 1) := by decide +kernel
theorem dX12_readsRank_40 : decode cX12_readsRank 40 = .ok (.if_icmp .ne 8, 3) := by decide +kernel
theorem dX12_readsRank_43 : decode cX12_readsRank 43 = .ok (.ldc 247, 2) := by decide +kernel
theorem dX12_readsRank_45 : decode cX12_readsRank 45 = .ok (.goto 5, 3) := by decide +kernel
theorem dX12_readsRank_48 : decode cX12_readsRank 48 = .ok (.ldc 249, 2) := by decide +kernel
theorem dX12_readsRank_50 : decode cX12_readsRank 50 = .ok (.invokevirtual 207, 3) := by decide +kernel
theorem dX12_readsRank_53 : decode cX12_readsRank 53 = .ok (.istore_n 3, 1) := by decide +kernel
theorem dX12_readsRank_54 : decode cX12_readsRank 54 = .ok (.iload_n 3, 1) := by decide +kernel
theorem dX12_readsRank_55 : decode cX12_readsRank 55 = .ok (.ifCond .ge 5, 3) := by decide +kernel
theorem dX12_readsRank_58 : decode cX12_readsRank 58 = .ok (.iconst 1, 1) := by decide +kernel
theorem dX12_readsRank_59 : decode cX12_readsRank 59 = .ok (.ireturn, 1) := by decide +kernel
theorem dX12_readsRank_60 : decode cX12_readsRank 60 = .ok (.aload_n 0, 1) := by decide +kernel
theorem dX12_readsRank_61 : decode cX12_readsRank 61 = .ok (.iload_n 1, 1) := by decide +kernel
theorem dX12_readsRank_62 : decode cX12_readsRank 62 = .ok (.iconst 1, 1) := by decide +kernel
theorem dX12_readsRank_63 : decode cX12_readsRank 63 = .ok (.iadd, 1) := by decide +kernel
theorem dX12_readsRank_64 : decode cX12_readsRank 64 = .ok (.invokevirtual 242, 3) := by decide +kernel
theorem dX12_readsRank_67 : decode cX12_readsRank 67 = .ok (.ifCond .ne 5, 3) := by decide +kernel
theorem dX12_readsRank_70 : decode cX12_readsRank 70 = .ok (.iconst 0, 1) := by decide +kernel
theorem dX12_readsRank_71 : decode cX12_readsRank 71 = .ok (.ireturn, 1) := by decide +kernel
theorem dX12_readsRank_72 : decode cX12_readsRank 72 = .ok (.aload_n 0, 1) := by decide +kernel
theorem dX12_readsRank_73 : decode cX12_readsRank 73 = .ok (.sipush 2000, 3) := by decide +kernel
theorem dX12_readsRank_76 : decode cX12_readsRank 76 = .ok (.iload_n 3, 1) := by decide +kernel
theorem dX12_readsRank_77 : decode cX12_readsRank 77 = .ok (.iadd, 1) := by decide +kernel
theorem dX12_readsRank_78 : decode cX12_readsRank 78 = .ok (.iload_n 1, 1) := by decide +kernel
theorem dX12_readsRank_79 : decode cX12_readsRank 79 = .ok (.ifCond .ne 7, 3) := by decide +kernel
theorem dX12_readsRank_82 : decode cX12_readsRank 82 = .ok (.iconst 0, 1) := by decide +kernel
theorem dX12_readsRank_83 : decode cX12_readsRank 83 = .ok (.goto 13, 3) := by decide +kernel
theorem dX12_readsRank_86 : decode cX12_readsRank 86 = .ok (.iload_n 1, 1) := by decide +kernel
theorem dX12_readsRank_87 : decode cX12_readsRank 87 = .ok (.iconst 1, 1) := by decide +kernel
theorem dX12_readsRank_88 : decode cX12_readsRank 88 = .ok (.if_icmp .ne 7, 3) := by decide +kernel
theorem dX12_readsRank_91 : decode cX12_readsRank 91 = .ok (.iconst 3, 1) := by decide +kernel
theorem dX12_readsRank_92 : decode cX12_readsRank 92 = .ok (.goto 4, 3) := by decide +kernel
theorem dX12_readsRank_95 : decode cX12_readsRank 95 = .ok (.iconst 5, 1) := by decide +kernel
theorem dX12_readsRank_96 : decode cX12_readsRank 96 = .ok (.iadd, 1) := by decide +kernel
theorem dX12_readsRank_97 : decode cX12_readsRank 97 = .ok (.invokevirtual 236, 3) := by decide +kernel
theorem dX12_readsRank_100 : decode cX12_readsRank 100 = .ok (.iload_n 1, 1) := by decide +kernel
theorem dX12_readsRank_101 : decode cX12_readsRank 101 = .ok (.ifCond .le 7, 3) := by decide +kernel
theorem dX12_readsRank_104 : decode cX12_readsRank 104 = .ok (.iconst 1, 1) := by decide +kernel
theorem dX12_readsRank_105 : decode cX12_readsRank 105 = .ok (.goto 4, 3) := by decide +kernel
theorem dX12_readsRank_108 : decode cX12_readsRank 108 = .ok (.iconst 0, 1) := by decide +kernel
theorem dX12_readsRank_109 : decode cX12_readsRank 109 = .ok (.istore_n 2, 1) := by decide +kernel
theorem dX12_readsRank_110 : decode cX12_readsRank 110 = .ok (.goto (-86), 3) := by decide +kernel
theorem dX12_readsRank_113 : decode cX12_readsRank 113 = .ok (.iconst 1, 1) := by decide +kernel
theorem dX12_readsRank_114 : decode cX12_readsRank 114 = .ok (.ireturn, 1) := by decide +kernel
theorem dX12_rule_0 : decode cX12_rule 0 = .ok (.aload_n 0, 1) := by decide +kernel
theorem dX12_rule_1 : decode cX12_rule 1 = .ok (.iconst 0, 1) := by decide +kernel
theorem dX12_rule_2 : decode cX12_rule 2 = .ok (.putfield 126, 3) := by decide +kernel
theorem dX12_rule_5 : decode cX12_rule 5 = .ok (.aload_n 0, 1) := by decide +kernel
theorem dX12_rule_6 : decode cX12_rule 6 = .ok (.bipush 40, 2) := by decide +kernel
theorem dX12_rule_8 : decode cX12_rule 8 = .ok (.invokevirtual 210, 3) := by decide +kernel
theorem dX12_rule_11 : decode cX12_rule 11 = .ok (.istore_n 1, 1) := by decide +kernel
theorem dX12_rule_12 : decode cX12_rule 12 = .ok (.aload_n 0, 1) := by decide +kernel
theorem dX12_rule_13 : decode cX12_rule 13 = .ok (.iconst 0, 1) := by decide +kernel
theorem dX12_rule_14 : decode cX12_rule 14 = .ok (.putfield 230, 3) := by decide +kernel
theorem dX12_rule_17 : decode cX12_rule 17 = .ok (.iload_n 1, 1) := by decide +kernel
theorem dX12_rule_18 : decode cX12_rule 18 = .ok (.ifCond .eq 11, 3) := by decide +kernel
theorem dX12_rule_21 : decode cX12_rule 21 = .ok (.aload_n 0, 1) := by decide +kernel
theorem dX12_rule_22 : decode cX12_rule 22 = .ok (.iconst 0, 1) := by decide +kernel
theorem dX12_rule_23 : decode cX12_rule 23 = .ok (.invokevirtual 242, 3) := by decide +kernel
theorem dX12_rule_26 : decode cX12_rule 26 = .ok (.ifCond .eq 7, 3) := by decide +kernel
theorem dX12_rule_29 : decode cX12_rule 29 = .ok (.iconst 1, 1) := by decide +kernel
theorem dX12_rule_30 : decode cX12_rule 30 = .ok (.goto 4, 3) := by decide +kernel
theorem dX12_rule_33 : decode cX12_rule 33 = .ok (.iconst 0, 1) := by decide +kernel
theorem dX12_rule_34 : decode cX12_rule 34 = .ok (.istore_n 2, 1) := by decide +kernel
theorem dX12_rule_35 : decode cX12_rule 35 = .ok (.aload_n 0, 1) := by decide +kernel
theorem dX12_rule_36 : decode cX12_rule 36 = .ok (.iload_n 1, 1) := by decide +kernel
theorem dX12_rule_37 : decode cX12_rule 37 = .ok (.bipush 40, 2) := by decide +kernel
theorem dX12_rule_39 : decode cX12_rule 39 = .ok (.iload_n 2, 1) := by decide +kernel
theorem dX12_rule_40 : decode cX12_rule 40 = .ok (.invokevirtual 216, 3) := by decide +kernel
theorem dX12_rule_43 : decode cX12_rule 43 = .ok (.istore_n 3, 1) := by decide +kernel
theorem dX12_rule_44 : decode cX12_rule 44 = .ok (.iload_n 3, 1) := by decide +kernel
theorem dX12_rule_45 : decode cX12_rule 45 = .ok (.ifCond .ge 5, 3) := by decide +kernel
theorem dX12_rule_48 : decode cX12_rule 48 = .ok (.iload_n 3, 1) := by decide +kernel
theorem dX12_rule_49 : decode cX12_rule 49 = .ok (.ireturn, 1) := by decide +kernel
theorem dX12_rule_50 : decode cX12_rule 50 = .ok (.aload_n 0, 1) := by decide +kernel
theorem dX12_rule_51 : decode cX12_rule 51 = .ok (.aload_n 0, 1) := by decide +kernel
theorem dX12_rule_52 : decode cX12_rule 52 = .ok (.getfield 230, 3) := by decide +kernel
theorem dX12_rule_55 : decode cX12_rule 55 = .ok (.putfield 251, 3) := by decide +kernel
theorem dX12_rule_58 : decode cX12_rule 58 = .ok (.iconst 0, 1) := by decide +kernel
theorem dX12_rule_59 : decode cX12_rule 59 = .ok (.istore 4, 2) := by decide +kernel
theorem dX12_rule_61 : decode cX12_rule 61 = .ok (.iload 4, 2) := by decide +kernel
theorem dX12_rule_63 : decode cX12_rule 63 = .ok (.aload_n 0, 1) := by decide +kernel
theorem dX12_rule_64 : decode cX12_rule 64 = .ok (.getfield 230, 3) := by decide +kernel
theorem dX12_rule_67 : decode cX12_rule 67 = .ok (.if_icmp .ge 23, 3) := by decide +kernel
theorem dX12_rule_70 : decode cX12_rule 70 = .ok (.aload_n 0, 1) := by decide +kernel
theorem dX12_rule_71 : decode cX12_rule 71 = .ok (.getfield 57, 3) := by decide +kernel
theorem dX12_rule_74 : decode cX12_rule 74 = .ok (.iload 4, 2) := by decide +kernel
theorem dX12_rule_76 : decode cX12_rule 76 = .ok (.aload_n 0, 1) := by decide +kernel
theorem dX12_rule_77 : decode cX12_rule 77 = .ok (.getfield 60, 3) := by decide +kernel
theorem dX12_rule_80 : decode cX12_rule 80 = .ok (.iload 4, 2) := by decide +kernel
theorem dX12_rule_82 : decode cX12_rule 82 = .ok (.iaload, 1) := by decide +kernel
theorem dX12_rule_83 : decode cX12_rule 83 = .ok (.iastore, 1) := by decide +kernel
theorem dX12_rule_84 : decode cX12_rule 84 = .ok (.iinc 4 1, 3) := by decide +kernel
theorem dX12_rule_87 : decode cX12_rule 87 = .ok (.goto (-26), 3) := by decide +kernel
theorem dX12_rule_90 : decode cX12_rule 90 = .ok (.iconst 0, 1) := by decide +kernel
theorem dX12_rule_91 : decode cX12_rule 91 = .ok (.ireturn, 1) := by decide +kernel
theorem dX12_worked_0 : decode cX12_worked 0 = .ok (.iload_n 0, 1) := by decide +kernel
theorem dX12_worked_1 : decode cX12_worked 1 = .ok (.tableswitch 93 0 5 #[39, 53, 67, 81, 85, 89], 39) := by decide +kernel
theorem dX12_worked_40 : decode cX12_worked 40 = .ok (.iload_n 1, 1) := by decide +kernel
theorem dX12_worked_41 : decode cX12_worked 41 = .ok (.iload_n 2, 1) := by decide +kernel
theorem dX12_worked_42 : decode cX12_worked 42 = .ok (.if_icmp .ge 7, 3) := by decide +kernel
theorem dX12_worked_45 : decode cX12_worked 45 = .ok (.iconst 1, 1) := by decide +kernel
theorem dX12_worked_46 : decode cX12_worked 46 = .ok (.goto 4, 3) := by decide +kernel
theorem dX12_worked_49 : decode cX12_worked 49 = .ok (.iconst 0, 1) := by decide +kernel
theorem dX12_worked_50 : decode cX12_worked 50 = .ok (.invokestatic 166, 3) := by decide +kernel
theorem dX12_worked_53 : decode cX12_worked 53 = .ok (.ireturn, 1) := by decide +kernel
theorem dX12_worked_54 : decode cX12_worked 54 = .ok (.iload_n 1, 1) := by decide +kernel
theorem dX12_worked_55 : decode cX12_worked 55 = .ok (.iload_n 2, 1) := by decide +kernel
theorem dX12_worked_56 : decode cX12_worked 56 = .ok (.if_icmp .le 7, 3) := by decide +kernel
theorem dX12_worked_59 : decode cX12_worked 59 = .ok (.iconst 1, 1) := by decide +kernel
theorem dX12_worked_60 : decode cX12_worked 60 = .ok (.goto 4, 3) := by decide +kernel
theorem dX12_worked_63 : decode cX12_worked 63 = .ok (.iconst 0, 1) := by decide +kernel
theorem dX12_worked_64 : decode cX12_worked 64 = .ok (.invokestatic 166, 3) := by decide +kernel
theorem dX12_worked_67 : decode cX12_worked 67 = .ok (.ireturn, 1) := by decide +kernel
theorem dX12_worked_68 : decode cX12_worked 68 = .ok (.iload_n 1, 1) := by decide +kernel
theorem dX12_worked_69 : decode cX12_worked 69 = .ok (.iload_n 2, 1) := by decide +kernel
theorem dX12_worked_70 : decode cX12_worked 70 = .ok (.if_icmp .ne 7, 3) := by decide +kernel
theorem dX12_worked_73 : decode cX12_worked 73 = .ok (.iconst 1, 1) := by decide +kernel
theorem dX12_worked_74 : decode cX12_worked 74 = .ok (.goto 4, 3) := by decide +kernel
theorem dX12_worked_77 : decode cX12_worked 77 = .ok (.iconst 0, 1) := by decide +kernel
theorem dX12_worked_78 : decode cX12_worked 78 = .ok (.invokestatic 166, 3) := by decide +kernel
theorem dX12_worked_81 : decode cX12_worked 81 = .ok (.ireturn, 1) := by decide +kernel
theorem dX12_worked_82 : decode cX12_worked 82 = .ok (.iload_n 1, 1) := by decide +kernel
theorem dX12_worked_83 : decode cX12_worked 83 = .ok (.iload_n 2, 1) := by decide +kernel
theorem dX12_worked_84 : decode cX12_worked 84 = .ok (.iadd, 1) := by decide +kernel
theorem dX12_worked_85 : decode cX12_worked 85 = .ok (.ireturn, 1) := by decide +kernel
theorem dX12_worked_86 : decode cX12_worked 86 = .ok (.iload_n 1, 1) := by decide +kernel
theorem dX12_worked_87 : decode cX12_worked 87 = .ok (.iload_n 2, 1) := by decide +kernel
theorem dX12_worked_88 : decode cX12_worked 88 = .ok (.isub, 1) := by decide +kernel
theorem dX12_worked_89 : decode cX12_worked 89 = .ok (.ireturn, 1) := by decide +kernel
theorem dX12_worked_90 : decode cX12_worked 90 = .ok (.iload_n 1, 1) := by decide +kernel
theorem dX12_worked_91 : decode cX12_worked 91 = .ok (.iload_n 2, 1) := by decide +kernel
theorem dX12_worked_92 : decode cX12_worked 92 = .ok (.imul, 1) := by decide +kernel
theorem dX12_worked_93 : decode cX12_worked 93 = .ok (.ireturn, 1) := by decide +kernel
theorem dX12_worked_94 : decode cX12_worked 94 = .ok (.iload_n 2, 1) := by decide +kernel
theorem dX12_worked_95 : decode cX12_worked 95 = .ok (.ifCond .ne 7, 3) := by decide +kernel
theorem dX12_worked_98 : decode cX12_worked 98 = .ok (.iconst 0, 1) := by decide +kernel
theorem dX12_worked_99 : decode cX12_worked 99 = .ok (.goto 6, 3) := by decide +kernel
theorem dX12_worked_102 : decode cX12_worked 102 = .ok (.iload_n 1, 1) := by decide +kernel
theorem dX12_worked_103 : decode cX12_worked 103 = .ok (.iload_n 2, 1) := by decide +kernel
theorem dX12_worked_104 : decode cX12_worked 104 = .ok (.idiv, 1) := by decide +kernel
theorem dX12_worked_105 : decode cX12_worked 105 = .ok (.ireturn, 1) := by decide +kernel
theorem dX12_ruled_0 : decode cX12_ruled 0 = .ok (.iconst 0, 1) := by decide +kernel
theorem dX12_ruled_1 : decode cX12_ruled 1 = .ok (.istore_n 1, 1) := by decide +kernel
theorem dX12_ruled_2 : decode cX12_ruled 2 = .ok (.iconst 0, 1) := by decide +kernel
theorem dX12_ruled_3 : decode cX12_ruled 3 = .ok (.istore_n 2, 1) := by decide +kernel
theorem dX12_ruled_4 : decode cX12_ruled 4 = .ok (.iload_n 2, 1) := by decide +kernel
theorem dX12_ruled_5 : decode cX12_ruled 5 = .ok (.aload_n 0, 1) := by decide +kernel
theorem dX12_ruled_6 : decode cX12_ruled 6 = .ok (.getfield 251, 3) := by decide +kernel
theorem dX12_ruled_9 : decode cX12_ruled 9 = .ok (.if_icmp .ge 116, 3) := by decide +kernel
theorem dX12_ruled_12 : decode cX12_ruled 12 = .ok (.aload_n 0, 1) := by decide +kernel
theorem dX12_ruled_13 : decode cX12_ruled 13 = .ok (.getfield 57, 3) := by decide +kernel
theorem dX12_ruled_16 : decode cX12_ruled 16 = .ok (.iload_n 2, 1) := by decide +kernel
theorem dX12_ruled_17 : decode cX12_ruled 17 = .ok (.iaload, 1) := by decide +kernel
theorem dX12_ruled_18 : decode cX12_ruled 18 = .ok (.istore_n 3, 1) := by decide +kernel
theorem dX12_ruled_19 : decode cX12_ruled 19 = .ok (.iload_n 3, 1) := by decide +kernel
theorem dX12_ruled_20 : decode cX12_ruled 20 = .ok (.sipush 3000, 3) := by decide +kernel
theorem dX12_ruled_23 : decode cX12_ruled 23 = .ok (.if_icmp .ne 23, 3) := by decide +kernel
theorem dX12_ruled_26 : decode cX12_ruled 26 = .ok (.aload_n 0, 1) := by decide +kernel
theorem dX12_ruled_27 : decode cX12_ruled 27 = .ok (.getfield 63, 3) := by decide +kernel
theorem dX12_ruled_30 : decode cX12_ruled 30 = .ok (.iload_n 1, 1) := by decide +kernel
theorem dX12_ruled_31 : decode cX12_ruled 31 = .ok (.iconst 1, 1) := by decide +kernel
theorem dX12_ruled_32 : decode cX12_ruled 32 = .ok (.isub, 1) := by decide +kernel
theorem dX12_ruled_33 : decode cX12_ruled 33 = .ok (.aload_n 0, 1) := by decide +kernel
theorem dX12_ruled_34 : decode cX12_ruled 34 = .ok (.getfield 63, 3) := by decide +kernel
theorem dX12_ruled_37 : decode cX12_ruled 37 = .ok (.iload_n 1, 1) := by decide +kernel
theorem dX12_ruled_38 : decode cX12_ruled 38 = .ok (.iconst 1, 1) := by decide +kernel
theorem dX12_ruled_39 : decode cX12_ruled 39 = .ok (.isub, 1) := by decide +kernel
theorem dX12_ruled_40 : decode cX12_ruled 40 = .ok (.iaload, 1) := by decide +kernel
theorem dX12_ruled_41 : decode cX12_ruled 41 = .ok (.ineg, 1) := by decide +kernel
theorem dX12_ruled_42 : decode cX12_ruled 42 = .ok (.iastore, 1) := by decide +kernel
theorem dX12_ruled_43 : decode cX12_ruled 43 = .ok (.goto 76, 3) := by decide +kernel
theorem dX12_ruled_46 : decode cX12_ruled 46 = .ok (.iload_n 3, 1) := by decide +kernel
theorem dX12_ruled_47 : decode cX12_ruled 47 = .ok (.sipush 2000, 3) := by decide +kernel
theorem dX12_ruled_50 : decode cX12_ruled 50 = .ok (.if_icmp .lt 39, 3) := by decide +kernel
theorem dX12_ruled_53 : decode cX12_ruled 53 = .ok (.iinc 1 (-1), 3) := by decide +kernel
theorem dX12_ruled_56 : decode cX12_ruled 56 = .ok (.aload_n 0, 1) := by decide +kernel
theorem dX12_ruled_57 : decode cX12_ruled 57 = .ok (.getfield 63, 3) := by decide +kernel
theorem dX12_ruled_60 : decode cX12_ruled 60 = .ok (.iload_n 1, 1) := by decide +kernel
theorem dX12_ruled_61 : decode cX12_ruled 61 = .ok (.iconst 1, 1) := by decide +kernel
theorem dX12_ruled_62 : decode cX12_ruled 62 = .ok (.isub, 1) := by decide +kernel
theorem dX12_ruled_63 : decode cX12_ruled 63 = .ok (.iload_n 3, 1) := by decide +kernel
theorem dX12_ruled_64 : decode cX12_ruled 64 = .ok (.sipush 2000, 3) := by decide +kernel
theorem dX12_ruled_67 : decode cX12_ruled 67 = .ok (.isub, 1) := by decide +kernel
theorem dX12_ruled_68 : decode cX12_ruled 68 = .ok (.aload_n 0, 1) := by decide +kernel
theorem dX12_ruled_69 : decode cX12_ruled 69 = .ok (.getfield 63, 3) := by decide +kernel
theorem dX12_ruled_72 : decode cX12_ruled 72 = .ok (.iload_n 1, 1) := by decide +kernel
theorem dX12_ruled_73 : decode cX12_ruled 73 = .ok (.iconst 1, 1) := by decide +kernel
theorem dX12_ruled_74 : decode cX12_ruled 74 = .ok (.isub, 1) := by decide +kernel
theorem dX12_ruled_75 : decode cX12_ruled 75 = .ok (.iaload, 1) := by decide +kernel
theorem dX12_ruled_76 : decode cX12_ruled 76 = .ok (.aload_n 0, 1) := by decide +kernel
theorem dX12_ruled_77 : decode cX12_ruled 77 = .ok (.getfield 63, 3) := by decide +kernel
theorem dX12_ruled_80 : decode cX12_ruled 80 = .ok (.iload_n 1, 1) := by decide +kernel
theorem dX12_ruled_81 : decode cX12_ruled 81 = .ok (.iaload, 1) := by decide +kernel
theorem dX12_ruled_82 : decode cX12_ruled 82 = .ok (.invokestatic 254, 3) := by decide +kernel
theorem dX12_ruled_85 : decode cX12_ruled 85 = .ok (.iastore, 1) := by decide +kernel
theorem dX12_ruled_86 : decode cX12_ruled 86 = .ok (.goto 33, 3) := by decide +kernel
theorem dX12_ruled_89 : decode cX12_ruled 89 = .ok (.aload_n 0, 1) := by decide +kernel
theorem dX12_ruled_90 : decode cX12_ruled 90 = .ok (.getfield 63, 3) := by decide +kernel
theorem dX12_ruled_93 : decode cX12_ruled 93 = .ok (.iload_n 1, 1) := by decide +kernel
theorem dX12_ruled_94 : decode cX12_ruled 94 = .ok (.iload_n 3, 1) := by decide +kernel
theorem dX12_ruled_95 : decode cX12_ruled 95 = .ok (.sipush 1000, 3) := by decide +kernel
theorem dX12_ruled_98 : decode cX12_ruled 98 = .ok (.if_icmp .lt 16, 3) := by decide +kernel
theorem dX12_ruled_101 : decode cX12_ruled 101 = .ok (.aload_n 0, 1) := by decide +kernel
theorem dX12_ruled_102 : decode cX12_ruled 102 = .ok (.getfield 66, 3) := by decide +kernel
theorem dX12_ruled_105 : decode cX12_ruled 105 = .ok (.iload_n 3, 1) := by decide +kernel
theorem dX12_ruled_106 : decode cX12_ruled 106 = .ok (.sipush 1000, 3) := by decide +kernel
theorem dX12_ruled_109 : decode cX12_ruled 109 = .ok (.isub, 1) := by decide +kernel
theorem dX12_ruled_110 : decode cX12_ruled 110 = .ok (.iaload, 1) := by decide +kernel
theorem dX12_ruled_111 : decode cX12_ruled 111 = .ok (.goto 4, 3) := by decide +kernel
theorem dX12_ruled_114 : decode cX12_ruled 114 = .ok (.iload_n 3, 1) := by decide +kernel
theorem dX12_ruled_115 : decode cX12_ruled 115 = .ok (.iastore, 1) := by decide +kernel
theorem dX12_ruled_116 : decode cX12_ruled 116 = .ok (.iinc 1 1, 3) := by decide +kernel
theorem dX12_ruled_119 : decode cX12_ruled 119 = .ok (.iinc 2 1, 3) := by decide +kernel
theorem dX12_ruled_122 : decode cX12_ruled 122 = .ok (.goto (-118), 3) := by decide +kernel
theorem dX12_ruled_125 : decode cX12_ruled 125 = .ok (.aload_n 0, 1) := by decide +kernel
theorem dX12_ruled_126 : decode cX12_ruled 126 = .ok (.getfield 251, 3) := by decide +kernel
theorem dX12_ruled_129 : decode cX12_ruled 129 = .ok (.ifCond .ne 15, 3) := by decide +kernel
theorem dX12_ruled_132 : decode cX12_ruled 132 = .ok (.bipush 8, 2) := by decide +kernel
theorem dX12_ruled_134 : decode cX12_ruled 134 = .ok (.aload_n 0, 1) := by decide +kernel
theorem dX12_ruled_135 : decode cX12_ruled 135 = .ok (.getfield 66, 3) := by decide +kernel
theorem dX12_ruled_138 : decode cX12_ruled 138 = .ok (.iconst 0, 1) := by decide +kernel
theorem dX12_ruled_139 : decode cX12_ruled 139 = .ok (.iaload, 1) := by decide +kernel
theorem dX12_ruled_140 : decode cX12_ruled 140 = .ok (.iadd, 1) := by decide +kernel
theorem dX12_ruled_141 : decode cX12_ruled 141 = .ok (.goto 9, 3) := by decide +kernel
theorem dX12_ruled_144 : decode cX12_ruled 144 = .ok (.aload_n 0, 1) := by decide +kernel
theorem dX12_ruled_145 : decode cX12_ruled 145 = .ok (.getfield 63, 3) := by decide +kernel
theorem dX12_ruled_148 : decode cX12_ruled 148 = .ok (.iconst 0, 1) := by decide +kernel
theorem dX12_ruled_149 : decode cX12_ruled 149 = .ok (.iaload, 1) := by decide +kernel
theorem dX12_ruled_150 : decode cX12_ruled 150 = .ok (.istore_n 2, 1) := by decide +kernel
theorem dX12_ruled_151 : decode cX12_ruled 151 = .ok (.iconst 1, 1) := by decide +kernel
theorem dX12_ruled_152 : decode cX12_ruled 152 = .ok (.sipush 999, 3) := by decide +kernel
theorem dX12_ruled_155 : decode cX12_ruled 155 = .ok (.iload_n 2, 1) := by decide +kernel
theorem dX12_ruled_156 : decode cX12_ruled 156 = .ok (.invokestatic 157, 3) := by decide +kernel
theorem dX12_ruled_159 : decode cX12_ruled 159 = .ok (.invokestatic 257, 3) := by decide +kernel
theorem dX12_ruled_162 : decode cX12_ruled 162 = .ok (.ireturn, 1) := by decide +kernel
theorem dX12_heavyBy_0 : decode cX12_heavyBy 0 = .ok (.iload_n 1, 1) := by decide +kernel
theorem dX12_heavyBy_1 : decode cX12_heavyBy 1 = .ok (.aload_n 0, 1) := by decide +kernel
theorem dX12_heavyBy_2 : decode cX12_heavyBy 2 = .ok (.getfield 39, 3) := by decide +kernel
theorem dX12_heavyBy_5 : decode cX12_heavyBy 5 = .ok (.iconst 3, 1) := by decide +kernel
theorem dX12_heavyBy_6 : decode cX12_heavyBy 6 = .ok (.iaload, 1) := by decide +kernel
theorem dX12_heavyBy_7 : decode cX12_heavyBy 7 = .ok (.imul, 1) := by decide +kernel
theorem dX12_heavyBy_8 : decode cX12_heavyBy 8 = .ok (.bipush 10, 2) := by decide +kernel
theorem dX12_heavyBy_10 : decode cX12_heavyBy 10 = .ok (.iload_n 2, 1) := by decide +kernel
theorem dX12_heavyBy_11 : decode cX12_heavyBy 11 = .ok (.iadd, 1) := by decide +kernel
theorem dX12_heavyBy_12 : decode cX12_heavyBy 12 = .ok (.imul, 1) := by decide +kernel
theorem dX12_heavyBy_13 : decode cX12_heavyBy 13 = .ok (.bipush 10, 2) := by decide +kernel
theorem dX12_heavyBy_15 : decode cX12_heavyBy 15 = .ok (.idiv, 1) := by decide +kernel
theorem dX12_heavyBy_16 : decode cX12_heavyBy 16 = .ok (.ireturn, 1) := by decide +kernel
theorem dX12_heavy_0 : decode cX12_heavy 0 = .ok (.aload_n 0, 1) := by decide +kernel
theorem dX12_heavy_1 : decode cX12_heavy 1 = .ok (.aload_n 0, 1) := by decide +kernel
theorem dX12_heavy_2 : decode cX12_heavy 2 = .ok (.getfield 36, 3) := by decide +kernel
theorem dX12_heavy_5 : decode cX12_heavy 5 = .ok (.iload_n 1, 1) := by decide +kernel
theorem dX12_heavy_6 : decode cX12_heavy 6 = .ok (.iaload, 1) := by decide +kernel
theorem dX12_heavy_7 : decode cX12_heavy 7 = .ok (.aload_n 0, 1) := by decide +kernel
theorem dX12_heavy_8 : decode cX12_heavy 8 = .ok (.getfield 39, 3) := by decide +kernel
theorem dX12_heavy_11 : decode cX12_heavy 11 = .ok (.iconst 2, 1) := by decide +kernel
theorem dX12_heavy_12 : decode cX12_heavy 12 = .ok (.iaload, 1) := by decide +kernel
theorem dX12_heavy_13 : decode cX12_heavy 13 = .ok (.invokevirtual 260, 3) := by decide +kernel
theorem dX12_heavy_16 : decode cX12_heavy 16 = .ok (.ireturn, 1) := by decide +kernel
theorem dX12_secondsOf_0 : decode cX12_secondsOf 0 = .ok (.aload_n 0, 1) := by decide +kernel
theorem dX12_secondsOf_1 : decode cX12_secondsOf 1 = .ok (.getfield 66, 3) := by decide +kernel
theorem dX12_secondsOf_4 : decode cX12_secondsOf 4 = .ok (.iconst 0, 1) := by decide +kernel
theorem dX12_secondsOf_5 : decode cX12_secondsOf 5 = .ok (.aload_n 0, 1) := by decide +kernel
theorem dX12_secondsOf_6 : decode cX12_secondsOf 6 = .ok (.iload_n 1, 1) := by decide +kernel
theorem dX12_secondsOf_7 : decode cX12_secondsOf 7 = .ok (.iload_n 2, 1) := by decide +kernel
theorem dX12_secondsOf_8 : decode cX12_secondsOf 8 = .ok (.iload_n 3, 1) := by decide +kernel
theorem dX12_secondsOf_9 : decode cX12_secondsOf 9 = .ok (.invokestatic 202, 3) := by decide +kernel
theorem dX12_secondsOf_12 : decode cX12_secondsOf 12 = .ok (.invokevirtual 263, 3) := by decide +kernel
theorem dX12_secondsOf_15 : decode cX12_secondsOf 15 = .ok (.iastore, 1) := by decide +kernel
theorem dX12_secondsOf_16 : decode cX12_secondsOf 16 = .ok (.aload_n 0, 1) := by decide +kernel
theorem dX12_secondsOf_17 : decode cX12_secondsOf 17 = .ok (.getfield 66, 3) := by decide +kernel
theorem dX12_secondsOf_20 : decode cX12_secondsOf 20 = .ok (.iconst 1, 1) := by decide +kernel
theorem dX12_secondsOf_21 : decode cX12_secondsOf 21 = .ok (.iload_n 3, 1) := by decide +kernel
theorem dX12_secondsOf_22 : decode cX12_secondsOf 22 = .ok (.iastore, 1) := by decide +kernel
theorem dX12_secondsOf_23 : decode cX12_secondsOf 23 = .ok (.aload_n 0, 1) := by decide +kernel
theorem dX12_secondsOf_24 : decode cX12_secondsOf 24 = .ok (.getfield 66, 3) := by decide +kernel
theorem dX12_secondsOf_27 : decode cX12_secondsOf 27 = .ok (.iconst 2, 1) := by decide +kernel
theorem dX12_secondsOf_28 : decode cX12_secondsOf 28 = .ok (.iload_n 2, 1) := by decide +kernel
theorem dX12_secondsOf_29 : decode cX12_secondsOf 29 = .ok (.iastore, 1) := by decide +kernel
theorem dX12_secondsOf_30 : decode cX12_secondsOf 30 = .ok (.aload_n 0, 1) := by decide +kernel
theorem dX12_secondsOf_31 : decode cX12_secondsOf 31 = .ok (.getfield 66, 3) := by decide +kernel
theorem dX12_secondsOf_34 : decode cX12_secondsOf 34 = .ok (.iconst 3, 1) := by decide +kernel
theorem dX12_secondsOf_35 : decode cX12_secondsOf 35 = .ok (.aload_n 0, 1) := by decide +kernel
theorem dX12_secondsOf_36 : decode cX12_secondsOf 36 = .ok (.getfield 266, 3) := by decide +kernel
theorem dX12_secondsOf_39 : decode cX12_secondsOf 39 = .ok (.iastore, 1) := by decide +kernel
theorem dX12_secondsOf_40 : decode cX12_secondsOf 40 = .ok (.aload_n 0, 1) := by decide +kernel
theorem dX12_secondsOf_41 : decode cX12_secondsOf 41 = .ok (.getfield 66, 3) := by decide +kernel
theorem dX12_secondsOf_44 : decode cX12_secondsOf 44 = .ok (.iconst 4, 1) := by decide +kernel
theorem dX12_secondsOf_45 : decode cX12_secondsOf 45 = .ok (.aload_n 0, 1) := by decide +kernel
theorem dX12_secondsOf_46 : decode cX12_secondsOf 46 = .ok (.getfield 269, 3) := by decide +kernel
theorem dX12_secondsOf_49 : decode cX12_secondsOf 49 = .ok (.iastore, 1) := by decide +kernel
theorem dX12_secondsOf_50 : decode cX12_secondsOf 50 = .ok (.aload_n 0, 1) := by decide +kernel
theorem dX12_secondsOf_51 : decode cX12_secondsOf 51 = .ok (.getfield 66, 3) := by decide +kernel
theorem dX12_secondsOf_54 : decode cX12_secondsOf 54 = .ok (.iconst 5, 1) := by decide +kernel
theorem dX12_secondsOf_55 : decode cX12_secondsOf 55 = .ok (.aload_n 0, 1) := by decide +kernel
theorem dX12_secondsOf_56 : decode cX12_secondsOf 56 = .ok (.getfield 39, 3) := by decide +kernel
theorem dX12_secondsOf_59 : decode cX12_secondsOf 59 = .ok (.iconst 2, 1) := by decide +kernel
theorem dX12_secondsOf_60 : decode cX12_secondsOf 60 = .ok (.iaload, 1) := by decide +kernel
theorem dX12_secondsOf_61 : decode cX12_secondsOf 61 = .ok (.iastore, 1) := by decide +kernel
theorem dX12_secondsOf_62 : decode cX12_secondsOf 62 = .ok (.aload_n 0, 1) := by decide +kernel
theorem dX12_secondsOf_63 : decode cX12_secondsOf 63 = .ok (.getfield 66, 3) := by decide +kernel
theorem dX12_secondsOf_66 : decode cX12_secondsOf 66 = .ok (.bipush 6, 2) := by decide +kernel
theorem dX12_secondsOf_68 : decode cX12_secondsOf 68 = .ok (.iload 4, 2) := by decide +kernel
theorem dX12_secondsOf_70 : decode cX12_secondsOf 70 = .ok (.iastore, 1) := by decide +kernel
theorem dX12_secondsOf_71 : decode cX12_secondsOf 71 = .ok (.aload_n 0, 1) := by decide +kernel
theorem dX12_secondsOf_72 : decode cX12_secondsOf 72 = .ok (.getfield 66, 3) := by decide +kernel
theorem dX12_secondsOf_75 : decode cX12_secondsOf 75 = .ok (.bipush 7, 2) := by decide +kernel
theorem dX12_secondsOf_77 : decode cX12_secondsOf 77 = .ok (.iload_n 1, 1) := by decide +kernel
theorem dX12_secondsOf_78 : decode cX12_secondsOf 78 = .ok (.iastore, 1) := by decide +kernel
theorem dX12_secondsOf_79 : decode cX12_secondsOf 79 = .ok (.aload_n 0, 1) := by decide +kernel
theorem dX12_secondsOf_80 : decode cX12_secondsOf 80 = .ok (.invokevirtual 272, 3) := by decide +kernel
theorem dX12_secondsOf_83 : decode cX12_secondsOf 83 = .ok (.ireturn, 1) := by decide +kernel
theorem dX12_thinksAsIs_0 : decode cX12_thinksAsIs 0 = .ok (.aload_n 0, 1) := by decide +kernel
theorem dX12_thinksAsIs_1 : decode cX12_thinksAsIs 1 = .ok (.aload_n 0, 1) := by decide +kernel
theorem dX12_thinksAsIs_2 : decode cX12_thinksAsIs 2 = .ok (.getfield 39, 3) := by decide +kernel
theorem dX12_thinksAsIs_5 : decode cX12_thinksAsIs 5 = .ok (.iconst 1, 1) := by decide +kernel
theorem dX12_thinksAsIs_6 : decode cX12_thinksAsIs 6 = .ok (.iaload, 1) := by decide +kernel
theorem dX12_thinksAsIs_7 : decode cX12_thinksAsIs 7 = .ok (.putfield 269, 3) := by decide +kernel
theorem dX12_thinksAsIs_10 : decode cX12_thinksAsIs 10 = .ok (.aload_n 0, 1) := by decide +kernel
theorem dX12_thinksAsIs_11 : decode cX12_thinksAsIs 11 = .ok (.aload_n 0, 1) := by decide +kernel
theorem dX12_thinksAsIs_12 : decode cX12_thinksAsIs 12 = .ok (.getfield 20, 3) := by decide +kernel
theorem dX12_thinksAsIs_15 : decode cX12_thinksAsIs 15 = .ok (.iload_n 1, 1) := by decide +kernel
theorem dX12_thinksAsIs_16 : decode cX12_thinksAsIs 16 = .ok (.iaload, 1) := by decide +kernel
theorem dX12_thinksAsIs_17 : decode cX12_thinksAsIs 17 = .ok (.putfield 266, 3) := by decide +kernel
theorem dX12_thinksAsIs_20 : decode cX12_thinksAsIs 20 = .ok (.return_, 1) := by decide +kernel
theorem dX12_binGoes_0 : decode cX12_binGoes 0 = .ok (.iload_n 2, 1) := by decide +kernel
theorem dX12_binGoes_1 : decode cX12_binGoes 1 = .ok (.iload_n 3, 1) := by decide +kernel
theorem dX12_binGoes_2 : decode cX12_binGoes 2 = .ok (.iload 4, 2) := by decide +kernel
theorem dX12_binGoes_4 : decode cX12_binGoes 4 = .ok (.invokestatic 202, 3) := by decide +kernel
theorem dX12_binGoes_7 : decode cX12_binGoes 7 = .ok (.istore 7, 2) := by decide +kernel
theorem dX12_binGoes_9 : decode cX12_binGoes 9 = .ok (.aload_n 1, 1) := by decide +kernel
theorem dX12_binGoes_10 : decode cX12_binGoes 10 = .ok (.iload 7, 2) := by decide +kernel
theorem dX12_binGoes_12 : decode cX12_binGoes 12 = .ok (.iaload, 1) := by decide +kernel
theorem dX12_binGoes_13 : decode cX12_binGoes 13 = .ok (.iconst 1, 1) := by decide +kernel
theorem dX12_binGoes_14 : decode cX12_binGoes 14 = .ok (.if_icmp .ne 10, 3) := by decide +kernel
theorem dX12_binGoes_17 : decode cX12_binGoes 17 = .ok (.aload_n 0, 1) := by decide +kernel
theorem dX12_binGoes_18 : decode cX12_binGoes 18 = .ok (.getfield 275, 3) := by decide +kernel
theorem dX12_binGoes_21 : decode cX12_binGoes 21 = .ok (.ifCond .eq 4, 3) := by decide +kernel
theorem dX12_binGoes_24 : decode cX12_binGoes 24 = .ok (.return_, 1) := by decide +kernel
theorem dX12_binGoes_25 : decode cX12_binGoes 25 = .ok (.aload_n 0, 1) := by decide +kernel
theorem dX12_binGoes_26 : decode cX12_binGoes 26 = .ok (.iload 7, 2) := by decide +kernel
theorem dX12_binGoes_28 : decode cX12_binGoes 28 = .ok (.invokevirtual 263, 3) := by decide +kernel
theorem dX12_binGoes_31 : decode cX12_binGoes 31 = .ok (.istore 8, 2) := by decide +kernel
theorem dX12_binGoes_33 : decode cX12_binGoes 33 = .ok (.iload 8, 2) := by decide +kernel
theorem dX12_binGoes_35 : decode cX12_binGoes 35 = .ok (.aload_n 0, 1) := by decide +kernel
theorem dX12_binGoes_36 : decode cX12_binGoes 36 = .ok (.getfield 39, 3) := by decide +kernel
theorem dX12_binGoes_39 : decode cX12_binGoes 39 = .ok (.iconst 4, 1) := by decide +kernel
theorem dX12_binGoes_40 : decode cX12_binGoes 40 = .ok (.iaload, 1) := by decide +kernel
theorem dX12_binGoes_41 : decode cX12_binGoes 41 = .ok (.if_icmp .le 29, 3) := by decide +kernel
theorem dX12_binGoes_44 : decode cX12_binGoes 44 = .ok (.aload_n 1, 1) := by decide +kernel
theorem dX12_binGoes_45 : decode cX12_binGoes 45 = .ok (.iload 7, 2) := by decide +kernel
theorem dX12_binGoes_47 : decode cX12_binGoes 47 = .ok (.iconst 3, 1) := by decide +kernel
theorem dX12_binGoes_48 : decode cX12_binGoes 48 = .ok (.iastore, 1) := by decide +kernel
theorem dX12_binGoes_49 : decode cX12_binGoes 49 = .ok (.aload_n 0, 1) := by decide +kernel
theorem dX12_binGoes_50 : decode cX12_binGoes 50 = .ok (.dup, 1) := by decide +kernel
theorem dX12_binGoes_51 : decode cX12_binGoes 51 = .ok (.getfield 279, 3) := by decide +kernel
theorem dX12_binGoes_54 : decode cX12_binGoes 54 = .ok (.iconst 1, 1) := by decide +kernel
theorem dX12_binGoes_55 : decode cX12_binGoes 55 = .ok (.iadd, 1) := by decide +kernel
theorem dX12_binGoes_56 : decode cX12_binGoes 56 = .ok (.putfield 279, 3) := by decide +kernel
theorem dX12_binGoes_59 : decode cX12_binGoes 59 = .ok (.aload_n 0, 1) := by decide +kernel
theorem dX12_binGoes_60 : decode cX12_binGoes 60 = .ok (.dup, 1) := by decide +kernel
theorem dX12_binGoes_61 : decode cX12_binGoes 61 = .ok (.getfield 282, 3) := by decide +kernel
theorem dX12_binGoes_64 : decode cX12_binGoes 64 = .ok (.iconst 3, 1) := by decide +kernel
theorem dX12_binGoes_65 : decode cX12_binGoes 65 = .ok (.iadd, 1) := by decide +kernel
theorem dX12_binGoes_66 : decode cX12_binGoes 66 = .ok (.putfield 282, 3) := by decide +kernel
theorem dX12_binGoes_69 : decode cX12_binGoes 69 = .ok (.return_, 1) := by decide +kernel
theorem dX12_binGoes_70 : decode cX12_binGoes 70 = .ok (.aload_n 1, 1) := by decide +kernel
theorem dX12_binGoes_71 : decode cX12_binGoes 71 = .ok (.bipush 96, 2) := by decide +kernel
theorem dX12_binGoes_73 : decode cX12_binGoes 73 = .ok (.iaload, 1) := by decide +kernel
theorem dX12_binGoes_74 : decode cX12_binGoes 74 = .ok (.iload 8, 2) := by decide +kernel
theorem dX12_binGoes_76 : decode cX12_binGoes 76 = .ok (.iadd, 1) := by decide +kernel
theorem dX12_binGoes_77 : decode cX12_binGoes 77 = .ok (.iload 6, 2) := by decide +kernel
theorem dX12_binGoes_79 : decode cX12_binGoes 79 = .ok (.if_icmp .le 9, 3) := by decide +kernel
theorem dX12_binGoes_82 : decode cX12_binGoes 82 = .ok (.aload_n 0, 1) := by decide +kernel
theorem dX12_binGoes_83 : decode cX12_binGoes 83 = .ok (.iconst 1, 1) := by decide +kernel
theorem dX12_binGoes_84 : decode cX12_binGoes 84 = .ok (.putfield 275, 3) := by decide +kernel
theorem dX12_binGoes_87 : decode cX12_binGoes 87 = .ok (.return_, 1) := by decide +kernel
theorem dX12_binGoes_88 : decode cX12_binGoes 88 = .ok (.aload_n 1, 1) := by decide +kernel
theorem dX12_binGoes_89 : decode cX12_binGoes 89 = .ok (.bipush 96, 2) := by decide +kernel
theorem dX12_binGoes_91 : decode cX12_binGoes 91 = .ok (.dup2, 1) := by decide +kernel
theorem dX12_binGoes_92 : decode cX12_binGoes 92 = .ok (.iaload, 1) := by decide +kernel
theorem dX12_binGoes_93 : decode cX12_binGoes 93 = .ok (.iload 8, 2) := by decide +kernel
theorem dX12_binGoes_95 : decode cX12_binGoes 95 = .ok (.iadd, 1) := by decide +kernel
theorem dX12_binGoes_96 : decode cX12_binGoes 96 = .ok (.iastore, 1) := by decide +kernel
theorem dX12_binGoes_97 : decode cX12_binGoes 97 = .ok (.aload_n 0, 1) := by decide +kernel
theorem dX12_binGoes_98 : decode cX12_binGoes 98 = .ok (.dup, 1) := by decide +kernel
theorem dX12_binGoes_99 : decode cX12_binGoes 99 = .ok (.getfield 285, 3) := by decide +kernel
theorem dX12_binGoes_102 : decode cX12_binGoes 102 = .ok (.iload 8, 2) := by decide +kernel
theorem dX12_binGoes_104 : decode cX12_binGoes 104 = .ok (.iadd, 1) := by decide +kernel
theorem dX12_binGoes_105 : decode cX12_binGoes 105 = .ok (.putfield 285, 3) := by decide +kernel
theorem dX12_binGoes_108 : decode cX12_binGoes 108 = .ok (.aload_n 1, 1) := by decide +kernel
theorem dX12_binGoes_109 : decode cX12_binGoes 109 = .ok (.iload 7, 2) := by decide +kernel
theorem dX12_binGoes_111 : decode cX12_binGoes 111 = .ok (.iconst 2, 1) := by decide +kernel
theorem dX12_binGoes_112 : decode cX12_binGoes 112 = .ok (.iastore, 1) := by decide +kernel
theorem dX12_binGoes_113 : decode cX12_binGoes 113 = .ok (.aload_n 0, 1) := by decide +kernel
theorem dX12_binGoes_114 : decode cX12_binGoes 114 = .ok (.dup, 1) := by decide +kernel
theorem dX12_binGoes_115 : decode cX12_binGoes 115 = .ok (.getfield 288, 3) := by decide +kernel
theorem dX12_binGoes_118 : decode cX12_binGoes 118 = .ok (.iconst 1, 1) := by decide +kernel
theorem dX12_binGoes_119 : decode cX12_binGoes 119 = .ok (.iadd, 1) := by decide +kernel
theorem dX12_binGoes_120 : decode cX12_binGoes 120 = .ok (.putfield 288, 3) := by decide +kernel
theorem dX12_binGoes_123 : decode cX12_binGoes 123 = .ok (.aload_n 0, 1) := by decide +kernel
theorem dX12_binGoes_124 : decode cX12_binGoes 124 = .ok (.dup, 1) := by decide +kernel
theorem dX12_binGoes_125 : decode cX12_binGoes 125 = .ok (.getfield 282, 3) := by decide +kernel
theorem dX12_binGoes_128 : decode cX12_binGoes 128 = .ok (.aload_n 0, 1) := by decide +kernel
theorem dX12_binGoes_129 : decode cX12_binGoes 129 = .ok (.iload_n 2, 1) := by decide +kernel
theorem dX12_binGoes_130 : decode cX12_binGoes 130 = .ok (.iload_n 3, 1) := by decide +kernel
theorem dX12_binGoes_131 : decode cX12_binGoes 131 = .ok (.iload 4, 2) := by decide +kernel
theorem dX12_binGoes_133 : decode cX12_binGoes 133 = .ok (.iload 5, 2) := by decide +kernel
theorem dX12_binGoes_135 : decode cX12_binGoes 135 = .ok (.iconst 2, 1) := by decide +kernel
theorem dX12_binGoes_136 : decode cX12_binGoes 136 = .ok (.if_icmp .ne 10, 3) := by decide +kernel
theorem dX12_binGoes_139 : decode cX12_binGoes 139 = .ok (.iload 4, 2) := by decide +kernel
theorem dX12_binGoes_141 : decode cX12_binGoes 141 = .ok (.iconst 1, 1) := by decide +kernel
theorem dX12_binGoes_142 : decode cX12_binGoes 142 = .ok (.iadd, 1) := by decide +kernel
theorem dX12_binGoes_143 : decode cX12_binGoes 143 = .ok (.goto 4, 3) := by decide +kernel
theorem dX12_binGoes_146 : decode cX12_binGoes 146 = .ok (.iconst 0, 1) := by decide +kernel
theorem dX12_binGoes_147 : decode cX12_binGoes 147 = .ok (.invokevirtual 291, 3) := by decide +kernel
theorem dX12_binGoes_150 : decode cX12_binGoes 150 = .ok (.iload 5, 2) := by decide +kernel
theorem dX12_binGoes_152 : decode cX12_binGoes 152 = .ok (.iconst 1, 1) := by decide +kernel
theorem dX12_binGoes_153 : decode cX12_binGoes 153 = .ok (.if_icmp .ne 10, 3) := by decide +kernel
theorem dX12_binGoes_156 : decode cX12_binGoes 156 = .ok (.bipush 11, 2) := by decide +kernel
theorem dX12_binGoes_158 : decode cX12_binGoes 158 = .ok (.iload_n 3, 1) := by decide +kernel
theorem dX12_binGoes_159 : decode cX12_binGoes 159 = .ok (.imul, 1) := by decide +kernel
theorem dX12_binGoes_160 : decode cX12_binGoes 160 = .ok (.goto 19, 3) := by decide +kernel
theorem dX12_binGoes_163 : decode cX12_binGoes 163 = .ok (.iload 5, 2) := by decide +kernel
theorem dX12_binGoes_165 : decode cX12_binGoes 165 = .ok (.iconst 2, 1) := by decide +kernel
theorem dX12_binGoes_166 : decode cX12_binGoes 166 = .ok (.if_icmp .ne 12, 3) := by decide +kernel
theorem dX12_binGoes_169 : decode cX12_binGoes 169 = .ok (.iconst 4, 1) := by decide +kernel
theorem dX12_binGoes_170 : decode cX12_binGoes 170 = .ok (.iload 4, 2) := by decide +kernel
theorem dX12_binGoes_172 : decode cX12_binGoes 172 = .ok (.iconst 1, 1) := by decide +kernel
theorem dX12_binGoes_173 : decode cX12_binGoes 173 = .ok (.iadd, 1) := by decide +kernel
theorem dX12_binGoes_174 : decode cX12_binGoes 174 = .ok (.imul, 1) := by decide +kernel
theorem dX12_binGoes_175 : decode cX12_binGoes 175 = .ok (.goto 4, 3) := by decide +kernel
theorem dX12_binGoes_178 : decode cX12_binGoes 178 = .ok (.iconst 0, 1) := by decide +kernel
theorem dX12_binGoes_179 : decode cX12_binGoes 179 = .ok (.iadd, 1) := by decide +kernel
theorem dX12_binGoes_180 : decode cX12_binGoes 180 = .ok (.iadd, 1) := by decide +kernel
theorem dX12_binGoes_181 : decode cX12_binGoes 181 = .ok (.putfield 282, 3) := by decide +kernel
theorem dX12_binGoes_184 : decode cX12_binGoes 184 = .ok (.return_, 1) := by decide +kernel
theorem dX12_streetGoes_0 : decode cX12_streetGoes 0 = .ok (.aload_n 0, 1) := by decide +kernel
theorem dX12_streetGoes_1 : decode cX12_streetGoes 1 = .ok (.iconst 0, 1) := by decide +kernel
theorem dX12_streetGoes_2 : decode cX12_streetGoes 2 = .ok (.putfield 282, 3) := by decide +kernel
theorem dX12_streetGoes_5 : decode cX12_streetGoes 5 = .ok (.aload_n 0, 1) := by decide +kernel
theorem dX12_streetGoes_6 : decode cX12_streetGoes 6 = .ok (.iconst 0, 1) := by decide +kernel
theorem dX12_streetGoes_7 : decode cX12_streetGoes 7 = .ok (.putfield 288, 3) := by decide +kernel
theorem dX12_streetGoes_10 : decode cX12_streetGoes 10 = .ok (.aload_n 0, 1) := by decide +kernel
theorem dX12_streetGoes_11 : decode cX12_streetGoes 11 = .ok (.iconst 0, 1) := by decide +kernel
theorem dX12_streetGoes_12 : decode cX12_streetGoes 12 = .ok (.putfield 279, 3) := by decide +kernel
theorem dX12_streetGoes_15 : decode cX12_streetGoes 15 = .ok (.aload_n 0, 1) := by decide +kernel
theorem dX12_streetGoes_16 : decode cX12_streetGoes 16 = .ok (.iconst 0, 1) := by decide +kernel
theorem dX12_streetGoes_17 : decode cX12_streetGoes 17 = .ok (.putfield 285, 3) := by decide +kernel
theorem dX12_streetGoes_20 : decode cX12_streetGoes 20 = .ok (.aload_n 0, 1) := by decide +kernel
theorem dX12_streetGoes_21 : decode cX12_streetGoes 21 = .ok (.iconst 0, 1) := by decide +kernel
theorem dX12_streetGoes_22 : decode cX12_streetGoes 22 = .ok (.putfield 275, 3) := by decide +kernel
theorem dX12_streetGoes_25 : decode cX12_streetGoes 25 = .ok (.aload_n 0, 1) := by decide +kernel
theorem dX12_streetGoes_26 : decode cX12_streetGoes 26 = .ok (.getfield 17, 3) := by decide +kernel
theorem dX12_streetGoes_29 : decode cX12_streetGoes 29 = .ok (.iload_n 2, 1) := by decide +kernel
theorem dX12_streetGoes_30 : decode cX12_streetGoes 30 = .ok (.iaload, 1) := by decide +kernel
theorem dX12_streetGoes_31 : decode cX12_streetGoes 31 = .ok (.istore 5, 2) := by decide +kernel
theorem dX12_streetGoes_33 : decode cX12_streetGoes 33 = .ok (.iconst 0, 1) := by decide +kernel
theorem dX12_streetGoes_34 : decode cX12_streetGoes 34 = .ok (.istore 6, 2) := by decide +kernel
theorem dX12_streetGoes_36 : decode cX12_streetGoes 36 = .ok (.iload 6, 2) := by decide +kernel
theorem dX12_streetGoes_38 : decode cX12_streetGoes 38 = .ok (.iload 5, 2) := by decide +kernel
theorem dX12_streetGoes_40 : decode cX12_streetGoes 40 = .ok (.if_icmp .ge 37, 3) := by decide +kernel
theorem dX12_streetGoes_43 : decode cX12_streetGoes 43 = .ok (.aload_n 0, 1) := by decide +kernel
theorem dX12_streetGoes_44 : decode cX12_streetGoes 44 = .ok (.aload_n 1, 1) := by decide +kernel
theorem dX12_streetGoes_45 : decode cX12_streetGoes 45 = .ok (.iload_n 2, 1) := by decide +kernel
theorem dX12_streetGoes_46 : decode cX12_streetGoes 46 = .ok (.iconst 0, 1) := by decide +kernel
theorem dX12_streetGoes_47 : decode cX12_streetGoes 47 = .ok (.iload 6, 2) := by decide +kernel
theorem dX12_streetGoes_49 : decode cX12_streetGoes 49 = .ok (.iload_n 3, 1) := by decide +kernel
theorem dX12_streetGoes_50 : decode cX12_streetGoes 50 = .ok (.iload 4, 2) := by decide +kernel
theorem dX12_streetGoes_52 : decode cX12_streetGoes 52 = .ok (.invokevirtual 295, 3) := by decide +kernel
theorem dX12_streetGoes_55 : decode cX12_streetGoes 55 = .ok (.iload_n 3, 1) := by decide +kernel
theorem dX12_streetGoes_56 : decode cX12_streetGoes 56 = .ok (.ifCond .le 15, 3) := by decide +kernel
theorem dX12_streetGoes_59 : decode cX12_streetGoes 59 = .ok (.aload_n 0, 1) := by decide +kernel
theorem dX12_streetGoes_60 : decode cX12_streetGoes 60 = .ok (.aload_n 1, 1) := by decide +kernel
theorem dX12_streetGoes_61 : decode cX12_streetGoes 61 = .ok (.iload_n 2, 1) := by decide +kernel
theorem dX12_streetGoes_62 : decode cX12_streetGoes 62 = .ok (.iconst 1, 1) := by decide +kernel
theorem dX12_streetGoes_63 : decode cX12_streetGoes 63 = .ok (.iload 6, 2) := by decide +kernel
theorem dX12_streetGoes_65 : decode cX12_streetGoes 65 = .ok (.iload_n 3, 1) := by decide +kernel
theorem dX12_streetGoes_66 : decode cX12_streetGoes 66 = .ok (.iload 4, 2) := by decide +kernel
theorem dX12_streetGoes_68 : decode cX12_streetGoes 68 = .ok (.invokevirtual 295, 3) := by decide +kernel
theorem dX12_streetGoes_71 : decode cX12_streetGoes 71 = .ok (.iinc 6 1, 3) := by decide +kernel
theorem dX12_streetGoes_74 : decode cX12_streetGoes 74 = .ok (.goto (-38), 3) := by decide +kernel
theorem dX12_streetGoes_77 : decode cX12_streetGoes 77 = .ok (.iload 5, 2) := by decide +kernel
theorem dX12_streetGoes_79 : decode cX12_streetGoes 79 = .ok (.iconst 1, 1) := by decide +kernel
theorem dX12_streetGoes_80 : decode cX12_streetGoes 80 = .ok (.isub, 1) := by decide +kernel
theorem dX12_streetGoes_81 : decode cX12_streetGoes 81 = .ok (.istore 6, 2) := by decide +kernel
theorem dX12_streetGoes_83 : decode cX12_streetGoes 83 = .ok (.iload 6, 2) := by decide +kernel
theorem dX12_streetGoes_85 : decode cX12_streetGoes 85 = .ok (.ifCond .lt 25, 3) := by decide +kernel
theorem dX12_streetGoes_88 : decode cX12_streetGoes 88 = .ok (.iload_n 3, 1) := by decide +kernel
theorem dX12_streetGoes_89 : decode cX12_streetGoes 89 = .ok (.ifCond .ne 21, 3) := by decide +kernel
theorem dX12_streetGoes_92 : decode cX12_streetGoes 92 = .ok (.aload_n 0, 1) := by decide +kernel
theorem dX12_streetGoes_93 : decode cX12_streetGoes 93 = .ok (.aload_n 1, 1) := by decide +kernel
theorem dX12_streetGoes_94 : decode cX12_streetGoes 94 = .ok (.iload_n 2, 1) := by decide +kernel
theorem dX12_streetGoes_95 : decode cX12_streetGoes 95 = .ok (.iconst 1, 1) := by decide +kernel
theorem dX12_streetGoes_96 : decode cX12_streetGoes 96 = .ok (.iload 6, 2) := by decide +kernel
theorem dX12_streetGoes_98 : decode cX12_streetGoes 98 = .ok (.iload_n 3, 1) := by decide +kernel
theorem dX12_streetGoes_99 : decode cX12_streetGoes 99 = .ok (.iload 4, 2) := by decide +kernel
theorem dX12_streetGoes_101 : decode cX12_streetGoes 101 = .ok (.invokevirtual 295, 3) := by decide +kernel
theorem dX12_streetGoes_104 : decode cX12_streetGoes 104 = .ok (.iinc 6 (-1), 3) := by decide +kernel
theorem dX12_streetGoes_107 : decode cX12_streetGoes 107 = .ok (.goto (-24), 3) := by decide +kernel
theorem dX12_streetGoes_110 : decode cX12_streetGoes 110 = .ok (.aload_n 0, 1) := by decide +kernel
theorem dX12_streetGoes_111 : decode cX12_streetGoes 111 = .ok (.aload_n 0, 1) := by decide +kernel
theorem dX12_streetGoes_112 : decode cX12_streetGoes 112 = .ok (.getfield 282, 3) := by decide +kernel
theorem dX12_streetGoes_115 : decode cX12_streetGoes 115 = .ok (.aload_n 0, 1) := by decide +kernel
theorem dX12_streetGoes_116 : decode cX12_streetGoes 116 = .ok (.getfield 269, 3) := by decide +kernel
theorem dX12_streetGoes_119 : decode cX12_streetGoes 119 = .ok (.iadd, 1) := by decide +kernel
theorem dX12_streetGoes_120 : decode cX12_streetGoes 120 = .ok (.iconst 1, 1) := by decide +kernel
theorem dX12_streetGoes_121 : decode cX12_streetGoes 121 = .ok (.isub, 1) := by decide +kernel
theorem dX12_streetGoes_122 : decode cX12_streetGoes 122 = .ok (.aload_n 0, 1) := by decide +kernel
theorem dX12_streetGoes_123 : decode cX12_streetGoes 123 = .ok (.getfield 269, 3) := by decide +kernel
theorem dX12_streetGoes_126 : decode cX12_streetGoes 126 = .ok (.idiv, 1) := by decide +kernel
theorem dX12_streetGoes_127 : decode cX12_streetGoes 127 = .ok (.putfield 282, 3) := by decide +kernel
theorem dX12_streetGoes_130 : decode cX12_streetGoes 130 = .ok (.aload_n 0, 1) := by decide +kernel
theorem dX12_streetGoes_131 : decode cX12_streetGoes 131 = .ok (.iload_n 3, 1) := by decide +kernel
theorem dX12_streetGoes_132 : decode cX12_streetGoes 132 = .ok (.ifCond .ne 11, 3) := by decide +kernel
theorem dX12_streetGoes_135 : decode cX12_streetGoes 135 = .ok (.bipush 10, 2) := by decide +kernel
theorem dX12_streetGoes_137 : decode cX12_streetGoes 137 = .ok (.iload 5, 2) := by decide +kernel
theorem dX12_streetGoes_139 : decode cX12_streetGoes 139 = .ok (.imul, 1) := by decide +kernel
theorem dX12_streetGoes_140 : decode cX12_streetGoes 140 = .ok (.goto 35, 3) := by decide +kernel
theorem dX12_streetGoes_143 : decode cX12_streetGoes 143 = .ok (.iload_n 3, 1) := by decide +kernel
theorem dX12_streetGoes_144 : decode cX12_streetGoes 144 = .ok (.iconst 1, 1) := by decide +kernel
theorem dX12_streetGoes_145 : decode cX12_streetGoes 145 = .ok (.if_icmp .ne 29, 3) := by decide +kernel
theorem dX12_streetGoes_148 : decode cX12_streetGoes 148 = .ok (.iconst 5, 1) := by decide +kernel
theorem dX12_streetGoes_149 : decode cX12_streetGoes 149 = .ok (.iload 5, 2) := by decide +kernel
theorem dX12_streetGoes_151 : decode cX12_streetGoes 151 = .ok (.imul, 1) := by decide +kernel
theorem dX12_streetGoes_152 : decode cX12_streetGoes 152 = .ok (.aload_n 0, 1) := by decide +kernel
theorem dX12_streetGoes_153 : decode cX12_streetGoes 153 = .ok (.getfield 23, 3) := by decide +kernel
theorem dX12_streetGoes_156 : decode cX12_streetGoes 156 = .ok (.iload_n 2, 1) := by decide +kernel
theorem dX12_streetGoes_157 : decode cX12_streetGoes 157 = .ok (.baload, 1) := by decide +kernel
theorem dX12_streetGoes_158 : decode cX12_streetGoes 158 = .ok (.ifCond .eq 11, 3) := by decide +kernel
theorem dX12_streetGoes_161 : decode cX12_streetGoes 161 = .ok (.bipush 9, 2) := by decide +kernel
theorem dX12_streetGoes_163 : decode cX12_streetGoes 163 = .ok (.iload 5, 2) := by decide +kernel
theorem dX12_streetGoes_165 : decode cX12_streetGoes 165 = .ok (.imul, 1) := by decide +kernel
theorem dX12_streetGoes_166 : decode cX12_streetGoes 166 = .ok (.goto 4, 3) := by decide +kernel
theorem dX12_streetGoes_169 : decode cX12_streetGoes 169 = .ok (.iconst 0, 1) := by decide +kernel
theorem dX12_streetGoes_170 : decode cX12_streetGoes 170 = .ok (.iadd, 1) := by decide +kernel
theorem dX12_streetGoes_171 : decode cX12_streetGoes 171 = .ok (.goto 4, 3) := by decide +kernel
theorem dX12_streetGoes_174 : decode cX12_streetGoes 174 = .ok (.iconst 0, 1) := by decide +kernel
theorem dX12_streetGoes_175 : decode cX12_streetGoes 175 = .ok (.putfield 299, 3) := by decide +kernel
theorem dX12_streetGoes_178 : decode cX12_streetGoes 178 = .ok (.aload_n 0, 1) := by decide +kernel
theorem dX12_streetGoes_179 : decode cX12_streetGoes 179 = .ok (.getfield 282, 3) := by decide +kernel
theorem dX12_streetGoes_182 : decode cX12_streetGoes 182 = .ok (.aload_n 0, 1) := by decide +kernel
theorem dX12_streetGoes_183 : decode cX12_streetGoes 183 = .ok (.getfield 299, 3) := by decide +kernel
theorem dX12_streetGoes_186 : decode cX12_streetGoes 186 = .ok (.iadd, 1) := by decide +kernel
theorem dX12_streetGoes_187 : decode cX12_streetGoes 187 = .ok (.ireturn, 1) := by decide +kernel
theorem dX12_puts_0 : decode cX12_puts 0 = .ok (.iconst 0, 1) := by decide +kernel
theorem dX12_puts_1 : decode cX12_puts 1 = .ok (.istore_n 2, 1) := by decide +kernel
theorem dX12_puts_2 : decode cX12_puts 2 = .ok (.iload_n 2, 1) := by decide +kernel
theorem dX12_puts_3 : decode cX12_puts 3 = .ok (.bipush 99, 2) := by decide +kernel
theorem dX12_puts_5 : decode cX12_puts 5 = .ok (.if_icmp .ge 15, 3) := by decide +kernel
theorem dX12_puts_8 : decode cX12_puts 8 = .ok (.aload_n 1, 1) := by decide +kernel
theorem dX12_puts_9 : decode cX12_puts 9 = .ok (.iload_n 2, 1) := by decide +kernel
theorem dX12_puts_10 : decode cX12_puts 10 = .ok (.aload_n 0, 1) := by decide +kernel
theorem dX12_puts_11 : decode cX12_puts 11 = .ok (.iload_n 2, 1) := by decide +kernel
theorem dX12_puts_12 : decode cX12_puts 12 = .ok (.iaload, 1) := by decide +kernel
theorem dX12_puts_13 : decode cX12_puts 13 = .ok (.iastore, 1) := by decide +kernel
theorem dX12_puts_14 : decode cX12_puts 14 = .ok (.iinc 2 1, 3) := by decide +kernel
theorem dX12_puts_17 : decode cX12_puts 17 = .ok (.goto (-15), 3) := by decide +kernel
theorem dX12_puts_20 : decode cX12_puts 20 = .ok (.return_, 1) := by decide +kernel
theorem dX12_takesOf__0 : decode cX12_takesOf_ 0 = .ok (.aload_n 1, 1) := by decide +kernel
theorem dX12_takesOf__1 : decode cX12_takesOf_ 1 = .ok (.aload_n 0, 1) := by decide +kernel
theorem dX12_takesOf__2 : decode cX12_takesOf_ 2 = .ok (.getfield 69, 3) := by decide +kernel
theorem dX12_takesOf__5 : decode cX12_takesOf_ 5 = .ok (.invokestatic 302, 3) := by decide +kernel
theorem dX12_takesOf__8 : decode cX12_takesOf_ 8 = .ok (.aload_n 0, 1) := by decide +kernel
theorem dX12_takesOf__9 : decode cX12_takesOf_ 9 = .ok (.getfield 69, 3) := by decide +kernel
theorem dX12_takesOf__12 : decode cX12_takesOf_ 12 = .ok (.bipush 96, 2) := by decide +kernel
theorem dX12_takesOf__14 : decode cX12_takesOf_ 14 = .ok (.iconst 0, 1) := by decide +kernel
theorem dX12_takesOf__15 : decode cX12_takesOf_ 15 = .ok (.iastore, 1) := by decide +kernel
theorem dX12_takesOf__16 : decode cX12_takesOf_ 16 = .ok (.aload_n 0, 1) := by decide +kernel
theorem dX12_takesOf__17 : decode cX12_takesOf_ 17 = .ok (.aload_n 0, 1) := by decide +kernel
theorem dX12_takesOf__18 : decode cX12_takesOf_ 18 = .ok (.getfield 69, 3) := by decide +kernel
theorem dX12_takesOf__21 : decode cX12_takesOf_ 21 = .ok (.iload_n 2, 1) := by decide +kernel
theorem dX12_takesOf__22 : decode cX12_takesOf_ 22 = .ok (.iload_n 3, 1) := by decide +kernel
theorem dX12_takesOf__23 : decode cX12_takesOf_ 23 = .ok (.ldc_w 306, 3) := by decide +kernel
theorem dX12_takesOf__26 : decode cX12_takesOf_ 26 = .ok (.invokevirtual 307, 3) := by decide +kernel
theorem dX12_takesOf__29 : decode cX12_takesOf_ 29 = .ok (.ireturn, 1) := by decide +kernel
theorem dX12_bestOf_0 : decode cX12_bestOf 0 = .ok (.iconst 0, 1) := by decide +kernel
theorem dX12_bestOf_1 : decode cX12_bestOf 1 = .ok (.istore_n 3, 1) := by decide +kernel
theorem dX12_bestOf_2 : decode cX12_bestOf 2 = .ok (.iconst 0, 1) := by decide +kernel
theorem dX12_bestOf_3 : decode cX12_bestOf 3 = .ok (.istore 4, 2) := by decide +kernel
theorem dX12_bestOf_5 : decode cX12_bestOf 5 = .ok (.iload 4, 2) := by decide +kernel
theorem dX12_bestOf_7 : decode cX12_bestOf 7 = .ok (.iconst 3, 1) := by decide +kernel
theorem dX12_bestOf_8 : decode cX12_bestOf 8 = .ok (.if_icmp .ge 60, 3) := by decide +kernel
theorem dX12_bestOf_11 : decode cX12_bestOf 11 = .ok (.aload_n 0, 1) := by decide +kernel
theorem dX12_bestOf_12 : decode cX12_bestOf 12 = .ok (.aload_n 1, 1) := by decide +kernel
theorem dX12_bestOf_13 : decode cX12_bestOf 13 = .ok (.iload_n 2, 1) := by decide +kernel
theorem dX12_bestOf_14 : decode cX12_bestOf 14 = .ok (.iload 4, 2) := by decide +kernel
theorem dX12_bestOf_16 : decode cX12_bestOf 16 = .ok (.invokevirtual 311, 3) := by decide +kernel
theorem dX12_bestOf_19 : decode cX12_bestOf 19 = .ok (.istore 5, 2) := by decide +kernel
theorem dX12_bestOf_21 : decode cX12_bestOf 21 = .ok (.aload_n 0, 1) := by decide +kernel
theorem dX12_bestOf_22 : decode cX12_bestOf 22 = .ok (.iload 4, 2) := by decide +kernel
theorem dX12_bestOf_24 : decode cX12_bestOf 24 = .ok (.ifCond .eq 9, 3) := by decide +kernel
theorem dX12_bestOf_27 : decode cX12_bestOf 27 = .ok (.iload 5, 2) := by decide +kernel
theorem dX12_bestOf_29 : decode cX12_bestOf 29 = .ok (.iload_n 3, 1) := by decide +kernel
theorem dX12_bestOf_30 : decode cX12_bestOf 30 = .ok (.if_icmp .ge 8, 3) := by decide +kernel
theorem dX12_bestOf_33 : decode cX12_bestOf 33 = .ok (.iload 4, 2) := by decide +kernel
theorem dX12_bestOf_35 : decode cX12_bestOf 35 = .ok (.goto 7, 3) := by decide +kernel
theorem dX12_bestOf_38 : decode cX12_bestOf 38 = .ok (.aload_n 0, 1) := by decide +kernel
theorem dX12_bestOf_39 : decode cX12_bestOf 39 = .ok (.getfield 314, 3) := by decide +kernel
theorem dX12_bestOf_42 : decode cX12_bestOf 42 = .ok (.putfield 314, 3) := by decide +kernel
theorem dX12_bestOf_45 : decode cX12_bestOf 45 = .ok (.iload 4, 2) := by decide +kernel
theorem dX12_bestOf_47 : decode cX12_bestOf 47 = .ok (.ifCond .ne 8, 3) := by decide +kernel
theorem dX12_bestOf_50 : decode cX12_bestOf 50 = .ok (.iload 5, 2) := by decide +kernel
theorem dX12_bestOf_52 : decode cX12_bestOf 52 = .ok (.goto 9, 3) := by decide +kernel
theorem dX12_bestOf_55 : decode cX12_bestOf 55 = .ok (.iload_n 3, 1) := by decide +kernel
theorem dX12_bestOf_56 : decode cX12_bestOf 56 = .ok (.iload 5, 2) := by decide +kernel
theorem dX12_bestOf_58 : decode cX12_bestOf 58 = .ok (.invokestatic 157, 3) := by decide +kernel
theorem dX12_bestOf_61 : decode cX12_bestOf 61 = .ok (.istore_n 3, 1) := by decide +kernel
theorem dX12_bestOf_62 : decode cX12_bestOf 62 = .ok (.iinc 4 1, 3) := by decide +kernel
theorem dX12_bestOf_65 : decode cX12_bestOf 65 = .ok (.goto (-60), 3) := by decide +kernel
theorem dX12_bestOf_68 : decode cX12_bestOf 68 = .ok (.iload_n 3, 1) := by decide +kernel
theorem dX12_bestOf_69 : decode cX12_bestOf 69 = .ok (.ireturn, 1) := by decide +kernel
theorem dX12_bestNow_0 : decode cX12_bestNow 0 = .ok (.aload_n 0, 1) := by decide +kernel
theorem dX12_bestNow_1 : decode cX12_bestNow 1 = .ok (.iload_n 1, 1) := by decide +kernel
theorem dX12_bestNow_2 : decode cX12_bestNow 2 = .ok (.invokevirtual 317, 3) := by decide +kernel
theorem dX12_bestNow_5 : decode cX12_bestNow 5 = .ok (.aload_n 0, 1) := by decide +kernel
theorem dX12_bestNow_6 : decode cX12_bestNow 6 = .ok (.aload_n 0, 1) := by decide +kernel
theorem dX12_bestNow_7 : decode cX12_bestNow 7 = .ok (.getfield 42, 3) := by decide +kernel
theorem dX12_bestNow_10 : decode cX12_bestNow 10 = .ok (.iload_n 1, 1) := by decide +kernel
theorem dX12_bestNow_11 : decode cX12_bestNow 11 = .ok (.invokevirtual 320, 3) := by decide +kernel
theorem dX12_bestNow_14 : decode cX12_bestNow 14 = .ok (.ireturn, 1) := by decide +kernel
theorem dX12_outOf_0 : decode cX12_outOf 0 = .ok (.iconst 0, 1) := by decide +kernel
theorem dX12_outOf_1 : decode cX12_outOf 1 = .ok (.istore_n 3, 1) := by decide +kernel
theorem dX12_outOf_2 : decode cX12_outOf 2 = .ok (.bipush 16, 2) := by decide +kernel
theorem dX12_outOf_4 : decode cX12_outOf 4 = .ok (.iload_n 2, 1) := by decide +kernel
theorem dX12_outOf_5 : decode cX12_outOf 5 = .ok (.imul, 1) := by decide +kernel
theorem dX12_outOf_6 : decode cX12_outOf 6 = .ok (.istore 4, 2) := by decide +kernel
theorem dX12_outOf_8 : decode cX12_outOf 8 = .ok (.iload 4, 2) := by decide +kernel
theorem dX12_outOf_10 : decode cX12_outOf 10 = .ok (.bipush 16, 2) := by decide +kernel
theorem dX12_outOf_12 : decode cX12_outOf 12 = .ok (.iload_n 2, 1) := by decide +kernel
theorem dX12_outOf_13 : decode cX12_outOf 13 = .ok (.iconst 1, 1) := by decide +kernel
theorem dX12_outOf_14 : decode cX12_outOf 14 = .ok (.iadd, 1) := by decide +kernel
theorem dX12_outOf_15 : decode cX12_outOf 15 = .ok (.imul, 1) := by decide +kernel
theorem dX12_outOf_16 : decode cX12_outOf 16 = .ok (.if_icmp .ge 28, 3) := by decide +kernel
theorem dX12_outOf_19 : decode cX12_outOf 19 = .ok (.iload_n 3, 1) := by decide +kernel
theorem dX12_outOf_20 : decode cX12_outOf 20 = .ok (.aload_n 1, 1) := by decide +kernel
theorem dX12_outOf_21 : decode cX12_outOf 21 = .ok (.iload 4, 2) := by decide +kernel
theorem dX12_outOf_23 : decode cX12_outOf 23 = .ok (.iaload, 1) := by decide +kernel
theorem dX12_outOf_24 : decode cX12_outOf 24 = .ok (.iconst 1, 1) := by decide +kernel
theorem dX12_outOf_25 : decode cX12_outOf 25 = .ok (.if_icmp .ne 7, 3) := by decide +kernel
theorem dX12_outOf_28 : decode cX12_outOf 28 = .ok (.iconst 1, 1) := by decide +kernel
theorem dX12_outOf_29 : decode cX12_outOf 29 = .ok (.goto 4, 3) := by decide +kernel
theorem dX12_outOf_32 : decode cX12_outOf 32 = .ok (.iconst 0, 1) := by decide +kernel
theorem dX12_outOf_33 : decode cX12_outOf 33 = .ok (.invokestatic 166, 3) := by decide +kernel
theorem dX12_outOf_36 : decode cX12_outOf 36 = .ok (.iadd, 1) := by decide +kernel
theorem dX12_outOf_37 : decode cX12_outOf 37 = .ok (.istore_n 3, 1) := by decide +kernel
theorem dX12_outOf_38 : decode cX12_outOf 38 = .ok (.iinc 4 1, 3) := by decide +kernel
theorem dX12_outOf_41 : decode cX12_outOf 41 = .ok (.goto (-33), 3) := by decide +kernel
theorem dX12_outOf_44 : decode cX12_outOf 44 = .ok (.iload_n 3, 1) := by decide +kernel
theorem dX12_outOf_45 : decode cX12_outOf 45 = .ok (.ireturn, 1) := by decide +kernel
theorem dX12_street_0 : decode cX12_street 0 = .ok (.aload_n 0, 1) := by decide +kernel
theorem dX12_street_1 : decode cX12_street 1 = .ok (.iconst 0, 1) := by decide +kernel
theorem dX12_street_2 : decode cX12_street 2 = .ok (.putfield 126, 3) := by decide +kernel
theorem dX12_street_5 : decode cX12_street 5 = .ok (.aload_n 0, 1) := by decide +kernel
theorem dX12_street_6 : decode cX12_street 6 = .ok (.iload_n 1, 1) := by decide +kernel
theorem dX12_street_7 : decode cX12_street 7 = .ok (.invokevirtual 144, 3) := by decide +kernel
theorem dX12_street_10 : decode cX12_street 10 = .ok (.ifCond .eq 15, 3) := by decide +kernel
theorem dX12_street_13 : decode cX12_street 13 = .ok (.iload_n 2, 1) := by decide +kernel
theorem dX12_street_14 : decode cX12_street 14 = .ok (.i2l, 1) := by decide +kernel
theorem dX12_street_15 : decode cX12_street 15 = .ok (.lconst 0, 1) := by decide +kernel
theorem dX12_street_16 : decode cX12_street 16 = .ok (.ldc2_w 324, 3) := by decide +kernel
theorem dX12_street_19 : decode cX12_street 19 = .ok (.invokestatic 140, 3) := by decide +kernel
theorem dX12_street_22 : decode cX12_street 22 = .ok (.ifCond .ne 8, 3) := by decide +kernel
theorem dX12_street_25 : decode cX12_street 25 = .ok (.aload_n 0, 1) := by decide +kernel
theorem dX12_street_26 : decode cX12_street 26 = .ok (.invokevirtual 326, 3) := by decide +kernel
theorem dX12_street_29 : decode cX12_street 29 = .ok (.ireturn, 1) := by decide +kernel
theorem dX12_street_30 : decode cX12_street 30 = .ok (.iload_n 2, 1) := by decide +kernel
theorem dX12_street_31 : decode cX12_street 31 = .ok (.tableswitch 107 0 7 #[45, 52, 59, 66, 76, 83, 90, 97], 45) := by decide +kernel
theorem dX12_street_76 : decode cX12_street 76 = .ok (.aload_n 0, 1) := by decide +kernel
theorem dX12_street_77 : decode cX12_street 77 = .ok (.getfield 13, 3) := by decide +kernel
theorem dX12_street_80 : decode cX12_street 80 = .ok (.iload_n 1, 1) := by decide +kernel
theorem dX12_street_81 : decode cX12_street 81 = .ok (.iaload, 1) := by decide +kernel
theorem dX12_street_82 : decode cX12_street 82 = .ok (.ireturn, 1) := by decide +kernel
theorem dX12_street_83 : decode cX12_street 83 = .ok (.aload_n 0, 1) := by decide +kernel
theorem dX12_street_84 : decode cX12_street 84 = .ok (.getfield 17, 3) := by decide +kernel
theorem dX12_street_87 : decode cX12_street 87 = .ok (.iload_n 1, 1) := by decide +kernel
theorem dX12_street_88 : decode cX12_street 88 = .ok (.iaload, 1) := by decide +kernel
theorem dX12_street_89 : decode cX12_street 89 = .ok (.ireturn, 1) := by decide +kernel
theorem dX12_street_90 : decode cX12_street 90 = .ok (.aload_n 0, 1) := by decide +kernel
theorem dX12_street_91 : decode cX12_street 91 = .ok (.getfield 20, 3) := by decide +kernel
theorem dX12_street_94 : decode cX12_street 94 = .ok (.iload_n 1, 1) := by decide +kernel
theorem dX12_street_95 : decode cX12_street 95 = .ok (.iaload, 1) := by decide +kernel
theorem dX12_street_96 : decode cX12_street 96 = .ok (.ireturn, 1) := by decide +kernel
theorem dX12_street_97 : decode cX12_street 97 = .ok (.aload_n 0, 1) := by decide +kernel
theorem dX12_street_98 : decode cX12_street 98 = .ok (.getfield 23, 3) := by decide +kernel
theorem dX12_street_101 : decode cX12_street 101 = .ok (.iload_n 1, 1) := by decide +kernel
theorem dX12_street_102 : decode cX12_street 102 = .ok (.baload, 1) := by decide +kernel
theorem dX12_street_103 : decode cX12_street 103 = .ok (.invokestatic 166, 3) := by decide +kernel
theorem dX12_street_106 : decode cX12_street 106 = .ok (.ireturn, 1) := by decide +kernel
theorem dX12_street_107 : decode cX12_street 107 = .ok (.aload_n 0, 1) := by decide +kernel
theorem dX12_street_108 : decode cX12_street 108 = .ok (.getfield 27, 3) := by decide +kernel
theorem dX12_street_111 : decode cX12_street 111 = .ok (.iload_n 1, 1) := by decide +kernel
theorem dX12_street_112 : decode cX12_street 112 = .ok (.iaload, 1) := by decide +kernel
theorem dX12_street_113 : decode cX12_street 113 = .ok (.ireturn, 1) := by decide +kernel
theorem dX12_street_114 : decode cX12_street 114 = .ok (.aload_n 0, 1) := by decide +kernel
theorem dX12_street_115 : decode cX12_street 115 = .ok (.getfield 30, 3) := by decide +kernel
theorem dX12_street_118 : decode cX12_street 118 = .ok (.iload_n 1, 1) := by decide +kernel
theorem dX12_street_119 : decode cX12_street 119 = .ok (.iaload, 1) := by decide +kernel
theorem dX12_street_120 : decode cX12_street 120 = .ok (.ireturn, 1) := by decide +kernel
theorem dX12_street_121 : decode cX12_street 121 = .ok (.aload_n 0, 1) := by decide +kernel
theorem dX12_street_122 : decode cX12_street 122 = .ok (.getfield 33, 3) := by decide +kernel
theorem dX12_street_125 : decode cX12_street 125 = .ok (.iload_n 1, 1) := by decide +kernel
theorem dX12_street_126 : decode cX12_street 126 = .ok (.iaload, 1) := by decide +kernel
theorem dX12_street_127 : decode cX12_street 127 = .ok (.ireturn, 1) := by decide +kernel
theorem dX12_street_128 : decode cX12_street 128 = .ok (.aload_n 0, 1) := by decide +kernel
theorem dX12_street_129 : decode cX12_street 129 = .ok (.aload_n 0, 1) := by decide +kernel
theorem dX12_street_130 : decode cX12_street 130 = .ok (.getfield 42, 3) := by decide +kernel
theorem dX12_street_133 : decode cX12_street 133 = .ok (.iload_n 1, 1) := by decide +kernel
theorem dX12_street_134 : decode cX12_street 134 = .ok (.invokevirtual 329, 3) := by decide +kernel
theorem dX12_street_137 : decode cX12_street 137 = .ok (.ireturn, 1) := by decide +kernel
theorem dX12_street_138 : decode cX12_street 138 = .ok (.iconst 0, 1) := by decide +kernel
theorem dX12_street_139 : decode cX12_street 139 = .ok (.istore_n 3, 1) := by decide +kernel
theorem dX12_street_140 : decode cX12_street 140 = .ok (.bipush 16, 2) := by decide +kernel
theorem dX12_street_142 : decode cX12_street 142 = .ok (.iload_n 1, 1) := by decide +kernel
theorem dX12_street_143 : decode cX12_street 143 = .ok (.imul, 1) := by decide +kernel
theorem dX12_street_144 : decode cX12_street 144 = .ok (.istore 4, 2) := by decide +kernel
theorem dX12_street_146 : decode cX12_street 146 = .ok (.iload 4, 2) := by decide +kernel
theorem dX12_street_148 : decode cX12_street 148 = .ok (.bipush 16, 2) := by decide +kernel
theorem dX12_street_150 : decode cX12_street 150 = .ok (.iload_n 1, 1) := by decide +kernel
theorem dX12_street_151 : decode cX12_street 151 = .ok (.iconst 1, 1) := by decide +kernel
theorem dX12_street_152 : decode cX12_street 152 = .ok (.iadd, 1) := by decide +kernel
theorem dX12_street_153 : decode cX12_street 153 = .ok (.imul, 1) := by decide +kernel
theorem dX12_street_154 : decode cX12_street 154 = .ok (.if_icmp .ge 33, 3) := by decide +kernel
theorem dX12_street_157 : decode cX12_street 157 = .ok (.iload_n 3, 1) := by decide +kernel
theorem dX12_street_158 : decode cX12_street 158 = .ok (.aload_n 0, 1) := by decide +kernel
theorem dX12_street_159 : decode cX12_street 159 = .ok (.getfield 42, 3) := by decide +kernel
theorem dX12_street_162 : decode cX12_street 162 = .ok (.iload 4, 2) := by decide +kernel
theorem dX12_street_164 : decode cX12_street 164 = .ok (.iaload, 1) := by decide +kernel
theorem dX12_street_165 : decode cX12_street 165 = .ok (.iconst 1, 1) := by decide +kernel
theorem dX12_street_166 : decode cX12_street 166 = .ok (.if_icmp .ne 12, 3) := by decide +kernel
theorem dX12_street_169 : decode cX12_street 169 = .ok (.aload_n 0, 1) := by decide +kernel
theorem dX12_street_170 : decode cX12_street 170 = .ok (.iload 4, 2) := by decide +kernel
theorem dX12_street_172 : decode cX12_street 172 = .ok (.invokevirtual 263, 3) := by decide +kernel
theorem dX12_street_175 : decode cX12_street 175 = .ok (.goto 4, 3) := by decide +kernel
theorem dX12_street_178 : decode cX12_street 178 = .ok (.iconst 0, 1) := by decide +kernel
theorem dX12_street_179 : decode cX12_street 179 = .ok (.iadd, 1) := by decide +kernel
theorem dX12_street_180 : decode cX12_street 180 = .ok (.istore_n 3, 1) := by decide +kernel
theorem dX12_street_181 : decode cX12_street 181 = .ok (.iinc 4 1, 3) := by decide +kernel
theorem dX12_street_184 : decode cX12_street 184 = .ok (.goto (-38), 3) := by decide +kernel
theorem dX12_street_187 : decode cX12_street 187 = .ok (.iload_n 3, 1) := by decide +kernel
theorem dX12_street_188 : decode cX12_street 188 = .ok (.ireturn, 1) := by decide +kernel
theorem dX12_bin_0 : decode cX12_bin 0 = .ok (.aload_n 0, 1) := by decide +kernel
theorem dX12_bin_1 : decode cX12_bin 1 = .ok (.iconst 0, 1) := by decide +kernel
theorem dX12_bin_2 : decode cX12_bin 2 = .ok (.putfield 126, 3) := by decide +kernel
theorem dX12_bin_5 : decode cX12_bin 5 = .ok (.aload_n 0, 1) := by decide +kernel
theorem dX12_bin_6 : decode cX12_bin 6 = .ok (.iload_n 1, 1) := by decide +kernel
theorem dX12_bin_7 : decode cX12_bin 7 = .ok (.iload_n 2, 1) := by decide +kernel
theorem dX12_bin_8 : decode cX12_bin 8 = .ok (.iload_n 3, 1) := by decide +kernel
theorem dX12_bin_9 : decode cX12_bin 9 = .ok (.invokevirtual 332, 3) := by decide +kernel
theorem dX12_bin_12 : decode cX12_bin 12 = .ok (.ifCond .eq 16, 3) := by decide +kernel
theorem dX12_bin_15 : decode cX12_bin 15 = .ok (.iload 4, 2) := by decide +kernel
theorem dX12_bin_17 : decode cX12_bin 17 = .ok (.i2l, 1) := by decide +kernel
theorem dX12_bin_18 : decode cX12_bin 18 = .ok (.lconst 0, 1) := by decide +kernel
theorem dX12_bin_19 : decode cX12_bin 19 = .ok (.ldc2_w 336, 3) := by decide +kernel
theorem dX12_bin_22 : decode cX12_bin 22 = .ok (.invokestatic 140, 3) := by decide +kernel
theorem dX12_bin_25 : decode cX12_bin 25 = .ok (.ifCond .ne 8, 3) := by decide +kernel
theorem dX12_bin_28 : decode cX12_bin 28 = .ok (.aload_n 0, 1) := by decide +kernel
theorem dX12_bin_29 : decode cX12_bin 29 = .ok (.invokevirtual 326, 3) := by decide +kernel
theorem dX12_bin_32 : decode cX12_bin 32 = .ok (.ireturn, 1) := by decide +kernel
theorem dX12_bin_33 : decode cX12_bin 33 = .ok (.iload_n 1, 1) := by decide +kernel
theorem dX12_bin_34 : decode cX12_bin 34 = .ok (.iload_n 2, 1) := by decide +kernel
theorem dX12_bin_35 : decode cX12_bin 35 = .ok (.iload_n 3, 1) := by decide +kernel
theorem dX12_bin_36 : decode cX12_bin 36 = .ok (.invokestatic 202, 3) := by decide +kernel
theorem dX12_bin_39 : decode cX12_bin 39 = .ok (.istore 5, 2) := by decide +kernel
theorem dX12_bin_41 : decode cX12_bin 41 = .ok (.aload_n 0, 1) := by decide +kernel
theorem dX12_bin_42 : decode cX12_bin 42 = .ok (.iload_n 1, 1) := by decide +kernel
theorem dX12_bin_43 : decode cX12_bin 43 = .ok (.invokevirtual 317, 3) := by decide +kernel
theorem dX12_bin_46 : decode cX12_bin 46 = .ok (.iload 4, 2) := by decide +kernel
theorem dX12_bin_48 : decode cX12_bin 48 = .ok (.ifCond .ne 13, 3) := by decide +kernel
theorem dX12_bin_51 : decode cX12_bin 51 = .ok (.aload_n 0, 1) := by decide +kernel
theorem dX12_bin_52 : decode cX12_bin 52 = .ok (.getfield 36, 3) := by decide +kernel
theorem dX12_bin_55 : decode cX12_bin 55 = .ok (.iload 5, 2) := by decide +kernel
theorem dX12_bin_57 : decode cX12_bin 57 = .ok (.iaload, 1) := by decide +kernel
theorem dX12_bin_58 : decode cX12_bin 58 = .ok (.goto 42, 3) := by decide +kernel
theorem dX12_bin_61 : decode cX12_bin 61 = .ok (.iload 4, 2) := by decide +kernel
theorem dX12_bin_63 : decode cX12_bin 63 = .ok (.iconst 1, 1) := by decide +kernel
theorem dX12_bin_64 : decode cX12_bin 64 = .ok (.if_icmp .ne 12, 3) := by decide +kernel
theorem dX12_bin_67 : decode cX12_bin 67 = .ok (.aload_n 0, 1) := by decide +kernel
theorem dX12_bin_68 : decode cX12_bin 68 = .ok (.iload 5, 2) := by decide +kernel
theorem dX12_bin_70 : decode cX12_bin 70 = .ok (.invokevirtual 263, 3) := by decide +kernel
theorem dX12_bin_73 : decode cX12_bin 73 = .ok (.goto 27, 3) := by decide +kernel
theorem dX12_bin_76 : decode cX12_bin 76 = .ok (.iload 4, 2) := by decide +kernel
theorem dX12_bin_78 : decode cX12_bin 78 = .ok (.iconst 2, 1) := by decide +kernel
theorem dX12_bin_79 : decode cX12_bin 79 = .ok (.if_icmp .ne 13, 3) := by decide +kernel
theorem dX12_bin_82 : decode cX12_bin 82 = .ok (.aload_n 0, 1) := by decide +kernel
theorem dX12_bin_83 : decode cX12_bin 83 = .ok (.getfield 42, 3) := by decide +kernel
theorem dX12_bin_86 : decode cX12_bin 86 = .ok (.iload 5, 2) := by decide +kernel
theorem dX12_bin_88 : decode cX12_bin 88 = .ok (.iaload, 1) := by decide +kernel
theorem dX12_bin_89 : decode cX12_bin 89 = .ok (.goto 11, 3) := by decide +kernel
theorem dX12_bin_92 : decode cX12_bin 92 = .ok (.aload_n 0, 1) := by decide +kernel
theorem dX12_bin_93 : decode cX12_bin 93 = .ok (.iload_n 1, 1) := by decide +kernel
theorem dX12_bin_94 : decode cX12_bin 94 = .ok (.iload_n 2, 1) := by decide +kernel
theorem dX12_bin_95 : decode cX12_bin 95 = .ok (.iload_n 3, 1) := by decide +kernel
theorem dX12_bin_96 : decode cX12_bin 96 = .ok (.iconst 0, 1) := by decide +kernel
theorem dX12_bin_97 : decode cX12_bin 97 = .ok (.invokevirtual 291, 3) := by decide +kernel
theorem dX12_bin_100 : decode cX12_bin 100 = .ok (.ireturn, 1) := by decide +kernel
theorem dX12_set_0 : decode cX12_set 0 = .ok (.aload_n 0, 1) := by decide +kernel
theorem dX12_set_1 : decode cX12_set 1 = .ok (.iconst 0, 1) := by decide +kernel
theorem dX12_set_2 : decode cX12_set 2 = .ok (.putfield 126, 3) := by decide +kernel
theorem dX12_set_5 : decode cX12_set 5 = .ok (.iload_n 1, 1) := by decide +kernel
theorem dX12_set_6 : decode cX12_set 6 = .ok (.i2l, 1) := by decide +kernel
theorem dX12_set_7 : decode cX12_set 7 = .ok (.lconst 0, 1) := by decide +kernel
theorem dX12_set_8 : decode cX12_set 8 = .ok (.ldc2_w 338, 3) := by decide +kernel
theorem dX12_set_11 : decode cX12_set 11 = .ok (.invokestatic 140, 3) := by decide +kernel
theorem dX12_set_14 : decode cX12_set 14 = .ok (.ifCond .ne 5, 3) := by decide +kernel
theorem dX12_set_17 : decode cX12_set 17 = .ok (.iconst (-1), 1) := by decide +kernel
theorem dX12_set_18 : decode cX12_set 18 = .ok (.ireturn, 1) := by decide +kernel
theorem dX12_set_19 : decode cX12_set 19 = .ok (.iload_n 1, 1) := by decide +kernel
theorem dX12_set_20 : decode cX12_set 20 = .ok (.ifCond .ne 17, 3) := by decide +kernel
theorem dX12_set_23 : decode cX12_set 23 = .ok (.iconst 1, 1) := by decide +kernel
theorem dX12_set_24 : decode cX12_set 24 = .ok (.aload_n 0, 1) := by decide +kernel
theorem dX12_set_25 : decode cX12_set 25 = .ok (.getfield 42, 3) := by decide +kernel
theorem dX12_set_28 : decode cX12_set 28 = .ok (.bipush 96, 2) := by decide +kernel
theorem dX12_set_30 : decode cX12_set 30 = .ok (.iaload, 1) := by decide +kernel
theorem dX12_set_31 : decode cX12_set 31 = .ok (.invokestatic 257, 3) := by decide +kernel
theorem dX12_set_34 : decode cX12_set 34 = .ok (.goto 23, 3) := by decide +kernel
theorem dX12_set_37 : decode cX12_set 37 = .ok (.iload_n 1, 1) := by decide +kernel
theorem dX12_set_38 : decode cX12_set 38 = .ok (.iconst 1, 1) := by decide +kernel
theorem dX12_set_39 : decode cX12_set 39 = .ok (.if_icmp .eq 13, 3) := by decide +kernel
theorem dX12_set_42 : decode cX12_set 42 = .ok (.iload_n 1, 1) := by decide +kernel
theorem dX12_set_43 : decode cX12_set 43 = .ok (.iconst 3, 1) := by decide +kernel
theorem dX12_set_44 : decode cX12_set 44 = .ok (.if_icmp .eq 8, 3) := by decide +kernel
theorem dX12_set_47 : decode cX12_set 47 = .ok (.iload_n 1, 1) := by decide +kernel
theorem dX12_set_48 : decode cX12_set 48 = .ok (.iconst 4, 1) := by decide +kernel
theorem dX12_set_49 : decode cX12_set 49 = .ok (.if_icmp .ne 7, 3) := by decide +kernel
theorem dX12_set_52 : decode cX12_set 52 = .ok (.iconst 1, 1) := by decide +kernel
theorem dX12_set_53 : decode cX12_set 53 = .ok (.goto 4, 3) := by decide +kernel
theorem dX12_set_56 : decode cX12_set 56 = .ok (.iconst 0, 1) := by decide +kernel
theorem dX12_set_57 : decode cX12_set 57 = .ok (.istore_n 3, 1) := by decide +kernel
theorem dX12_set_58 : decode cX12_set 58 = .ok (.iload_n 1, 1) := by decide +kernel
theorem dX12_set_59 : decode cX12_set 59 = .ok (.ifCond .eq 9, 3) := by decide +kernel
theorem dX12_set_62 : decode cX12_set 62 = .ok (.iload_n 1, 1) := by decide +kernel
theorem dX12_set_63 : decode cX12_set 63 = .ok (.bipush 6, 2) := by decide +kernel
theorem dX12_set_65 : decode cX12_set 65 = .ok (.if_icmp .ne 9, 3) := by decide +kernel
theorem dX12_set_68 : decode cX12_set 68 = .ok (.sipush 999, 3) := by decide +kernel
theorem dX12_set_71 : decode cX12_set 71 = .ok (.goto 33, 3) := by decide +kernel
theorem dX12_set_74 : decode cX12_set 74 = .ok (.iload_n 1, 1) := by decide +kernel
theorem dX12_set_75 : decode cX12_set 75 = .ok (.iconst 1, 1) := by decide +kernel
theorem dX12_set_76 : decode cX12_set 76 = .ok (.if_icmp .ne 7, 3) := by decide +kernel
theorem dX12_set_79 : decode cX12_set 79 = .ok (.iconst 4, 1) := by decide +kernel
theorem dX12_set_80 : decode cX12_set 80 = .ok (.goto 24, 3) := by decide +kernel
theorem dX12_set_83 : decode cX12_set 83 = .ok (.iload_n 1, 1) := by decide +kernel
theorem dX12_set_84 : decode cX12_set 84 = .ok (.iconst 2, 1) := by decide +kernel
theorem dX12_set_85 : decode cX12_set 85 = .ok (.if_icmp .ne 8, 3) := by decide +kernel
theorem dX12_set_88 : decode cX12_set 88 = .ok (.bipush 9, 2) := by decide +kernel
theorem dX12_set_90 : decode cX12_set 90 = .ok (.goto 14, 3) := by decide +kernel
theorem dX12_set_93 : decode cX12_set 93 = .ok (.iload_n 1, 1) := by decide +kernel
theorem dX12_set_94 : decode cX12_set 94 = .ok (.iconst 3, 1) := by decide +kernel
theorem dX12_set_95 : decode cX12_set 95 = .ok (.if_icmp .ne 7, 3) := by decide +kernel
theorem dX12_set_98 : decode cX12_set 98 = .ok (.iconst 2, 1) := by decide +kernel
theorem dX12_set_99 : decode cX12_set 99 = .ok (.goto 5, 3) := by decide +kernel
theorem dX12_set_102 : decode cX12_set 102 = .ok (.bipush 99, 2) := by decide +kernel
theorem dX12_set_104 : decode cX12_set 104 = .ok (.istore 4, 2) := by decide +kernel
theorem dX12_set_106 : decode cX12_set 106 = .ok (.iload_n 2, 1) := by decide +kernel
theorem dX12_set_107 : decode cX12_set 107 = .ok (.i2l, 1) := by decide +kernel
theorem dX12_set_108 : decode cX12_set 108 = .ok (.iload_n 3, 1) := by decide +kernel
theorem dX12_set_109 : decode cX12_set 109 = .ok (.i2l, 1) := by decide +kernel
theorem dX12_set_110 : decode cX12_set 110 = .ok (.iload 4, 2) := by decide +kernel
theorem dX12_set_112 : decode cX12_set 112 = .ok (.i2l, 1) := by decide +kernel
theorem dX12_set_113 : decode cX12_set 113 = .ok (.invokestatic 140, 3) := by decide +kernel
theorem dX12_set_116 : decode cX12_set 116 = .ok (.ifCond .ne 5, 3) := by decide +kernel
theorem dX12_set_119 : decode cX12_set 119 = .ok (.iconst (-1), 1) := by decide +kernel
theorem dX12_set_120 : decode cX12_set 120 = .ok (.ireturn, 1) := by decide +kernel
theorem dX12_set_121 : decode cX12_set 121 = .ok (.aload_n 0, 1) := by decide +kernel
theorem dX12_set_122 : decode cX12_set 122 = .ok (.getfield 39, 3) := by decide +kernel
theorem dX12_set_125 : decode cX12_set 125 = .ok (.iload_n 1, 1) := by decide +kernel
theorem dX12_set_126 : decode cX12_set 126 = .ok (.iaload, 1) := by decide +kernel
theorem dX12_set_127 : decode cX12_set 127 = .ok (.istore 5, 2) := by decide +kernel
theorem dX12_set_129 : decode cX12_set 129 = .ok (.aload_n 0, 1) := by decide +kernel
theorem dX12_set_130 : decode cX12_set 130 = .ok (.getfield 39, 3) := by decide +kernel
theorem dX12_set_133 : decode cX12_set 133 = .ok (.iload_n 1, 1) := by decide +kernel
theorem dX12_set_134 : decode cX12_set 134 = .ok (.iload_n 2, 1) := by decide +kernel
theorem dX12_set_135 : decode cX12_set 135 = .ok (.iastore, 1) := by decide +kernel
theorem dX12_set_136 : decode cX12_set 136 = .ok (.iload 5, 2) := by decide +kernel
theorem dX12_set_138 : decode cX12_set 138 = .ok (.ireturn, 1) := by decide +kernel
theorem dX12_dayOf_0 : decode cX12_dayOf 0 = .ok (.aload_n 0, 1) := by decide +kernel
theorem dX12_dayOf_1 : decode cX12_dayOf 1 = .ok (.iconst 0, 1) := by decide +kernel
theorem dX12_dayOf_2 : decode cX12_dayOf 2 = .ok (.putfield 126, 3) := by decide +kernel
theorem dX12_dayOf_5 : decode cX12_dayOf 5 = .ok (.aload_n 0, 1) := by decide +kernel
theorem dX12_dayOf_6 : decode cX12_dayOf 6 = .ok (.iload_n 1, 1) := by decide +kernel
theorem dX12_dayOf_7 : decode cX12_dayOf 7 = .ok (.invokevirtual 144, 3) := by decide +kernel
theorem dX12_dayOf_10 : decode cX12_dayOf 10 = .ok (.ifCond .eq 15, 3) := by decide +kernel
theorem dX12_dayOf_13 : decode cX12_dayOf 13 = .ok (.iload_n 2, 1) := by decide +kernel
theorem dX12_dayOf_14 : decode cX12_dayOf 14 = .ok (.i2l, 1) := by decide +kernel
theorem dX12_dayOf_15 : decode cX12_dayOf 15 = .ok (.lconst 0, 1) := by decide +kernel
theorem dX12_dayOf_16 : decode cX12_dayOf 16 = .ok (.ldc2_w 338, 3) := by decide +kernel
theorem dX12_dayOf_19 : decode cX12_dayOf 19 = .ok (.invokestatic 140, 3) := by decide +kernel
theorem dX12_dayOf_22 : decode cX12_dayOf 22 = .ok (.ifCond .ne 5, 3) := by decide +kernel
theorem dX12_dayOf_25 : decode cX12_dayOf 25 = .ok (.iconst (-1), 1) := by decide +kernel
theorem dX12_dayOf_26 : decode cX12_dayOf 26 = .ok (.ireturn, 1) := by decide +kernel
theorem dX12_dayOf_27 : decode cX12_dayOf 27 = .ok (.aload_n 0, 1) := by decide +kernel
theorem dX12_dayOf_28 : decode cX12_dayOf 28 = .ok (.getfield 27, 3) := by decide +kernel
theorem dX12_dayOf_31 : decode cX12_dayOf 31 = .ok (.iload_n 1, 1) := by decide +kernel
theorem dX12_dayOf_32 : decode cX12_dayOf 32 = .ok (.iaload, 1) := by decide +kernel
theorem dX12_dayOf_33 : decode cX12_dayOf 33 = .ok (.istore_n 3, 1) := by decide +kernel
theorem dX12_dayOf_34 : decode cX12_dayOf 34 = .ok (.aload_n 0, 1) := by decide +kernel
theorem dX12_dayOf_35 : decode cX12_dayOf 35 = .ok (.getfield 27, 3) := by decide +kernel
theorem dX12_dayOf_38 : decode cX12_dayOf 38 = .ok (.iload_n 1, 1) := by decide +kernel
theorem dX12_dayOf_39 : decode cX12_dayOf 39 = .ok (.iload_n 2, 1) := by decide +kernel
theorem dX12_dayOf_40 : decode cX12_dayOf 40 = .ok (.iastore, 1) := by decide +kernel
theorem dX12_dayOf_41 : decode cX12_dayOf 41 = .ok (.iload_n 3, 1) := by decide +kernel
theorem dX12_dayOf_42 : decode cX12_dayOf 42 = .ok (.ireturn, 1) := by decide +kernel
theorem dX12_sheet_0 : decode cX12_sheet 0 = .ok (.aload_n 0, 1) := by decide +kernel
theorem dX12_sheet_1 : decode cX12_sheet 1 = .ok (.iconst 0, 1) := by decide +kernel
theorem dX12_sheet_2 : decode cX12_sheet 2 = .ok (.putfield 126, 3) := by decide +kernel
theorem dX12_sheet_5 : decode cX12_sheet 5 = .ok (.iload_n 1, 1) := by decide +kernel
theorem dX12_sheet_6 : decode cX12_sheet 6 = .ok (.i2l, 1) := by decide +kernel
theorem dX12_sheet_7 : decode cX12_sheet 7 = .ok (.lconst 0, 1) := by decide +kernel
theorem dX12_sheet_8 : decode cX12_sheet 8 = .ok (.ldc2_w 336, 3) := by decide +kernel
theorem dX12_sheet_11 : decode cX12_sheet 11 = .ok (.invokestatic 140, 3) := by decide +kernel
theorem dX12_sheet_14 : decode cX12_sheet 14 = .ok (.ifCond .eq 9, 3) := by decide +kernel
theorem dX12_sheet_17 : decode cX12_sheet 17 = .ok (.iload_n 2, 1) := by decide +kernel
theorem dX12_sheet_18 : decode cX12_sheet 18 = .ok (.bipush 6, 2) := by decide +kernel
theorem dX12_sheet_20 : decode cX12_sheet 20 = .ok (.if_icmp .le 5, 3) := by decide +kernel
theorem dX12_sheet_23 : decode cX12_sheet 23 = .ok (.iconst (-1), 1) := by decide +kernel
theorem dX12_sheet_24 : decode cX12_sheet 24 = .ok (.ireturn, 1) := by decide +kernel
theorem dX12_sheet_25 : decode cX12_sheet 25 = .ok (.iload_n 1, 1) := by decide +kernel
theorem dX12_sheet_26 : decode cX12_sheet 26 = .ok (.iconst 3, 1) := by decide +kernel
theorem dX12_sheet_27 : decode cX12_sheet 27 = .ok (.if_icmp .eq 10, 3) := by decide +kernel
theorem dX12_sheet_30 : decode cX12_sheet 30 = .ok (.iload_n 2, 1) := by decide +kernel
theorem dX12_sheet_31 : decode cX12_sheet 31 = .ok (.ifCond .ge 6, 3) := by decide +kernel
theorem dX12_sheet_34 : decode cX12_sheet 34 = .ok (.bipush (-2), 2) := by decide +kernel
theorem dX12_sheet_36 : decode cX12_sheet 36 = .ok (.ireturn, 1) := by decide +kernel
theorem dX12_sheet_37 : decode cX12_sheet 37 = .ok (.iconst 0, 1) := by decide +kernel
theorem dX12_sheet_38 : decode cX12_sheet 38 = .ok (.istore 5, 2) := by decide +kernel
theorem dX12_sheet_40 : decode cX12_sheet 40 = .ok (.iload_n 3, 1) := by decide +kernel
theorem dX12_sheet_41 : decode cX12_sheet 41 = .ok (.istore 6, 2) := by decide +kernel
theorem dX12_sheet_43 : decode cX12_sheet 43 = .ok (.iconst 0, 1) := by decide +kernel
theorem dX12_sheet_44 : decode cX12_sheet 44 = .ok (.istore 7, 2) := by decide +kernel
theorem dX12_sheet_46 : decode cX12_sheet 46 = .ok (.iload 7, 2) := by decide +kernel
theorem dX12_sheet_48 : decode cX12_sheet 48 = .ok (.aload_n 0, 1) := by decide +kernel
theorem dX12_sheet_49 : decode cX12_sheet 49 = .ok (.getfield 137, 3) := by decide +kernel
theorem dX12_sheet_52 : decode cX12_sheet 52 = .ok (.if_icmp .ge 86, 3) := by decide +kernel
theorem dX12_sheet_55 : decode cX12_sheet 55 = .ok (.iload_n 1, 1) := by decide +kernel
theorem dX12_sheet_56 : decode cX12_sheet 56 = .ok (.ifCond .ne 9, 3) := by decide +kernel
theorem dX12_sheet_59 : decode cX12_sheet 59 = .ok (.iload 6, 2) := by decide +kernel
theorem dX12_sheet_61 : decode cX12_sheet 61 = .ok (.i2b, 1) := by decide +kernel
theorem dX12_sheet_62 : decode cX12_sheet 62 = .ok (.goto 16, 3) := by decide +kernel
theorem dX12_sheet_65 : decode cX12_sheet 65 = .ok (.iload_n 1, 1) := by decide +kernel
theorem dX12_sheet_66 : decode cX12_sheet 66 = .ok (.iconst 1, 1) := by decide +kernel
theorem dX12_sheet_67 : decode cX12_sheet 67 = .ok (.if_icmp .ne 9, 3) := by decide +kernel
theorem dX12_sheet_70 : decode cX12_sheet 70 = .ok (.iload 6, 2) := by decide +kernel
theorem dX12_sheet_72 : decode cX12_sheet 72 = .ok (.i2s, 1) := by decide +kernel
theorem dX12_sheet_73 : decode cX12_sheet 73 = .ok (.goto 5, 3) := by decide +kernel
theorem dX12_sheet_76 : decode cX12_sheet 76 = .ok (.iload 6, 2) := by decide +kernel
theorem dX12_sheet_78 : decode cX12_sheet 78 = .ok (.istore 8, 2) := by decide +kernel
theorem dX12_sheet_80 : decode cX12_sheet 80 = .ok (.aload_n 0, 1) := by decide +kernel
theorem dX12_sheet_81 : decode cX12_sheet 81 = .ok (.getfield 13, 3) := by decide +kernel
theorem dX12_sheet_84 : decode cX12_sheet 84 = .ok (.iload 7, 2) := by decide +kernel
theorem dX12_sheet_86 : decode cX12_sheet 86 = .ok (.iload_n 1, 1) := by decide +kernel
theorem dX12_sheet_87 : decode cX12_sheet 87 = .ok (.iconst 3, 1) := by decide +kernel
theorem dX12_sheet_88 : decode cX12_sheet 88 = .ok (.if_icmp .eq 9, 3) := by decide +kernel
theorem dX12_sheet_91 : decode cX12_sheet 91 = .ok (.iload 7, 2) := by decide +kernel
theorem dX12_sheet_93 : decode cX12_sheet 93 = .ok (.iload_n 2, 1) := by decide +kernel
theorem dX12_sheet_94 : decode cX12_sheet 94 = .ok (.if_icmp .lt 7, 3) := by decide +kernel
theorem dX12_sheet_97 : decode cX12_sheet 97 = .ok (.iconst 0, 1) := by decide +kernel
theorem dX12_sheet_98 : decode cX12_sheet 98 = .ok (.goto 14, 3) := by decide +kernel
theorem dX12_sheet_101 : decode cX12_sheet 101 = .ok (.iconst 0, 1) := by decide +kernel
theorem dX12_sheet_102 : decode cX12_sheet 102 = .ok (.bipush 99, 2) := by decide +kernel
theorem dX12_sheet_104 : decode cX12_sheet 104 = .ok (.iload 8, 2) := by decide +kernel
theorem dX12_sheet_106 : decode cX12_sheet 106 = .ok (.invokestatic 157, 3) := by decide +kernel
theorem dX12_sheet_109 : decode cX12_sheet 109 = .ok (.invokestatic 257, 3) := by decide +kernel
theorem dX12_sheet_112 : decode cX12_sheet 112 = .ok (.iastore, 1) := by decide +kernel
theorem dX12_sheet_113 : decode cX12_sheet 113 = .ok (.iload 5, 2) := by decide +kernel
theorem dX12_sheet_115 : decode cX12_sheet 115 = .ok (.aload_n 0, 1) := by decide +kernel
theorem dX12_sheet_116 : decode cX12_sheet 116 = .ok (.getfield 13, 3) := by decide +kernel
theorem dX12_sheet_119 : decode cX12_sheet 119 = .ok (.iload 7, 2) := by decide +kernel
theorem dX12_sheet_121 : decode cX12_sheet 121 = .ok (.iaload, 1) := by decide +kernel
theorem dX12_sheet_122 : decode cX12_sheet 122 = .ok (.iadd, 1) := by decide +kernel
theorem dX12_sheet_123 : decode cX12_sheet 123 = .ok (.istore 5, 2) := by decide +kernel
theorem dX12_sheet_125 : decode cX12_sheet 125 = .ok (.iload 6, 2) := by decide +kernel
theorem dX12_sheet_127 : decode cX12_sheet 127 = .ok (.iload 4, 2) := by decide +kernel
theorem dX12_sheet_129 : decode cX12_sheet 129 = .ok (.iadd, 1) := by decide +kernel
theorem dX12_sheet_130 : decode cX12_sheet 130 = .ok (.istore 6, 2) := by decide +kernel
theorem dX12_sheet_132 : decode cX12_sheet 132 = .ok (.iinc 7 1, 3) := by decide +kernel
theorem dX12_sheet_135 : decode cX12_sheet 135 = .ok (.goto (-89), 3) := by decide +kernel
theorem dX12_sheet_138 : decode cX12_sheet 138 = .ok (.iload_n 1, 1) := by decide +kernel
theorem dX12_sheet_139 : decode cX12_sheet 139 = .ok (.iconst 3, 1) := by decide +kernel
theorem dX12_sheet_140 : decode cX12_sheet 140 = .ok (.if_icmp .ne 8, 3) := by decide +kernel
theorem dX12_sheet_143 : decode cX12_sheet 143 = .ok (.bipush (-3), 2) := by decide +kernel
theorem dX12_sheet_145 : decode cX12_sheet 145 = .ok (.goto 5, 3) := by decide +kernel
theorem dX12_sheet_148 : decode cX12_sheet 148 = .ok (.iload 5, 2) := by decide +kernel
theorem dX12_sheet_150 : decode cX12_sheet 150 = .ok (.ireturn, 1) := by decide +kernel
theorem dX12_putsBy_0 : decode cX12_putsBy 0 = .ok (.iconst 0, 1) := by decide +kernel
theorem dX12_putsBy_1 : decode cX12_putsBy 1 = .ok (.istore_n 1, 1) := by decide +kernel
theorem dX12_putsBy_2 : decode cX12_putsBy 2 = .ok (.iload_n 1, 1) := by decide +kernel
theorem dX12_putsBy_3 : decode cX12_putsBy 3 = .ok (.bipush 99, 2) := by decide +kernel
theorem dX12_putsBy_5 : decode cX12_putsBy 5 = .ok (.if_icmp .ge 29, 3) := by decide +kernel
theorem dX12_putsBy_8 : decode cX12_putsBy 8 = .ok (.aload_n 0, 1) := by decide +kernel
theorem dX12_putsBy_9 : decode cX12_putsBy 9 = .ok (.getfield 72, 3) := by decide +kernel
theorem dX12_putsBy_12 : decode cX12_putsBy 12 = .ok (.bipush 99, 2) := by decide +kernel
theorem dX12_putsBy_14 : decode cX12_putsBy 14 = .ok (.aload_n 0, 1) := by decide +kernel
theorem dX12_putsBy_15 : decode cX12_putsBy 15 = .ok (.getfield 224, 3) := by decide +kernel
theorem dX12_putsBy_18 : decode cX12_putsBy 18 = .ok (.imul, 1) := by decide +kernel
theorem dX12_putsBy_19 : decode cX12_putsBy 19 = .ok (.iload_n 1, 1) := by decide +kernel
theorem dX12_putsBy_20 : decode cX12_putsBy 20 = .ok (.iadd, 1) := by decide +kernel
theorem dX12_putsBy_21 : decode cX12_putsBy 21 = .ok (.aload_n 0, 1) := by decide +kernel
theorem dX12_putsBy_22 : decode cX12_putsBy 22 = .ok (.getfield 42, 3) := by decide +kernel
theorem dX12_putsBy_25 : decode cX12_putsBy 25 = .ok (.iload_n 1, 1) := by decide +kernel
theorem dX12_putsBy_26 : decode cX12_putsBy 26 = .ok (.iaload, 1) := by decide +kernel
theorem dX12_putsBy_27 : decode cX12_putsBy 27 = .ok (.iastore, 1) := by decide +kernel
theorem dX12_putsBy_28 : decode cX12_putsBy 28 = .ok (.iinc 1 1, 3) := by decide +kernel
theorem dX12_putsBy_31 : decode cX12_putsBy 31 = .ok (.goto (-29), 3) := by decide +kernel
theorem dX12_putsBy_34 : decode cX12_putsBy 34 = .ok (.return_, 1) := by decide +kernel
theorem dX12_adds_0 : decode cX12_adds 0 = .ok (.aload_n 0, 1) := by decide +kernel
theorem dX12_adds_1 : decode cX12_adds 1 = .ok (.dup, 1) := by decide +kernel
theorem dX12_adds_2 : decode cX12_adds 2 = .ok (.getfield 224, 3) := by decide +kernel
theorem dX12_adds_5 : decode cX12_adds 5 = .ok (.iconst 1, 1) := by decide +kernel
theorem dX12_adds_6 : decode cX12_adds 6 = .ok (.iadd, 1) := by decide +kernel
theorem dX12_adds_7 : decode cX12_adds 7 = .ok (.putfield 224, 3) := by decide +kernel
theorem dX12_adds_10 : decode cX12_adds 10 = .ok (.aload_n 0, 1) := by decide +kernel
theorem dX12_adds_11 : decode cX12_adds 11 = .ok (.getfield 224, 3) := by decide +kernel
theorem dX12_adds_14 : decode cX12_adds 14 = .ok (.bipush 15, 2) := by decide +kernel
theorem dX12_adds_16 : decode cX12_adds 16 = .ok (.if_icmp .le 43, 3) := by decide +kernel
theorem dX12_adds_19 : decode cX12_adds 19 = .ok (.iconst 0, 1) := by decide +kernel
theorem dX12_adds_20 : decode cX12_adds 20 = .ok (.istore_n 2, 1) := by decide +kernel
theorem dX12_adds_21 : decode cX12_adds 21 = .ok (.iload_n 2, 1) := by decide +kernel
theorem dX12_adds_22 : decode cX12_adds 22 = .ok (.sipush 1485, 3) := by decide +kernel
theorem dX12_adds_25 : decode cX12_adds 25 = .ok (.if_icmp .ge 24, 3) := by decide +kernel
theorem dX12_adds_28 : decode cX12_adds 28 = .ok (.aload_n 0, 1) := by decide +kernel
theorem dX12_adds_29 : decode cX12_adds 29 = .ok (.getfield 72, 3) := by decide +kernel
theorem dX12_adds_32 : decode cX12_adds 32 = .ok (.iload_n 2, 1) := by decide +kernel
theorem dX12_adds_33 : decode cX12_adds 33 = .ok (.aload_n 0, 1) := by decide +kernel
theorem dX12_adds_34 : decode cX12_adds 34 = .ok (.getfield 72, 3) := by decide +kernel
theorem dX12_adds_37 : decode cX12_adds 37 = .ok (.iload_n 2, 1) := by decide +kernel
theorem dX12_adds_38 : decode cX12_adds 38 = .ok (.bipush 99, 2) := by decide +kernel
theorem dX12_adds_40 : decode cX12_adds 40 = .ok (.iadd, 1) := by decide +kernel
theorem dX12_adds_41 : decode cX12_adds 41 = .ok (.iaload, 1) := by decide +kernel
theorem dX12_adds_42 : decode cX12_adds 42 = .ok (.iastore, 1) := by decide +kernel
theorem dX12_adds_43 : decode cX12_adds 43 = .ok (.iinc 2 1, 3) := by decide +kernel
theorem dX12_adds_46 : decode cX12_adds 46 = .ok (.goto (-25), 3) := by decide +kernel
theorem dX12_adds_49 : decode cX12_adds 49 = .ok (.aload_n 0, 1) := by decide +kernel
theorem dX12_adds_50 : decode cX12_adds 50 = .ok (.dup, 1) := by decide +kernel
theorem dX12_adds_51 : decode cX12_adds 51 = .ok (.getfield 224, 3) := by decide +kernel
theorem dX12_adds_54 : decode cX12_adds 54 = .ok (.iconst 1, 1) := by decide +kernel
theorem dX12_adds_55 : decode cX12_adds 55 = .ok (.isub, 1) := by decide +kernel
theorem dX12_adds_56 : decode cX12_adds 56 = .ok (.putfield 224, 3) := by decide +kernel
theorem dX12_adds_59 : decode cX12_adds 59 = .ok (.iload_n 1, 1) := by decide +kernel
theorem dX12_adds_60 : decode cX12_adds 60 = .ok (.ireturn, 1) := by decide +kernel
theorem dX12_counts_0 : decode cX12_counts 0 = .ok (.iload_n 1, 1) := by decide +kernel
theorem dX12_counts_1 : decode cX12_counts 1 = .ok (.ifCond .ge 7, 3) := by decide +kernel
theorem dX12_counts_4 : decode cX12_counts 4 = .ok (.iload_n 1, 1) := by decide +kernel
theorem dX12_counts_5 : decode cX12_counts 5 = .ok (.goto 8, 3) := by decide +kernel
theorem dX12_counts_8 : decode cX12_counts 8 = .ok (.aload_n 0, 1) := by decide +kernel
theorem dX12_counts_9 : decode cX12_counts 9 = .ok (.iload_n 1, 1) := by decide +kernel
theorem dX12_counts_10 : decode cX12_counts 10 = .ok (.invokevirtual 340, 3) := by decide +kernel
theorem dX12_counts_13 : decode cX12_counts 13 = .ok (.ireturn, 1) := by decide +kernel
theorem dX12_undo_0 : decode cX12_undo 0 = .ok (.aload_n 0, 1) := by decide +kernel
theorem dX12_undo_1 : decode cX12_undo 1 = .ok (.iconst 0, 1) := by decide +kernel
theorem dX12_undo_2 : decode cX12_undo 2 = .ok (.putfield 126, 3) := by decide +kernel
theorem dX12_undo_5 : decode cX12_undo 5 = .ok (.aload_n 0, 1) := by decide +kernel
theorem dX12_undo_6 : decode cX12_undo 6 = .ok (.getfield 224, 3) := by decide +kernel
theorem dX12_undo_9 : decode cX12_undo 9 = .ok (.ifCond .ne 5, 3) := by decide +kernel
theorem dX12_undo_12 : decode cX12_undo 12 = .ok (.iconst (-1), 1) := by decide +kernel
theorem dX12_undo_13 : decode cX12_undo 13 = .ok (.ireturn, 1) := by decide +kernel
theorem dX12_undo_14 : decode cX12_undo 14 = .ok (.aload_n 0, 1) := by decide +kernel
theorem dX12_undo_15 : decode cX12_undo 15 = .ok (.dup, 1) := by decide +kernel
theorem dX12_undo_16 : decode cX12_undo 16 = .ok (.getfield 224, 3) := by decide +kernel
theorem dX12_undo_19 : decode cX12_undo 19 = .ok (.iconst 1, 1) := by decide +kernel
theorem dX12_undo_20 : decode cX12_undo 20 = .ok (.isub, 1) := by decide +kernel
theorem dX12_undo_21 : decode cX12_undo 21 = .ok (.putfield 224, 3) := by decide +kernel
theorem dX12_undo_24 : decode cX12_undo 24 = .ok (.iconst 0, 1) := by decide +kernel
theorem dX12_undo_25 : decode cX12_undo 25 = .ok (.istore_n 1, 1) := by decide +kernel
theorem dX12_undo_26 : decode cX12_undo 26 = .ok (.iload_n 1, 1) := by decide +kernel
theorem dX12_undo_27 : decode cX12_undo 27 = .ok (.bipush 99, 2) := by decide +kernel
theorem dX12_undo_29 : decode cX12_undo 29 = .ok (.if_icmp .ge 29, 3) := by decide +kernel
theorem dX12_undo_32 : decode cX12_undo 32 = .ok (.aload_n 0, 1) := by decide +kernel
theorem dX12_undo_33 : decode cX12_undo 33 = .ok (.getfield 42, 3) := by decide +kernel
theorem dX12_undo_36 : decode cX12_undo 36 = .ok (.iload_n 1, 1) := by decide +kernel
theorem dX12_undo_37 : decode cX12_undo 37 = .ok (.aload_n 0, 1) := by decide +kernel
theorem dX12_undo_38 : decode cX12_undo 38 = .ok (.getfield 72, 3) := by decide +kernel
theorem dX12_undo_41 : decode cX12_undo 41 = .ok (.bipush 99, 2) := by decide +kernel
theorem dX12_undo_43 : decode cX12_undo 43 = .ok (.aload_n 0, 1) := by decide +kernel
theorem dX12_undo_44 : decode cX12_undo 44 = .ok (.getfield 224, 3) := by decide +kernel
theorem dX12_undo_47 : decode cX12_undo 47 = .ok (.imul, 1) := by decide +kernel
theorem dX12_undo_48 : decode cX12_undo 48 = .ok (.iload_n 1, 1) := by decide +kernel
theorem dX12_undo_49 : decode cX12_undo 49 = .ok (.iadd, 1) := by decide +kernel
theorem dX12_undo_50 : decode cX12_undo 50 = .ok (.iaload, 1) := by decide +kernel
theorem dX12_undo_51 : decode cX12_undo 51 = .ok (.iastore, 1) := by decide +kernel
theorem dX12_undo_52 : decode cX12_undo 52 = .ok (.iinc 1 1, 3) := by decide +kernel
theorem dX12_undo_55 : decode cX12_undo 55 = .ok (.goto (-29), 3) := by decide +kernel
theorem dX12_undo_58 : decode cX12_undo 58 = .ok (.aload_n 0, 1) := by decide +kernel
theorem dX12_undo_59 : decode cX12_undo 59 = .ok (.getfield 224, 3) := by decide +kernel
theorem dX12_undo_62 : decode cX12_undo 62 = .ok (.ireturn, 1) := by decide +kernel
theorem dX12_drives_0 : decode cX12_drives 0 = .ok (.bipush 10, 2) := by decide +kernel
theorem dX12_drives_2 : decode cX12_drives 2 = .ok (.aload_n 1, 1) := by decide +kernel
theorem dX12_drives_3 : decode cX12_drives 3 = .ok (.bipush 97, 2) := by decide +kernel
theorem dX12_drives_5 : decode cX12_drives 5 = .ok (.iaload, 1) := by decide +kernel
theorem dX12_drives_6 : decode cX12_drives 6 = .ok (.iload_n 2, 1) := by decide +kernel
theorem dX12_drives_7 : decode cX12_drives 7 = .ok (.isub, 1) := by decide +kernel
theorem dX12_drives_8 : decode cX12_drives 8 = .ok (.invokestatic 343, 3) := by decide +kernel
theorem dX12_drives_11 : decode cX12_drives 11 = .ok (.imul, 1) := by decide +kernel
theorem dX12_drives_12 : decode cX12_drives 12 = .ok (.istore_n 3, 1) := by decide +kernel
theorem dX12_drives_13 : decode cX12_drives 13 = .ok (.aload_n 1, 1) := by decide +kernel
theorem dX12_drives_14 : decode cX12_drives 14 = .ok (.bipush 97, 2) := by decide +kernel
theorem dX12_drives_16 : decode cX12_drives 16 = .ok (.iload_n 2, 1) := by decide +kernel
theorem dX12_drives_17 : decode cX12_drives 17 = .ok (.iastore, 1) := by decide +kernel
theorem dX12_drives_18 : decode cX12_drives 18 = .ok (.aload_n 1, 1) := by decide +kernel
theorem dX12_drives_19 : decode cX12_drives 19 = .ok (.bipush 98, 2) := by decide +kernel
theorem dX12_drives_21 : decode cX12_drives 21 = .ok (.dup2, 1) := by decide +kernel
theorem dX12_drives_22 : decode cX12_drives 22 = .ok (.iaload, 1) := by decide +kernel
theorem dX12_drives_23 : decode cX12_drives 23 = .ok (.iload_n 3, 1) := by decide +kernel
theorem dX12_drives_24 : decode cX12_drives 24 = .ok (.iadd, 1) := by decide +kernel
theorem dX12_drives_25 : decode cX12_drives 25 = .ok (.iastore, 1) := by decide +kernel
theorem dX12_drives_26 : decode cX12_drives 26 = .ok (.iload_n 3, 1) := by decide +kernel
theorem dX12_drives_27 : decode cX12_drives 27 = .ok (.ireturn, 1) := by decide +kernel
theorem dX12_isBarred_0 : decode cX12_isBarred 0 = .ok (.aload_n 0, 1) := by decide +kernel
theorem dX12_isBarred_1 : decode cX12_isBarred 1 = .ok (.getfield 30, 3) := by decide +kernel
theorem dX12_isBarred_4 : decode cX12_isBarred 4 = .ok (.iload_n 2, 1) := by decide +kernel
theorem dX12_isBarred_5 : decode cX12_isBarred 5 = .ok (.iaload, 1) := by decide +kernel
theorem dX12_isBarred_6 : decode cX12_isBarred 6 = .ok (.ifCond .lt 35, 3) := by decide +kernel
theorem dX12_isBarred_9 : decode cX12_isBarred 9 = .ok (.aload_n 1, 1) := by decide +kernel
theorem dX12_isBarred_10 : decode cX12_isBarred 10 = .ok (.bipush 98, 2) := by decide +kernel
theorem dX12_isBarred_12 : decode cX12_isBarred 12 = .ok (.iaload, 1) := by decide +kernel
theorem dX12_isBarred_13 : decode cX12_isBarred 13 = .ok (.bipush 60, 2) := by decide +kernel
theorem dX12_isBarred_15 : decode cX12_isBarred 15 = .ok (.idiv, 1) := by decide +kernel
theorem dX12_isBarred_16 : decode cX12_isBarred 16 = .ok (.i2l, 1) := by decide +kernel
theorem dX12_isBarred_17 : decode cX12_isBarred 17 = .ok (.aload_n 0, 1) := by decide +kernel
theorem dX12_isBarred_18 : decode cX12_isBarred 18 = .ok (.getfield 30, 3) := by decide +kernel
theorem dX12_isBarred_21 : decode cX12_isBarred 21 = .ok (.iload_n 2, 1) := by decide +kernel
theorem dX12_isBarred_22 : decode cX12_isBarred 22 = .ok (.iaload, 1) := by decide +kernel
theorem dX12_isBarred_23 : decode cX12_isBarred 23 = .ok (.i2l, 1) := by decide +kernel
theorem dX12_isBarred_24 : decode cX12_isBarred 24 = .ok (.aload_n 0, 1) := by decide +kernel
theorem dX12_isBarred_25 : decode cX12_isBarred 25 = .ok (.getfield 33, 3) := by decide +kernel
theorem dX12_isBarred_28 : decode cX12_isBarred 28 = .ok (.iload_n 2, 1) := by decide +kernel
theorem dX12_isBarred_29 : decode cX12_isBarred 29 = .ok (.iaload, 1) := by decide +kernel
theorem dX12_isBarred_30 : decode cX12_isBarred 30 = .ok (.i2l, 1) := by decide +kernel
theorem dX12_isBarred_31 : decode cX12_isBarred 31 = .ok (.invokestatic 140, 3) := by decide +kernel
theorem dX12_isBarred_34 : decode cX12_isBarred 34 = .ok (.ifCond .eq 7, 3) := by decide +kernel
theorem dX12_isBarred_37 : decode cX12_isBarred 37 = .ok (.iconst 1, 1) := by decide +kernel
theorem dX12_isBarred_38 : decode cX12_isBarred 38 = .ok (.goto 4, 3) := by decide +kernel
theorem dX12_isBarred_41 : decode cX12_isBarred 41 = .ok (.iconst 0, 1) := by decide +kernel
theorem dX12_isBarred_42 : decode cX12_isBarred 42 = .ok (.ireturn, 1) := by decide +kernel
theorem dX12_whyNot_0 : decode cX12_whyNot 0 = .ok (.aload_n 0, 1) := by decide +kernel
theorem dX12_whyNot_1 : decode cX12_whyNot 1 = .ok (.iload_n 1, 1) := by decide +kernel
theorem dX12_whyNot_2 : decode cX12_whyNot 2 = .ok (.invokevirtual 144, 3) := by decide +kernel
theorem dX12_whyNot_5 : decode cX12_whyNot 5 = .ok (.ifCond .eq 15, 3) := by decide +kernel
theorem dX12_whyNot_8 : decode cX12_whyNot 8 = .ok (.iload_n 2, 1) := by decide +kernel
theorem dX12_whyNot_9 : decode cX12_whyNot 9 = .ok (.i2l, 1) := by decide +kernel
theorem dX12_whyNot_10 : decode cX12_whyNot 10 = .ok (.lconst 0, 1) := by decide +kernel
theorem dX12_whyNot_11 : decode cX12_whyNot 11 = .ok (.ldc2_w 346, 3) := by decide +kernel
theorem dX12_whyNot_14 : decode cX12_whyNot 14 = .ok (.invokestatic 140, 3) := by decide +kernel
theorem dX12_whyNot_17 : decode cX12_whyNot 17 = .ok (.ifCond .ne 7, 3) := by decide +kernel
theorem dX12_whyNot_20 : decode cX12_whyNot 20 = .ok (.iconst (-1), 1) := by decide +kernel
theorem dX12_whyNot_21 : decode cX12_whyNot 21 = .ok (.goto 42, 3) := by decide +kernel
theorem dX12_whyNot_24 : decode cX12_whyNot 24 = .ok (.aload_n 0, 1) := by decide +kernel
theorem dX12_whyNot_25 : decode cX12_whyNot 25 = .ok (.getfield 42, 3) := by decide +kernel
theorem dX12_whyNot_28 : decode cX12_whyNot 28 = .ok (.bipush 97, 2) := by decide +kernel
theorem dX12_whyNot_30 : decode cX12_whyNot 30 = .ok (.iaload, 1) := by decide +kernel
theorem dX12_whyNot_31 : decode cX12_whyNot 31 = .ok (.aload_n 0, 1) := by decide +kernel
theorem dX12_whyNot_32 : decode cX12_whyNot 32 = .ok (.getfield 13, 3) := by decide +kernel
theorem dX12_whyNot_35 : decode cX12_whyNot 35 = .ok (.iload_n 1, 1) := by decide +kernel
theorem dX12_whyNot_36 : decode cX12_whyNot 36 = .ok (.iaload, 1) := by decide +kernel
theorem dX12_whyNot_37 : decode cX12_whyNot 37 = .ok (.if_icmp .eq 8, 3) := by decide +kernel
theorem dX12_whyNot_40 : decode cX12_whyNot 40 = .ok (.bipush (-2), 2) := by decide +kernel
theorem dX12_whyNot_42 : decode cX12_whyNot 42 = .ok (.goto 21, 3) := by decide +kernel
theorem dX12_whyNot_45 : decode cX12_whyNot 45 = .ok (.aload_n 0, 1) := by decide +kernel
theorem dX12_whyNot_46 : decode cX12_whyNot 46 = .ok (.aload_n 0, 1) := by decide +kernel
theorem dX12_whyNot_47 : decode cX12_whyNot 47 = .ok (.getfield 42, 3) := by decide +kernel
theorem dX12_whyNot_50 : decode cX12_whyNot 50 = .ok (.iload_n 1, 1) := by decide +kernel
theorem dX12_whyNot_51 : decode cX12_whyNot 51 = .ok (.invokevirtual 348, 3) := by decide +kernel
theorem dX12_whyNot_54 : decode cX12_whyNot 54 = .ok (.ifCond .eq 8, 3) := by decide +kernel
theorem dX12_whyNot_57 : decode cX12_whyNot 57 = .ok (.bipush (-3), 2) := by decide +kernel
theorem dX12_whyNot_59 : decode cX12_whyNot 59 = .ok (.goto 4, 3) := by decide +kernel
theorem dX12_whyNot_62 : decode cX12_whyNot 62 = .ok (.iconst 0, 1) := by decide +kernel
theorem dX12_whyNot_63 : decode cX12_whyNot 63 = .ok (.ireturn, 1) := by decide +kernel
theorem dX12_empties_0 : decode cX12_empties 0 = .ok (.aload_n 0, 1) := by decide +kernel
theorem dX12_empties_1 : decode cX12_empties 1 = .ok (.iload_n 1, 1) := by decide +kernel
theorem dX12_empties_2 : decode cX12_empties 2 = .ok (.iload_n 2, 1) := by decide +kernel
theorem dX12_empties_3 : decode cX12_empties 3 = .ok (.invokevirtual 352, 3) := by decide +kernel
theorem dX12_empties_6 : decode cX12_empties 6 = .ok (.istore_n 3, 1) := by decide +kernel
theorem dX12_empties_7 : decode cX12_empties 7 = .ok (.iload_n 3, 1) := by decide +kernel
theorem dX12_empties_8 : decode cX12_empties 8 = .ok (.ifCond .ge 5, 3) := by decide +kernel
theorem dX12_empties_11 : decode cX12_empties 11 = .ok (.iload_n 3, 1) := by decide +kernel
theorem dX12_empties_12 : decode cX12_empties 12 = .ok (.ireturn, 1) := by decide +kernel
theorem dX12_empties_13 : decode cX12_empties 13 = .ok (.aload_n 0, 1) := by decide +kernel
theorem dX12_empties_14 : decode cX12_empties 14 = .ok (.iload_n 1, 1) := by decide +kernel
theorem dX12_empties_15 : decode cX12_empties 15 = .ok (.invokevirtual 317, 3) := by decide +kernel
theorem dX12_empties_18 : decode cX12_empties 18 = .ok (.aload_n 0, 1) := by decide +kernel
theorem dX12_empties_19 : decode cX12_empties 19 = .ok (.aload_n 0, 1) := by decide +kernel
theorem dX12_empties_20 : decode cX12_empties 20 = .ok (.getfield 42, 3) := by decide +kernel
theorem dX12_empties_23 : decode cX12_empties 23 = .ok (.iload_n 1, 1) := by decide +kernel
theorem dX12_empties_24 : decode cX12_empties 24 = .ok (.iload_n 2, 1) := by decide +kernel
theorem dX12_empties_25 : decode cX12_empties 25 = .ok (.aload_n 0, 1) := by decide +kernel
theorem dX12_empties_26 : decode cX12_empties 26 = .ok (.getfield 39, 3) := by decide +kernel
theorem dX12_empties_29 : decode cX12_empties 29 = .ok (.iconst 0, 1) := by decide +kernel
theorem dX12_empties_30 : decode cX12_empties 30 = .ok (.iaload, 1) := by decide +kernel
theorem dX12_empties_31 : decode cX12_empties 31 = .ok (.invokevirtual 307, 3) := by decide +kernel
theorem dX12_empties_34 : decode cX12_empties 34 = .ok (.istore 4, 2) := by decide +kernel
theorem dX12_empties_36 : decode cX12_empties 36 = .ok (.aload_n 0, 1) := by decide +kernel
theorem dX12_empties_37 : decode cX12_empties 37 = .ok (.getfield 42, 3) := by decide +kernel
theorem dX12_empties_40 : decode cX12_empties 40 = .ok (.bipush 98, 2) := by decide +kernel
theorem dX12_empties_42 : decode cX12_empties 42 = .ok (.dup2, 1) := by decide +kernel
theorem dX12_empties_43 : decode cX12_empties 43 = .ok (.iaload, 1) := by decide +kernel
theorem dX12_empties_44 : decode cX12_empties 44 = .ok (.iload 4, 2) := by decide +kernel
theorem dX12_empties_46 : decode cX12_empties 46 = .ok (.iadd, 1) := by decide +kernel
theorem dX12_empties_47 : decode cX12_empties 47 = .ok (.iastore, 1) := by decide +kernel
theorem dX12_empties_48 : decode cX12_empties 48 = .ok (.iload 4, 2) := by decide +kernel
theorem dX12_empties_50 : decode cX12_empties 50 = .ok (.ireturn, 1) := by decide +kernel
theorem dX12_isShut_0 : decode cX12_isShut 0 = .ok (.aload_n 1, 1) := by decide +kernel
theorem dX12_isShut_1 : decode cX12_isShut 1 = .ok (.bipush 98, 2) := by decide +kernel
theorem dX12_isShut_3 : decode cX12_isShut 3 = .ok (.iaload, 1) := by decide +kernel
theorem dX12_isShut_4 : decode cX12_isShut 4 = .ok (.bipush 10, 2) := by decide +kernel
theorem dX12_isShut_6 : decode cX12_isShut 6 = .ok (.aload_n 1, 1) := by decide +kernel
theorem dX12_isShut_7 : decode cX12_isShut 7 = .ok (.bipush 97, 2) := by decide +kernel
theorem dX12_isShut_9 : decode cX12_isShut 9 = .ok (.iaload, 1) := by decide +kernel
theorem dX12_isShut_10 : decode cX12_isShut 10 = .ok (.aload_n 0, 1) := by decide +kernel
theorem dX12_isShut_11 : decode cX12_isShut 11 = .ok (.getfield 39, 3) := by decide +kernel
theorem dX12_isShut_14 : decode cX12_isShut 14 = .ok (.iconst 5, 1) := by decide +kernel
theorem dX12_isShut_15 : decode cX12_isShut 15 = .ok (.iaload, 1) := by decide +kernel
theorem dX12_isShut_16 : decode cX12_isShut 16 = .ok (.isub, 1) := by decide +kernel
theorem dX12_isShut_17 : decode cX12_isShut 17 = .ok (.invokestatic 343, 3) := by decide +kernel
theorem dX12_isShut_20 : decode cX12_isShut 20 = .ok (.imul, 1) := by decide +kernel
theorem dX12_isShut_21 : decode cX12_isShut 21 = .ok (.iadd, 1) := by decide +kernel
theorem dX12_isShut_22 : decode cX12_isShut 22 = .ok (.bipush 60, 2) := by decide +kernel
theorem dX12_isShut_24 : decode cX12_isShut 24 = .ok (.idiv, 1) := by decide +kernel
theorem dX12_isShut_25 : decode cX12_isShut 25 = .ok (.aload_n 0, 1) := by decide +kernel
theorem dX12_isShut_26 : decode cX12_isShut 26 = .ok (.getfield 39, 3) := by decide +kernel
theorem dX12_isShut_29 : decode cX12_isShut 29 = .ok (.bipush 6, 2) := by decide +kernel
theorem dX12_isShut_31 : decode cX12_isShut 31 = .ok (.iaload, 1) := by decide +kernel
theorem dX12_isShut_32 : decode cX12_isShut 32 = .ok (.if_icmp .le 7, 3) := by decide +kernel
theorem dX12_isShut_35 : decode cX12_isShut 35 = .ok (.iconst 1, 1) := by decide +kernel
theorem dX12_isShut_36 : decode cX12_isShut 36 = .ok (.goto 4, 3) := by decide +kernel
theorem dX12_isShut_39 : decode cX12_isShut 39 = .ok (.iconst 0, 1) := by decide +kernel
theorem dX12_isShut_40 : decode cX12_isShut 40 = .ok (.ireturn, 1) := by decide +kernel
theorem dX12_tips_0 : decode cX12_tips 0 = .ok (.aload_n 0, 1) := by decide +kernel
theorem dX12_tips_1 : decode cX12_tips 1 = .ok (.aload_n 1, 1) := by decide +kernel
theorem dX12_tips_2 : decode cX12_tips 2 = .ok (.invokevirtual 355, 3) := by decide +kernel
theorem dX12_tips_5 : decode cX12_tips 5 = .ok (.ifCond .eq 6, 3) := by decide +kernel
theorem dX12_tips_8 : decode cX12_tips 8 = .ok (.bipush (-2), 2) := by decide +kernel
theorem dX12_tips_10 : decode cX12_tips 10 = .ok (.ireturn, 1) := by decide +kernel
theorem dX12_tips_11 : decode cX12_tips 11 = .ok (.aload_n 0, 1) := by decide +kernel
theorem dX12_tips_12 : decode cX12_tips 12 = .ok (.aload_n 1, 1) := by decide +kernel
theorem dX12_tips_13 : decode cX12_tips 13 = .ok (.aload_n 0, 1) := by decide +kernel
theorem dX12_tips_14 : decode cX12_tips 14 = .ok (.getfield 39, 3) := by decide +kernel
theorem dX12_tips_17 : decode cX12_tips 17 = .ok (.iconst 5, 1) := by decide +kernel
theorem dX12_tips_18 : decode cX12_tips 18 = .ok (.iaload, 1) := by decide +kernel
theorem dX12_tips_19 : decode cX12_tips 19 = .ok (.invokevirtual 359, 3) := by decide +kernel
theorem dX12_tips_22 : decode cX12_tips 22 = .ok (.sipush 300, 3) := by decide +kernel
theorem dX12_tips_25 : decode cX12_tips 25 = .ok (.iadd, 1) := by decide +kernel
theorem dX12_tips_26 : decode cX12_tips 26 = .ok (.istore_n 2, 1) := by decide +kernel
theorem dX12_tips_27 : decode cX12_tips 27 = .ok (.aload_n 1, 1) := by decide +kernel
theorem dX12_tips_28 : decode cX12_tips 28 = .ok (.bipush 98, 2) := by decide +kernel
theorem dX12_tips_30 : decode cX12_tips 30 = .ok (.dup2, 1) := by decide +kernel
theorem dX12_tips_31 : decode cX12_tips 31 = .ok (.iaload, 1) := by decide +kernel
theorem dX12_tips_32 : decode cX12_tips 32 = .ok (.sipush 300, 3) := by decide +kernel
theorem dX12_tips_35 : decode cX12_tips 35 = .ok (.iadd, 1) := by decide +kernel
theorem dX12_tips_36 : decode cX12_tips 36 = .ok (.iastore, 1) := by decide +kernel
theorem dX12_tips_37 : decode cX12_tips 37 = .ok (.aload_n 0, 1) := by decide +kernel
theorem dX12_tips_38 : decode cX12_tips 38 = .ok (.aload_n 1, 1) := by decide +kernel
theorem dX12_tips_39 : decode cX12_tips 39 = .ok (.bipush 96, 2) := by decide +kernel
theorem dX12_tips_41 : decode cX12_tips 41 = .ok (.iaload, 1) := by decide +kernel
theorem dX12_tips_42 : decode cX12_tips 42 = .ok (.putfield 362, 3) := by decide +kernel
theorem dX12_tips_45 : decode cX12_tips 45 = .ok (.aload_n 1, 1) := by decide +kernel
theorem dX12_tips_46 : decode cX12_tips 46 = .ok (.bipush 96, 2) := by decide +kernel
theorem dX12_tips_48 : decode cX12_tips 48 = .ok (.iconst 0, 1) := by decide +kernel
theorem dX12_tips_49 : decode cX12_tips 49 = .ok (.iastore, 1) := by decide +kernel
theorem dX12_tips_50 : decode cX12_tips 50 = .ok (.iload_n 2, 1) := by decide +kernel
theorem dX12_tips_51 : decode cX12_tips 51 = .ok (.ireturn, 1) := by decide +kernel
theorem dX12_drive_0 : decode cX12_drive 0 = .ok (.aload_n 0, 1) := by decide +kernel
theorem dX12_drive_1 : decode cX12_drive 1 = .ok (.iconst 0, 1) := by decide +kernel
theorem dX12_drive_2 : decode cX12_drive 2 = .ok (.putfield 126, 3) := by decide +kernel
theorem dX12_drive_5 : decode cX12_drive 5 = .ok (.aload_n 0, 1) := by decide +kernel
theorem dX12_drive_6 : decode cX12_drive 6 = .ok (.iload_n 1, 1) := by decide +kernel
theorem dX12_drive_7 : decode cX12_drive 7 = .ok (.invokevirtual 144, 3) := by decide +kernel
theorem dX12_drive_10 : decode cX12_drive 10 = .ok (.ifCond .ne 5, 3) := by decide +kernel
theorem dX12_drive_13 : decode cX12_drive 13 = .ok (.iconst (-1), 1) := by decide +kernel
theorem dX12_drive_14 : decode cX12_drive 14 = .ok (.ireturn, 1) := by decide +kernel
theorem dX12_drive_15 : decode cX12_drive 15 = .ok (.aload_n 0, 1) := by decide +kernel
theorem dX12_drive_16 : decode cX12_drive 16 = .ok (.invokevirtual 365, 3) := by decide +kernel
theorem dX12_drive_19 : decode cX12_drive 19 = .ok (.aload_n 0, 1) := by decide +kernel
theorem dX12_drive_20 : decode cX12_drive 20 = .ok (.aload_n 0, 1) := by decide +kernel
theorem dX12_drive_21 : decode cX12_drive 21 = .ok (.aload_n 0, 1) := by decide +kernel
theorem dX12_drive_22 : decode cX12_drive 22 = .ok (.getfield 42, 3) := by decide +kernel
theorem dX12_drive_25 : decode cX12_drive 25 = .ok (.aload_n 0, 1) := by decide +kernel
theorem dX12_drive_26 : decode cX12_drive 26 = .ok (.getfield 13, 3) := by decide +kernel
theorem dX12_drive_29 : decode cX12_drive 29 = .ok (.iload_n 1, 1) := by decide +kernel
theorem dX12_drive_30 : decode cX12_drive 30 = .ok (.iaload, 1) := by decide +kernel
theorem dX12_drive_31 : decode cX12_drive 31 = .ok (.invokevirtual 359, 3) := by decide +kernel
theorem dX12_drive_34 : decode cX12_drive 34 = .ok (.invokevirtual 340, 3) := by decide +kernel
theorem dX12_drive_37 : decode cX12_drive 37 = .ok (.ireturn, 1) := by decide +kernel
theorem dX12_empty_0 : decode cX12_empty 0 = .ok (.aload_n 0, 1) := by decide +kernel
theorem dX12_empty_1 : decode cX12_empty 1 = .ok (.iconst 0, 1) := by decide +kernel
theorem dX12_empty_2 : decode cX12_empty 2 = .ok (.putfield 126, 3) := by decide +kernel
theorem dX12_empty_5 : decode cX12_empty 5 = .ok (.aload_n 0, 1) := by decide +kernel
theorem dX12_empty_6 : decode cX12_empty 6 = .ok (.invokevirtual 365, 3) := by decide +kernel
theorem dX12_empty_9 : decode cX12_empty 9 = .ok (.aload_n 0, 1) := by decide +kernel
theorem dX12_empty_10 : decode cX12_empty 10 = .ok (.iload_n 1, 1) := by decide +kernel
theorem dX12_empty_11 : decode cX12_empty 11 = .ok (.iload_n 2, 1) := by decide +kernel
theorem dX12_empty_12 : decode cX12_empty 12 = .ok (.invokevirtual 368, 3) := by decide +kernel
theorem dX12_empty_15 : decode cX12_empty 15 = .ok (.istore_n 3, 1) := by decide +kernel
theorem dX12_empty_16 : decode cX12_empty 16 = .ok (.iload_n 3, 1) := by decide +kernel
theorem dX12_empty_17 : decode cX12_empty 17 = .ok (.ifCond .lt 49, 3) := by decide +kernel
theorem dX12_empty_20 : decode cX12_empty 20 = .ok (.aload_n 0, 1) := by decide +kernel
theorem dX12_empty_21 : decode cX12_empty 21 = .ok (.iconst 0, 1) := by decide +kernel
theorem dX12_empty_22 : decode cX12_empty 22 = .ok (.putfield 134, 3) := by decide +kernel
theorem dX12_empty_25 : decode cX12_empty 25 = .ok (.aload_n 0, 1) := by decide +kernel
theorem dX12_empty_26 : decode cX12_empty 26 = .ok (.aload_n 0, 1) := by decide +kernel
theorem dX12_empty_27 : decode cX12_empty 27 = .ok (.getfield 288, 3) := by decide +kernel
theorem dX12_empty_30 : decode cX12_empty 30 = .ok (.i2l, 1) := by decide +kernel
theorem dX12_empty_31 : decode cX12_empty 31 = .ok (.invokevirtual 371, 3) := by decide +kernel
theorem dX12_empty_34 : decode cX12_empty 34 = .ok (.aload_n 0, 1) := by decide +kernel
theorem dX12_empty_35 : decode cX12_empty 35 = .ok (.aload_n 0, 1) := by decide +kernel
theorem dX12_empty_36 : decode cX12_empty 36 = .ok (.getfield 279, 3) := by decide +kernel
theorem dX12_empty_39 : decode cX12_empty 39 = .ok (.i2l, 1) := by decide +kernel
theorem dX12_empty_40 : decode cX12_empty 40 = .ok (.invokevirtual 371, 3) := by decide +kernel
theorem dX12_empty_43 : decode cX12_empty 43 = .ok (.aload_n 0, 1) := by decide +kernel
theorem dX12_empty_44 : decode cX12_empty 44 = .ok (.aload_n 0, 1) := by decide +kernel
theorem dX12_empty_45 : decode cX12_empty 45 = .ok (.getfield 285, 3) := by decide +kernel
theorem dX12_empty_48 : decode cX12_empty 48 = .ok (.i2l, 1) := by decide +kernel
theorem dX12_empty_49 : decode cX12_empty 49 = .ok (.invokevirtual 371, 3) := by decide +kernel
theorem dX12_empty_52 : decode cX12_empty 52 = .ok (.aload_n 0, 1) := by decide +kernel
theorem dX12_empty_53 : decode cX12_empty 53 = .ok (.aload_n 0, 1) := by decide +kernel
theorem dX12_empty_54 : decode cX12_empty 54 = .ok (.aload_n 0, 1) := by decide +kernel
theorem dX12_empty_55 : decode cX12_empty 55 = .ok (.getfield 42, 3) := by decide +kernel
theorem dX12_empty_58 : decode cX12_empty 58 = .ok (.iload_n 1, 1) := by decide +kernel
theorem dX12_empty_59 : decode cX12_empty 59 = .ok (.invokevirtual 329, 3) := by decide +kernel
theorem dX12_empty_62 : decode cX12_empty 62 = .ok (.i2l, 1) := by decide +kernel
theorem dX12_empty_63 : decode cX12_empty 63 = .ok (.invokevirtual 371, 3) := by decide +kernel
theorem dX12_empty_66 : decode cX12_empty 66 = .ok (.aload_n 0, 1) := by decide +kernel
theorem dX12_empty_67 : decode cX12_empty 67 = .ok (.iload_n 3, 1) := by decide +kernel
theorem dX12_empty_68 : decode cX12_empty 68 = .ok (.invokevirtual 375, 3) := by decide +kernel
theorem dX12_empty_71 : decode cX12_empty 71 = .ok (.ireturn, 1) := by decide +kernel
theorem dX12_tip_0 : decode cX12_tip 0 = .ok (.aload_n 0, 1) := by decide +kernel
theorem dX12_tip_1 : decode cX12_tip 1 = .ok (.iconst 0, 1) := by decide +kernel
theorem dX12_tip_2 : decode cX12_tip 2 = .ok (.putfield 126, 3) := by decide +kernel
theorem dX12_tip_5 : decode cX12_tip 5 = .ok (.aload_n 0, 1) := by decide +kernel
theorem dX12_tip_6 : decode cX12_tip 6 = .ok (.invokevirtual 365, 3) := by decide +kernel
theorem dX12_tip_9 : decode cX12_tip 9 = .ok (.aload_n 0, 1) := by decide +kernel
theorem dX12_tip_10 : decode cX12_tip 10 = .ok (.aload_n 0, 1) := by decide +kernel
theorem dX12_tip_11 : decode cX12_tip 11 = .ok (.getfield 42, 3) := by decide +kernel
theorem dX12_tip_14 : decode cX12_tip 14 = .ok (.invokevirtual 378, 3) := by decide +kernel
theorem dX12_tip_17 : decode cX12_tip 17 = .ok (.istore_n 1, 1) := by decide +kernel
theorem dX12_tip_18 : decode cX12_tip 18 = .ok (.iload_n 1, 1) := by decide +kernel
theorem dX12_tip_19 : decode cX12_tip 19 = .ok (.ifCond .lt 17, 3) := by decide +kernel
theorem dX12_tip_22 : decode cX12_tip 22 = .ok (.aload_n 0, 1) := by decide +kernel
theorem dX12_tip_23 : decode cX12_tip 23 = .ok (.iconst 0, 1) := by decide +kernel
theorem dX12_tip_24 : decode cX12_tip 24 = .ok (.putfield 134, 3) := by decide +kernel
theorem dX12_tip_27 : decode cX12_tip 27 = .ok (.aload_n 0, 1) := by decide +kernel
theorem dX12_tip_28 : decode cX12_tip 28 = .ok (.aload_n 0, 1) := by decide +kernel
theorem dX12_tip_29 : decode cX12_tip 29 = .ok (.getfield 362, 3) := by decide +kernel
theorem dX12_tip_32 : decode cX12_tip 32 = .ok (.i2l, 1) := by decide +kernel
theorem dX12_tip_33 : decode cX12_tip 33 = .ok (.invokevirtual 371, 3) := by decide +kernel
theorem dX12_tip_36 : decode cX12_tip 36 = .ok (.aload_n 0, 1) := by decide +kernel
theorem dX12_tip_37 : decode cX12_tip 37 = .ok (.iload_n 1, 1) := by decide +kernel
theorem dX12_tip_38 : decode cX12_tip 38 = .ok (.invokevirtual 375, 3) := by decide +kernel
theorem dX12_tip_41 : decode cX12_tip 41 = .ok (.ireturn, 1) := by decide +kernel
theorem dX12_pause_0 : decode cX12_pause 0 = .ok (.aload_n 0, 1) := by decide +kernel
theorem dX12_pause_1 : decode cX12_pause 1 = .ok (.iconst 0, 1) := by decide +kernel
theorem dX12_pause_2 : decode cX12_pause 2 = .ok (.putfield 126, 3) := by decide +kernel
theorem dX12_pause_5 : decode cX12_pause 5 = .ok (.iload_n 1, 1) := by decide +kernel
theorem dX12_pause_6 : decode cX12_pause 6 = .ok (.i2l, 1) := by decide +kernel
theorem dX12_pause_7 : decode cX12_pause 7 = .ok (.lconst 0, 1) := by decide +kernel
theorem dX12_pause_8 : decode cX12_pause 8 = .ok (.ldc2_w 382, 3) := by decide +kernel
theorem dX12_pause_11 : decode cX12_pause 11 = .ok (.invokestatic 140, 3) := by decide +kernel
theorem dX12_pause_14 : decode cX12_pause 14 = .ok (.ifCond .ne 5, 3) := by decide +kernel
theorem dX12_pause_17 : decode cX12_pause 17 = .ok (.iconst (-1), 1) := by decide +kernel
theorem dX12_pause_18 : decode cX12_pause 18 = .ok (.ireturn, 1) := by decide +kernel
theorem dX12_pause_19 : decode cX12_pause 19 = .ok (.aload_n 0, 1) := by decide +kernel
theorem dX12_pause_20 : decode cX12_pause 20 = .ok (.invokevirtual 365, 3) := by decide +kernel
theorem dX12_pause_23 : decode cX12_pause 23 = .ok (.aload_n 0, 1) := by decide +kernel
theorem dX12_pause_24 : decode cX12_pause 24 = .ok (.getfield 42, 3) := by decide +kernel
theorem dX12_pause_27 : decode cX12_pause 27 = .ok (.bipush 98, 2) := by decide +kernel
theorem dX12_pause_29 : decode cX12_pause 29 = .ok (.dup2, 1) := by decide +kernel
theorem dX12_pause_30 : decode cX12_pause 30 = .ok (.iaload, 1) := by decide +kernel
theorem dX12_pause_31 : decode cX12_pause 31 = .ok (.iload_n 1, 1) := by decide +kernel
theorem dX12_pause_32 : decode cX12_pause 32 = .ok (.iadd, 1) := by decide +kernel
theorem dX12_pause_33 : decode cX12_pause 33 = .ok (.iastore, 1) := by decide +kernel
theorem dX12_pause_34 : decode cX12_pause 34 = .ok (.aload_n 0, 1) := by decide +kernel
theorem dX12_pause_35 : decode cX12_pause 35 = .ok (.aload_n 0, 1) := by decide +kernel
theorem dX12_pause_36 : decode cX12_pause 36 = .ok (.getfield 42, 3) := by decide +kernel
theorem dX12_pause_39 : decode cX12_pause 39 = .ok (.bipush 98, 2) := by decide +kernel
theorem dX12_pause_41 : decode cX12_pause 41 = .ok (.iaload, 1) := by decide +kernel
theorem dX12_pause_42 : decode cX12_pause 42 = .ok (.invokevirtual 340, 3) := by decide +kernel
theorem dX12_pause_45 : decode cX12_pause 45 = .ok (.ireturn, 1) := by decide +kernel
theorem dX12_allBy_0 : decode cX12_allBy 0 = .ok (.iconst 0, 1) := by decide +kernel
theorem dX12_allBy_1 : decode cX12_allBy 1 = .ok (.istore_n 2, 1) := by decide +kernel
theorem dX12_allBy_2 : decode cX12_allBy 2 = .ok (.iconst 0, 1) := by decide +kernel
theorem dX12_allBy_3 : decode cX12_allBy 3 = .ok (.istore_n 3, 1) := by decide +kernel
theorem dX12_allBy_4 : decode cX12_allBy 4 = .ok (.iload_n 3, 1) := by decide +kernel
theorem dX12_allBy_5 : decode cX12_allBy 5 = .ok (.bipush 96, 2) := by decide +kernel
theorem dX12_allBy_7 : decode cX12_allBy 7 = .ok (.if_icmp .ge 30, 3) := by decide +kernel
theorem dX12_allBy_10 : decode cX12_allBy 10 = .ok (.iload_n 2, 1) := by decide +kernel
theorem dX12_allBy_11 : decode cX12_allBy 11 = .ok (.aload_n 0, 1) := by decide +kernel
theorem dX12_allBy_12 : decode cX12_allBy 12 = .ok (.getfield 42, 3) := by decide +kernel
theorem dX12_allBy_15 : decode cX12_allBy 15 = .ok (.iload_n 3, 1) := by decide +kernel
theorem dX12_allBy_16 : decode cX12_allBy 16 = .ok (.iaload, 1) := by decide +kernel
theorem dX12_allBy_17 : decode cX12_allBy 17 = .ok (.iload_n 1, 1) := by decide +kernel
theorem dX12_allBy_18 : decode cX12_allBy 18 = .ok (.if_icmp .ne 7, 3) := by decide +kernel
theorem dX12_allBy_21 : decode cX12_allBy 21 = .ok (.iconst 1, 1) := by decide +kernel
theorem dX12_allBy_22 : decode cX12_allBy 22 = .ok (.goto 4, 3) := by decide +kernel
theorem dX12_allBy_25 : decode cX12_allBy 25 = .ok (.iconst 0, 1) := by decide +kernel
theorem dX12_allBy_26 : decode cX12_allBy 26 = .ok (.invokestatic 166, 3) := by decide +kernel
theorem dX12_allBy_29 : decode cX12_allBy 29 = .ok (.iadd, 1) := by decide +kernel
theorem dX12_allBy_30 : decode cX12_allBy 30 = .ok (.istore_n 2, 1) := by decide +kernel
theorem dX12_allBy_31 : decode cX12_allBy 31 = .ok (.iinc 3 1, 3) := by decide +kernel
theorem dX12_allBy_34 : decode cX12_allBy 34 = .ok (.goto (-30), 3) := by decide +kernel
theorem dX12_allBy_37 : decode cX12_allBy 37 = .ok (.iload_n 2, 1) := by decide +kernel
theorem dX12_allBy_38 : decode cX12_allBy 38 = .ok (.ireturn, 1) := by decide +kernel
theorem dX12_week_0 : decode cX12_week 0 = .ok (.aload_n 0, 1) := by decide +kernel
theorem dX12_week_1 : decode cX12_week 1 = .ok (.iconst 0, 1) := by decide +kernel
theorem dX12_week_2 : decode cX12_week 2 = .ok (.putfield 126, 3) := by decide +kernel
theorem dX12_week_5 : decode cX12_week 5 = .ok (.aload_n 0, 1) := by decide +kernel
theorem dX12_week_6 : decode cX12_week 6 = .ok (.invokevirtual 365, 3) := by decide +kernel
theorem dX12_week_9 : decode cX12_week 9 = .ok (.iconst 0, 1) := by decide +kernel
theorem dX12_week_10 : decode cX12_week 10 = .ok (.istore_n 1, 1) := by decide +kernel
theorem dX12_week_11 : decode cX12_week 11 = .ok (.iload_n 1, 1) := by decide +kernel
theorem dX12_week_12 : decode cX12_week 12 = .ok (.bipush 96, 2) := by decide +kernel
theorem dX12_week_14 : decode cX12_week 14 = .ok (.if_icmp .ge 29, 3) := by decide +kernel
theorem dX12_week_17 : decode cX12_week 17 = .ok (.aload_n 0, 1) := by decide +kernel
theorem dX12_week_18 : decode cX12_week 18 = .ok (.getfield 42, 3) := by decide +kernel
theorem dX12_week_21 : decode cX12_week 21 = .ok (.iload_n 1, 1) := by decide +kernel
theorem dX12_week_22 : decode cX12_week 22 = .ok (.aload_n 0, 1) := by decide +kernel
theorem dX12_week_23 : decode cX12_week 23 = .ok (.getfield 36, 3) := by decide +kernel
theorem dX12_week_26 : decode cX12_week 26 = .ok (.iload_n 1, 1) := by decide +kernel
theorem dX12_week_27 : decode cX12_week 27 = .ok (.iaload, 1) := by decide +kernel
theorem dX12_week_28 : decode cX12_week 28 = .ok (.ifCond .le 7, 3) := by decide +kernel
theorem dX12_week_31 : decode cX12_week 31 = .ok (.iconst 1, 1) := by decide +kernel
theorem dX12_week_32 : decode cX12_week 32 = .ok (.goto 4, 3) := by decide +kernel
theorem dX12_week_35 : decode cX12_week 35 = .ok (.iconst 0, 1) := by decide +kernel
theorem dX12_week_36 : decode cX12_week 36 = .ok (.iastore, 1) := by decide +kernel
theorem dX12_week_37 : decode cX12_week 37 = .ok (.iinc 1 1, 3) := by decide +kernel
theorem dX12_week_40 : decode cX12_week 40 = .ok (.goto (-29), 3) := by decide +kernel
theorem dX12_week_43 : decode cX12_week 43 = .ok (.aload_n 0, 1) := by decide +kernel
theorem dX12_week_44 : decode cX12_week 44 = .ok (.getfield 42, 3) := by decide +kernel
theorem dX12_week_47 : decode cX12_week 47 = .ok (.bipush 96, 2) := by decide +kernel
theorem dX12_week_49 : decode cX12_week 49 = .ok (.iconst 0, 1) := by decide +kernel
theorem dX12_week_50 : decode cX12_week 50 = .ok (.iastore, 1) := by decide +kernel
theorem dX12_week_51 : decode cX12_week 51 = .ok (.aload_n 0, 1) := by decide +kernel
theorem dX12_week_52 : decode cX12_week 52 = .ok (.getfield 42, 3) := by decide +kernel
theorem dX12_week_55 : decode cX12_week 55 = .ok (.bipush 97, 2) := by decide +kernel
theorem dX12_week_57 : decode cX12_week 57 = .ok (.iconst 0, 1) := by decide +kernel
theorem dX12_week_58 : decode cX12_week 58 = .ok (.iastore, 1) := by decide +kernel
theorem dX12_week_59 : decode cX12_week 59 = .ok (.aload_n 0, 1) := by decide +kernel
theorem dX12_week_60 : decode cX12_week 60 = .ok (.getfield 42, 3) := by decide +kernel
theorem dX12_week_63 : decode cX12_week 63 = .ok (.bipush 98, 2) := by decide +kernel
theorem dX12_week_65 : decode cX12_week 65 = .ok (.iconst 0, 1) := by decide +kernel
theorem dX12_week_66 : decode cX12_week 66 = .ok (.iastore, 1) := by decide +kernel
theorem dX12_week_67 : decode cX12_week 67 = .ok (.aload_n 0, 1) := by decide +kernel
theorem dX12_week_68 : decode cX12_week 68 = .ok (.aload_n 0, 1) := by decide +kernel
theorem dX12_week_69 : decode cX12_week 69 = .ok (.iconst 1, 1) := by decide +kernel
theorem dX12_week_70 : decode cX12_week 70 = .ok (.invokevirtual 384, 3) := by decide +kernel
theorem dX12_week_73 : decode cX12_week 73 = .ok (.invokevirtual 340, 3) := by decide +kernel
theorem dX12_week_76 : decode cX12_week 76 = .ok (.ireturn, 1) := by decide +kernel
theorem dX12_readsAct_0 : decode cX12_readsAct 0 = .ok (.aload_n 0, 1) := by decide +kernel
theorem dX12_readsAct_1 : decode cX12_readsAct 1 = .ok (.getfield 387, 3) := by decide +kernel
theorem dX12_readsAct_4 : decode cX12_readsAct 4 = .ok (.istore_n 1, 1) := by decide +kernel
theorem dX12_readsAct_5 : decode cX12_readsAct 5 = .ok (.aload_n 0, 1) := by decide +kernel
theorem dX12_readsAct_6 : decode cX12_readsAct 6 = .ok (.getfield 75, 3) := by decide +kernel
theorem dX12_readsAct_9 : decode cX12_readsAct 9 = .ok (.iload_n 1, 1) := by decide +kernel
theorem dX12_readsAct_10 : decode cX12_readsAct 10 = .ok (.aload_n 0, 1) := by decide +kernel
theorem dX12_readsAct_11 : decode cX12_readsAct 11 = .ok (.ldc_w 390, 3) := by decide +kernel
theorem dX12_readsAct_14 : decode cX12_readsAct 14 = .ok (.invokevirtual 207, 3) := by decide +kernel
theorem dX12_readsAct_17 : decode cX12_readsAct 17 = .ok (.iastore, 1) := by decide +kernel
theorem dX12_readsAct_18 : decode cX12_readsAct 18 = .ok (.aload_n 0, 1) := by decide +kernel
theorem dX12_readsAct_19 : decode cX12_readsAct 19 = .ok (.dup, 1) := by decide +kernel
theorem dX12_readsAct_20 : decode cX12_readsAct 20 = .ok (.getfield 387, 3) := by decide +kernel
theorem dX12_readsAct_23 : decode cX12_readsAct 23 = .ok (.iconst 1, 1) := by decide +kernel
theorem dX12_readsAct_24 : decode cX12_readsAct 24 = .ok (.iadd, 1) := by decide +kernel
theorem dX12_readsAct_25 : decode cX12_readsAct 25 = .ok (.putfield 387, 3) := by decide +kernel
theorem dX12_readsAct_28 : decode cX12_readsAct 28 = .ok (.aload_n 0, 1) := by decide +kernel
theorem dX12_readsAct_29 : decode cX12_readsAct 29 = .ok (.getfield 75, 3) := by decide +kernel
theorem dX12_readsAct_32 : decode cX12_readsAct 32 = .ok (.iload_n 1, 1) := by decide +kernel
theorem dX12_readsAct_33 : decode cX12_readsAct 33 = .ok (.iaload, 1) := by decide +kernel
theorem dX12_readsAct_34 : decode cX12_readsAct 34 = .ok (.ifCond .lt 13, 3) := by decide +kernel
theorem dX12_readsAct_37 : decode cX12_readsAct 37 = .ok (.aload_n 0, 1) := by decide +kernel
theorem dX12_readsAct_38 : decode cX12_readsAct 38 = .ok (.getfield 75, 3) := by decide +kernel
theorem dX12_readsAct_41 : decode cX12_readsAct 41 = .ok (.iload_n 1, 1) := by decide +kernel
theorem dX12_readsAct_42 : decode cX12_readsAct 42 = .ok (.iaload, 1) := by decide +kernel
theorem dX12_readsAct_43 : decode cX12_readsAct 43 = .ok (.iconst 2, 1) := by decide +kernel
theorem dX12_readsAct_44 : decode cX12_readsAct 44 = .ok (.if_icmp .ne 19, 3) := by decide +kernel
theorem dX12_readsAct_47 : decode cX12_readsAct 47 = .ok (.aload_n 0, 1) := by decide +kernel
theorem dX12_readsAct_48 : decode cX12_readsAct 48 = .ok (.getfield 75, 3) := by decide +kernel
theorem dX12_readsAct_51 : decode cX12_readsAct 51 = .ok (.iload_n 1, 1) := by decide +kernel
theorem dX12_readsAct_52 : decode cX12_readsAct 52 = .ok (.iaload, 1) := by decide +kernel
theorem dX12_readsAct_53 : decode cX12_readsAct 53 = .ok (.iconst 2, 1) := by decide +kernel
theorem dX12_readsAct_54 : decode cX12_readsAct 54 = .ok (.if_icmp .ne 7, 3) := by decide +kernel
theorem dX12_readsAct_57 : decode cX12_readsAct 57 = .ok (.iconst 1, 1) := by decide +kernel
theorem dX12_readsAct_58 : decode cX12_readsAct 58 = .ok (.goto 4, 3) := by decide +kernel
theorem dX12_readsAct_61 : decode cX12_readsAct 61 = .ok (.iconst 0, 1) := by decide +kernel
theorem dX12_readsAct_62 : decode cX12_readsAct 62 = .ok (.ireturn, 1) := by decide +kernel
theorem dX12_readsAct_63 : decode cX12_readsAct 63 = .ok (.aload_n 0, 1) := by decide +kernel
theorem dX12_readsAct_64 : decode cX12_readsAct 64 = .ok (.getfield 78, 3) := by decide +kernel
theorem dX12_readsAct_67 : decode cX12_readsAct 67 = .ok (.iload_n 1, 1) := by decide +kernel
theorem dX12_readsAct_68 : decode cX12_readsAct 68 = .ok (.aload_n 0, 1) := by decide +kernel
theorem dX12_readsAct_69 : decode cX12_readsAct 69 = .ok (.aload_n 0, 1) := by decide +kernel
theorem dX12_readsAct_70 : decode cX12_readsAct 70 = .ok (.getfield 75, 3) := by decide +kernel
theorem dX12_readsAct_73 : decode cX12_readsAct 73 = .ok (.iload_n 1, 1) := by decide +kernel
theorem dX12_readsAct_74 : decode cX12_readsAct 74 = .ok (.iaload, 1) := by decide +kernel
theorem dX12_readsAct_75 : decode cX12_readsAct 75 = .ok (.iconst 3, 1) := by decide +kernel
theorem dX12_readsAct_76 : decode cX12_readsAct 76 = .ok (.if_icmp .ne 7, 3) := by decide +kernel
theorem dX12_readsAct_79 : decode cX12_readsAct 79 = .ok (.iconst 4, 1) := by decide +kernel
theorem dX12_readsAct_80 : decode cX12_readsAct 80 = .ok (.goto 4, 3) := by decide +kernel
theorem dX12_readsAct_83 : decode cX12_readsAct 83 = .ok (.iconst 1, 1) := by decide +kernel
theorem dX12_readsAct_84 : decode cX12_readsAct 84 = .ok (.invokevirtual 198, 3) := by decide +kernel
theorem dX12_readsAct_87 : decode cX12_readsAct 87 = .ok (.iastore, 1) := by decide +kernel
theorem dX12_readsAct_88 : decode cX12_readsAct 88 = .ok (.aload_n 0, 1) := by decide +kernel
theorem dX12_readsAct_89 : decode cX12_readsAct 89 = .ok (.getfield 78, 3) := by decide +kernel
theorem dX12_readsAct_92 : decode cX12_readsAct 92 = .ok (.iload_n 1, 1) := by decide +kernel
theorem dX12_readsAct_93 : decode cX12_readsAct 93 = .ok (.iaload, 1) := by decide +kernel
theorem dX12_readsAct_94 : decode cX12_readsAct 94 = .ok (.ifCond .lt 13, 3) := by decide +kernel
theorem dX12_readsAct_97 : decode cX12_readsAct 97 = .ok (.aload_n 0, 1) := by decide +kernel
theorem dX12_readsAct_98 : decode cX12_readsAct 98 = .ok (.getfield 75, 3) := by decide +kernel
theorem dX12_readsAct_101 : decode cX12_readsAct 101 = .ok (.iload_n 1, 1) := by decide +kernel
theorem dX12_readsAct_102 : decode cX12_readsAct 102 = .ok (.iaload, 1) := by decide +kernel
theorem dX12_readsAct_103 : decode cX12_readsAct 103 = .ok (.iconst 1, 1) := by decide +kernel
theorem dX12_readsAct_104 : decode cX12_readsAct 104 = .ok (.if_icmp .eq 18, 3) := by decide +kernel
theorem dX12_readsAct_107 : decode cX12_readsAct 107 = .ok (.aload_n 0, 1) := by decide +kernel
theorem dX12_readsAct_108 : decode cX12_readsAct 108 = .ok (.getfield 78, 3) := by decide +kernel
theorem dX12_readsAct_111 : decode cX12_readsAct 111 = .ok (.iload_n 1, 1) := by decide +kernel
theorem dX12_readsAct_112 : decode cX12_readsAct 112 = .ok (.iaload, 1) := by decide +kernel
theorem dX12_readsAct_113 : decode cX12_readsAct 113 = .ok (.ifCond .lt 7, 3) := by decide +kernel
theorem dX12_readsAct_116 : decode cX12_readsAct 116 = .ok (.iconst 1, 1) := by decide +kernel
theorem dX12_readsAct_117 : decode cX12_readsAct 117 = .ok (.goto 4, 3) := by decide +kernel
theorem dX12_readsAct_120 : decode cX12_readsAct 120 = .ok (.iconst 0, 1) := by decide +kernel
theorem dX12_readsAct_121 : decode cX12_readsAct 121 = .ok (.ireturn, 1) := by decide +kernel
theorem dX12_readsAct_122 : decode cX12_readsAct 122 = .ok (.aload_n 0, 1) := by decide +kernel
theorem dX12_readsAct_123 : decode cX12_readsAct 123 = .ok (.getfield 81, 3) := by decide +kernel
theorem dX12_readsAct_126 : decode cX12_readsAct 126 = .ok (.iload_n 1, 1) := by decide +kernel
theorem dX12_readsAct_127 : decode cX12_readsAct 127 = .ok (.aload_n 0, 1) := by decide +kernel
theorem dX12_readsAct_128 : decode cX12_readsAct 128 = .ok (.ldc_w 392, 3) := by decide +kernel
theorem dX12_readsAct_131 : decode cX12_readsAct 131 = .ok (.invokevirtual 207, 3) := by decide +kernel
theorem dX12_readsAct_134 : decode cX12_readsAct 134 = .ok (.iastore, 1) := by decide +kernel
theorem dX12_readsAct_135 : decode cX12_readsAct 135 = .ok (.aload_n 0, 1) := by decide +kernel
theorem dX12_readsAct_136 : decode cX12_readsAct 136 = .ok (.getfield 81, 3) := by decide +kernel
theorem dX12_readsAct_139 : decode cX12_readsAct 139 = .ok (.iload_n 1, 1) := by decide +kernel
theorem dX12_readsAct_140 : decode cX12_readsAct 140 = .ok (.iaload, 1) := by decide +kernel
theorem dX12_readsAct_141 : decode cX12_readsAct 141 = .ok (.ifCond .lt 7, 3) := by decide +kernel
theorem dX12_readsAct_144 : decode cX12_readsAct 144 = .ok (.iconst 1, 1) := by decide +kernel
theorem dX12_readsAct_145 : decode cX12_readsAct 145 = .ok (.goto 4, 3) := by decide +kernel
theorem dX12_readsAct_148 : decode cX12_readsAct 148 = .ok (.iconst 0, 1) := by decide +kernel
theorem dX12_readsAct_149 : decode cX12_readsAct 149 = .ok (.ireturn, 1) := by decide +kernel
theorem dX12_does_0 : decode cX12_does 0 = .ok (.aload_n 0, 1) := by decide +kernel
theorem dX12_does_1 : decode cX12_does 1 = .ok (.getfield 78, 3) := by decide +kernel
theorem dX12_does_4 : decode cX12_does 4 = .ok (.iload_n 1, 1) := by decide +kernel
theorem dX12_does_5 : decode cX12_does 5 = .ok (.iaload, 1) := by decide +kernel
theorem dX12_does_6 : decode cX12_does 6 = .ok (.istore_n 2, 1) := by decide +kernel
theorem dX12_does_7 : decode cX12_does 7 = .ok (.aload_n 0, 1) := by decide +kernel
theorem dX12_does_8 : decode cX12_does 8 = .ok (.getfield 75, 3) := by decide +kernel
theorem dX12_does_11 : decode cX12_does 11 = .ok (.iload_n 1, 1) := by decide +kernel
theorem dX12_does_12 : decode cX12_does 12 = .ok (.iaload, 1) := by decide +kernel
theorem dX12_does_13 : decode cX12_does 13 = .ok (.tableswitch 116 0 2 #[27, 56, 99], 27) := by decide +kernel
theorem dX12_does_40 : decode cX12_does 40 = .ok (.aload_n 0, 1) := by decide +kernel
theorem dX12_does_41 : decode cX12_does 41 = .ok (.iload_n 2, 1) := by decide +kernel
theorem dX12_does_42 : decode cX12_does 42 = .ok (.invokevirtual 144, 3) := by decide +kernel
theorem dX12_does_45 : decode cX12_does 45 = .ok (.ifCond .eq 18, 3) := by decide +kernel
theorem dX12_does_48 : decode cX12_does 48 = .ok (.aload_n 0, 1) := by decide +kernel
theorem dX12_does_49 : decode cX12_does 49 = .ok (.aload_n 0, 1) := by decide +kernel
theorem dX12_does_50 : decode cX12_does 50 = .ok (.getfield 42, 3) := by decide +kernel
theorem dX12_does_53 : decode cX12_does 53 = .ok (.aload_n 0, 1) := by decide +kernel
theorem dX12_does_54 : decode cX12_does 54 = .ok (.getfield 13, 3) := by decide +kernel
theorem dX12_does_57 : decode cX12_does 57 = .ok (.iload_n 2, 1) := by decide +kernel
theorem dX12_does_58 : decode cX12_does 58 = .ok (.iaload, 1) := by decide +kernel
theorem dX12_does_59 : decode cX12_does 59 = .ok (.invokevirtual 359, 3) := by decide +kernel
theorem dX12_does_62 : decode cX12_does 62 = .ok (.pop, 1) := by decide +kernel
theorem dX12_does_63 : decode cX12_does 63 = .ok (.aload_n 0, 1) := by decide +kernel
theorem dX12_does_64 : decode cX12_does 64 = .ok (.iload_n 2, 1) := by decide +kernel
theorem dX12_does_65 : decode cX12_does 65 = .ok (.invokevirtual 144, 3) := by decide +kernel
theorem dX12_does_68 : decode cX12_does 68 = .ok (.ireturn, 1) := by decide +kernel
theorem dX12_does_69 : decode cX12_does 69 = .ok (.aload_n 0, 1) := by decide +kernel
theorem dX12_does_70 : decode cX12_does 70 = .ok (.iload_n 2, 1) := by decide +kernel
theorem dX12_does_71 : decode cX12_does 71 = .ok (.aload_n 0, 1) := by decide +kernel
theorem dX12_does_72 : decode cX12_does 72 = .ok (.getfield 81, 3) := by decide +kernel
theorem dX12_does_75 : decode cX12_does 75 = .ok (.iload_n 1, 1) := by decide +kernel
theorem dX12_does_76 : decode cX12_does 76 = .ok (.iaload, 1) := by decide +kernel
theorem dX12_does_77 : decode cX12_does 77 = .ok (.invokevirtual 368, 3) := by decide +kernel
theorem dX12_does_80 : decode cX12_does 80 = .ok (.ifCond .lt 7, 3) := by decide +kernel
theorem dX12_does_83 : decode cX12_does 83 = .ok (.iconst 1, 1) := by decide +kernel
theorem dX12_does_84 : decode cX12_does 84 = .ok (.goto 4, 3) := by decide +kernel
theorem dX12_does_87 : decode cX12_does 87 = .ok (.iconst 0, 1) := by decide +kernel
theorem dX12_does_88 : decode cX12_does 88 = .ok (.istore_n 3, 1) := by decide +kernel
theorem dX12_does_89 : decode cX12_does 89 = .ok (.aload_n 0, 1) := by decide +kernel
theorem dX12_does_90 : decode cX12_does 90 = .ok (.dup, 1) := by decide +kernel
theorem dX12_does_91 : decode cX12_does 91 = .ok (.getfield 394, 3) := by decide +kernel
theorem dX12_does_94 : decode cX12_does 94 = .ok (.iload_n 3, 1) := by decide +kernel
theorem dX12_does_95 : decode cX12_does 95 = .ok (.ifCond .eq 10, 3) := by decide +kernel
theorem dX12_does_98 : decode cX12_does 98 = .ok (.aload_n 0, 1) := by decide +kernel
theorem dX12_does_99 : decode cX12_does 99 = .ok (.getfield 288, 3) := by decide +kernel
theorem dX12_does_102 : decode cX12_does 102 = .ok (.goto 4, 3) := by decide +kernel
theorem dX12_does_105 : decode cX12_does 105 = .ok (.iconst 0, 1) := by decide +kernel
theorem dX12_does_106 : decode cX12_does 106 = .ok (.iadd, 1) := by decide +kernel
theorem dX12_does_107 : decode cX12_does 107 = .ok (.putfield 394, 3) := by decide +kernel
theorem dX12_does_110 : decode cX12_does 110 = .ok (.iload_n 3, 1) := by decide +kernel
theorem dX12_does_111 : decode cX12_does 111 = .ok (.ireturn, 1) := by decide +kernel
theorem dX12_does_112 : decode cX12_does 112 = .ok (.aload_n 0, 1) := by decide +kernel
theorem dX12_does_113 : decode cX12_does 113 = .ok (.aload_n 0, 1) := by decide +kernel
theorem dX12_does_114 : decode cX12_does 114 = .ok (.getfield 42, 3) := by decide +kernel
theorem dX12_does_117 : decode cX12_does 117 = .ok (.invokevirtual 378, 3) := by decide +kernel
theorem dX12_does_120 : decode cX12_does 120 = .ok (.ifCond .lt 7, 3) := by decide +kernel
theorem dX12_does_123 : decode cX12_does 123 = .ok (.iconst 1, 1) := by decide +kernel
theorem dX12_does_124 : decode cX12_does 124 = .ok (.goto 4, 3) := by decide +kernel
theorem dX12_does_127 : decode cX12_does 127 = .ok (.iconst 0, 1) := by decide +kernel
theorem dX12_does_128 : decode cX12_does 128 = .ok (.ireturn, 1) := by decide +kernel
theorem dX12_does_129 : decode cX12_does 129 = .ok (.aload_n 0, 1) := by decide +kernel
theorem dX12_does_130 : decode cX12_does 130 = .ok (.getfield 42, 3) := by decide +kernel
theorem dX12_does_133 : decode cX12_does 133 = .ok (.bipush 98, 2) := by decide +kernel
theorem dX12_does_135 : decode cX12_does 135 = .ok (.dup2, 1) := by decide +kernel
theorem dX12_does_136 : decode cX12_does 136 = .ok (.iaload, 1) := by decide +kernel
theorem dX12_does_137 : decode cX12_does 137 = .ok (.iload_n 2, 1) := by decide +kernel
theorem dX12_does_138 : decode cX12_does 138 = .ok (.iadd, 1) := by decide +kernel
theorem dX12_does_139 : decode cX12_does 139 = .ok (.iastore, 1) := by decide +kernel
theorem dX12_does_140 : decode cX12_does 140 = .ok (.iconst 1, 1) := by decide +kernel
theorem dX12_does_141 : decode cX12_does 141 = .ok (.ireturn, 1) := by decide +kernel
theorem dX12_round_0 : decode cX12_round 0 = .ok (.aload_n 0, 1) := by decide +kernel
theorem dX12_round_1 : decode cX12_round 1 = .ok (.iconst 0, 1) := by decide +kernel
theorem dX12_round_2 : decode cX12_round 2 = .ok (.putfield 126, 3) := by decide +kernel
theorem dX12_round_5 : decode cX12_round 5 = .ok (.aload_n 0, 1) := by decide +kernel
theorem dX12_round_6 : decode cX12_round 6 = .ok (.bipush 60, 2) := by decide +kernel
theorem dX12_round_8 : decode cX12_round 8 = .ok (.invokevirtual 210, 3) := by decide +kernel
theorem dX12_round_11 : decode cX12_round 11 = .ok (.istore_n 1, 1) := by decide +kernel
theorem dX12_round_12 : decode cX12_round 12 = .ok (.aload_n 0, 1) := by decide +kernel
theorem dX12_round_13 : decode cX12_round 13 = .ok (.iconst 0, 1) := by decide +kernel
theorem dX12_round_14 : decode cX12_round 14 = .ok (.putfield 387, 3) := by decide +kernel
theorem dX12_round_17 : decode cX12_round 17 = .ok (.iconst 1, 1) := by decide +kernel
theorem dX12_round_18 : decode cX12_round 18 = .ok (.istore_n 2, 1) := by decide +kernel
theorem dX12_round_19 : decode cX12_round 19 = .ok (.iload_n 1, 1) := by decide +kernel
theorem dX12_round_20 : decode cX12_round 20 = .ok (.ifCond .le 7, 3) := by decide +kernel
theorem dX12_round_23 : decode cX12_round 23 = .ok (.iconst 1, 1) := by decide +kernel
theorem dX12_round_24 : decode cX12_round 24 = .ok (.goto 4, 3) := by decide +kernel
theorem dX12_round_27 : decode cX12_round 27 = .ok (.iconst 0, 1) := by decide +kernel
theorem dX12_round_28 : decode cX12_round 28 = .ok (.istore_n 3, 1) := by decide +kernel
theorem dX12_round_29 : decode cX12_round 29 = .ok (.iload_n 3, 1) := by decide +kernel
theorem dX12_round_30 : decode cX12_round 30 = .ok (.ifCond .eq 30, 3) := by decide +kernel
theorem dX12_round_33 : decode cX12_round 33 = .ok (.aload_n 0, 1) := by decide +kernel
theorem dX12_round_34 : decode cX12_round 34 = .ok (.invokevirtual 397, 3) := by decide +kernel
theorem dX12_round_37 : decode cX12_round 37 = .ok (.istore_n 2, 1) := by decide +kernel
theorem dX12_round_38 : decode cX12_round 38 = .ok (.iload_n 2, 1) := by decide +kernel
theorem dX12_round_39 : decode cX12_round 39 = .ok (.ifCond .eq 16, 3) := by decide +kernel
theorem dX12_round_42 : decode cX12_round 42 = .ok (.aload_n 0, 1) := by decide +kernel
theorem dX12_round_43 : decode cX12_round 43 = .ok (.bipush 59, 2) := by decide +kernel
theorem dX12_round_45 : decode cX12_round 45 = .ok (.invokevirtual 195, 3) := by decide +kernel
theorem dX12_round_48 : decode cX12_round 48 = .ok (.ifCond .eq 7, 3) := by decide +kernel
theorem dX12_round_51 : decode cX12_round 51 = .ok (.iconst 1, 1) := by decide +kernel
theorem dX12_round_52 : decode cX12_round 52 = .ok (.goto 4, 3) := by decide +kernel
theorem dX12_round_55 : decode cX12_round 55 = .ok (.iconst 0, 1) := by decide +kernel
theorem dX12_round_56 : decode cX12_round 56 = .ok (.istore_n 3, 1) := by decide +kernel
theorem dX12_round_57 : decode cX12_round 57 = .ok (.goto (-28), 3) := by decide +kernel
theorem dX12_round_60 : decode cX12_round 60 = .ok (.aload_n 0, 1) := by decide +kernel
theorem dX12_round_61 : decode cX12_round 61 = .ok (.iload_n 1, 1) := by decide +kernel
theorem dX12_round_62 : decode cX12_round 62 = .ok (.bipush 60, 2) := by decide +kernel
theorem dX12_round_64 : decode cX12_round 64 = .ok (.iload_n 2, 1) := by decide +kernel
theorem dX12_round_65 : decode cX12_round 65 = .ok (.invokevirtual 216, 3) := by decide +kernel
theorem dX12_round_68 : decode cX12_round 68 = .ok (.istore 4, 2) := by decide +kernel
theorem dX12_round_70 : decode cX12_round 70 = .ok (.iload 4, 2) := by decide +kernel
theorem dX12_round_72 : decode cX12_round 72 = .ok (.ifCond .ge 6, 3) := by decide +kernel
theorem dX12_round_75 : decode cX12_round 75 = .ok (.iload 4, 2) := by decide +kernel
theorem dX12_round_77 : decode cX12_round 77 = .ok (.ireturn, 1) := by decide +kernel
theorem dX12_round_78 : decode cX12_round 78 = .ok (.aload_n 0, 1) := by decide +kernel
theorem dX12_round_79 : decode cX12_round 79 = .ok (.invokevirtual 365, 3) := by decide +kernel
theorem dX12_round_82 : decode cX12_round 82 = .ok (.aload_n 0, 1) := by decide +kernel
theorem dX12_round_83 : decode cX12_round 83 = .ok (.iconst 0, 1) := by decide +kernel
theorem dX12_round_84 : decode cX12_round 84 = .ok (.putfield 394, 3) := by decide +kernel
theorem dX12_round_87 : decode cX12_round 87 = .ok (.aload_n 0, 1) := by decide +kernel
theorem dX12_round_88 : decode cX12_round 88 = .ok (.getfield 42, 3) := by decide +kernel
theorem dX12_round_91 : decode cX12_round 91 = .ok (.bipush 98, 2) := by decide +kernel
theorem dX12_round_93 : decode cX12_round 93 = .ok (.iaload, 1) := by decide +kernel
theorem dX12_round_94 : decode cX12_round 94 = .ok (.istore 5, 2) := by decide +kernel
theorem dX12_round_96 : decode cX12_round 96 = .ok (.iconst 0, 1) := by decide +kernel
theorem dX12_round_97 : decode cX12_round 97 = .ok (.istore 6, 2) := by decide +kernel
theorem dX12_round_99 : decode cX12_round 99 = .ok (.iload 6, 2) := by decide +kernel
theorem dX12_round_101 : decode cX12_round 101 = .ok (.aload_n 0, 1) := by decide +kernel
theorem dX12_round_102 : decode cX12_round 102 = .ok (.getfield 387, 3) := by decide +kernel
theorem dX12_round_105 : decode cX12_round 105 = .ok (.if_icmp .ge 18, 3) := by decide +kernel
theorem dX12_round_108 : decode cX12_round 108 = .ok (.aload_n 0, 1) := by decide +kernel
theorem dX12_round_109 : decode cX12_round 109 = .ok (.iload 6, 2) := by decide +kernel
theorem dX12_round_111 : decode cX12_round 111 = .ok (.invokevirtual 400, 3) := by decide +kernel
theorem dX12_round_114 : decode cX12_round 114 = .ok (.ifCond .eq 9, 3) := by decide +kernel
theorem dX12_round_117 : decode cX12_round 117 = .ok (.iinc 6 1, 3) := by decide +kernel
theorem dX12_round_120 : decode cX12_round 120 = .ok (.goto (-21), 3) := by decide +kernel
theorem dX12_round_123 : decode cX12_round 123 = .ok (.aload_n 0, 1) := by decide +kernel
theorem dX12_round_124 : decode cX12_round 124 = .ok (.iconst 0, 1) := by decide +kernel
theorem dX12_round_125 : decode cX12_round 125 = .ok (.putfield 134, 3) := by decide +kernel
theorem dX12_round_128 : decode cX12_round 128 = .ok (.aload_n 0, 1) := by decide +kernel
theorem dX12_round_129 : decode cX12_round 129 = .ok (.iload 6, 2) := by decide +kernel
theorem dX12_round_131 : decode cX12_round 131 = .ok (.aload_n 0, 1) := by decide +kernel
theorem dX12_round_132 : decode cX12_round 132 = .ok (.getfield 387, 3) := by decide +kernel
theorem dX12_round_135 : decode cX12_round 135 = .ok (.if_icmp .ge 7, 3) := by decide +kernel
theorem dX12_round_138 : decode cX12_round 138 = .ok (.iconst 1, 1) := by decide +kernel
theorem dX12_round_139 : decode cX12_round 139 = .ok (.goto 4, 3) := by decide +kernel
theorem dX12_round_142 : decode cX12_round 142 = .ok (.iconst 0, 1) := by decide +kernel
theorem dX12_round_143 : decode cX12_round 143 = .ok (.invokestatic 166, 3) := by decide +kernel
theorem dX12_round_146 : decode cX12_round 146 = .ok (.i2l, 1) := by decide +kernel
theorem dX12_round_147 : decode cX12_round 147 = .ok (.invokevirtual 371, 3) := by decide +kernel
theorem dX12_round_150 : decode cX12_round 150 = .ok (.aload_n 0, 1) := by decide +kernel
theorem dX12_round_151 : decode cX12_round 151 = .ok (.aload_n 0, 1) := by decide +kernel
theorem dX12_round_152 : decode cX12_round 152 = .ok (.getfield 394, 3) := by decide +kernel
theorem dX12_round_155 : decode cX12_round 155 = .ok (.i2l, 1) := by decide +kernel
theorem dX12_round_156 : decode cX12_round 156 = .ok (.invokevirtual 371, 3) := by decide +kernel
theorem dX12_round_159 : decode cX12_round 159 = .ok (.aload_n 0, 1) := by decide +kernel
theorem dX12_round_160 : decode cX12_round 160 = .ok (.aload_n 0, 1) := by decide +kernel
theorem dX12_round_161 : decode cX12_round 161 = .ok (.getfield 42, 3) := by decide +kernel
theorem dX12_round_164 : decode cX12_round 164 = .ok (.bipush 98, 2) := by decide +kernel
theorem dX12_round_166 : decode cX12_round 166 = .ok (.iaload, 1) := by decide +kernel
theorem dX12_round_167 : decode cX12_round 167 = .ok (.iload 5, 2) := by decide +kernel
theorem dX12_round_169 : decode cX12_round 169 = .ok (.isub, 1) := by decide +kernel
theorem dX12_round_170 : decode cX12_round 170 = .ok (.i2l, 1) := by decide +kernel
theorem dX12_round_171 : decode cX12_round 171 = .ok (.invokevirtual 371, 3) := by decide +kernel
theorem dX12_round_174 : decode cX12_round 174 = .ok (.iload 6, 2) := by decide +kernel
theorem dX12_round_176 : decode cX12_round 176 = .ok (.ifCond .le 12, 3) := by decide +kernel
theorem dX12_round_179 : decode cX12_round 179 = .ok (.aload_n 0, 1) := by decide +kernel
theorem dX12_round_180 : decode cX12_round 180 = .ok (.iload 6, 2) := by decide +kernel
theorem dX12_round_182 : decode cX12_round 182 = .ok (.invokevirtual 340, 3) := by decide +kernel
theorem dX12_round_185 : decode cX12_round 185 = .ok (.goto 4, 3) := by decide +kernel
theorem dX12_round_188 : decode cX12_round 188 = .ok (.iconst 0, 1) := by decide +kernel
theorem dX12_round_189 : decode cX12_round 189 = .ok (.ireturn, 1) := by decide +kernel
theorem dX12_takes_0 : decode cX12_takes 0 = .ok (.aload_n 0, 1) := by decide +kernel
theorem dX12_takes_1 : decode cX12_takes 1 = .ok (.iconst 0, 1) := by decide +kernel
theorem dX12_takes_2 : decode cX12_takes 2 = .ok (.putfield 126, 3) := by decide +kernel
theorem dX12_takes_5 : decode cX12_takes 5 = .ok (.aload_n 0, 1) := by decide +kernel
theorem dX12_takes_6 : decode cX12_takes 6 = .ok (.iload_n 1, 1) := by decide +kernel
theorem dX12_takes_7 : decode cX12_takes 7 = .ok (.invokevirtual 144, 3) := by decide +kernel
theorem dX12_takes_10 : decode cX12_takes 10 = .ok (.ifCond .eq 15, 3) := by decide +kernel
theorem dX12_takes_13 : decode cX12_takes 13 = .ok (.iload_n 2, 1) := by decide +kernel
theorem dX12_takes_14 : decode cX12_takes 14 = .ok (.i2l, 1) := by decide +kernel
theorem dX12_takes_15 : decode cX12_takes 15 = .ok (.lconst 0, 1) := by decide +kernel
theorem dX12_takes_16 : decode cX12_takes 16 = .ok (.ldc2_w 346, 3) := by decide +kernel
theorem dX12_takes_19 : decode cX12_takes 19 = .ok (.invokestatic 140, 3) := by decide +kernel
theorem dX12_takes_22 : decode cX12_takes 22 = .ok (.ifCond .ne 5, 3) := by decide +kernel
theorem dX12_takes_25 : decode cX12_takes 25 = .ok (.iconst (-1), 1) := by decide +kernel
theorem dX12_takes_26 : decode cX12_takes 26 = .ok (.ireturn, 1) := by decide +kernel
theorem dX12_takes_27 : decode cX12_takes 27 = .ok (.aload_n 0, 1) := by decide +kernel
theorem dX12_takes_28 : decode cX12_takes 28 = .ok (.iload_n 1, 1) := by decide +kernel
theorem dX12_takes_29 : decode cX12_takes 29 = .ok (.invokevirtual 317, 3) := by decide +kernel
theorem dX12_takes_32 : decode cX12_takes 32 = .ok (.aload_n 0, 1) := by decide +kernel
theorem dX12_takes_33 : decode cX12_takes 33 = .ok (.aload_n 0, 1) := by decide +kernel
theorem dX12_takes_34 : decode cX12_takes 34 = .ok (.getfield 42, 3) := by decide +kernel
theorem dX12_takes_37 : decode cX12_takes 37 = .ok (.iload_n 1, 1) := by decide +kernel
theorem dX12_takes_38 : decode cX12_takes 38 = .ok (.iload_n 2, 1) := by decide +kernel
theorem dX12_takes_39 : decode cX12_takes 39 = .ok (.invokevirtual 311, 3) := by decide +kernel
theorem dX12_takes_42 : decode cX12_takes 42 = .ok (.istore_n 3, 1) := by decide +kernel
theorem dX12_takes_43 : decode cX12_takes 43 = .ok (.aload_n 0, 1) := by decide +kernel
theorem dX12_takes_44 : decode cX12_takes 44 = .ok (.iconst 0, 1) := by decide +kernel
theorem dX12_takes_45 : decode cX12_takes 45 = .ok (.putfield 134, 3) := by decide +kernel
theorem dX12_takes_48 : decode cX12_takes 48 = .ok (.aload_n 0, 1) := by decide +kernel
theorem dX12_takes_49 : decode cX12_takes 49 = .ok (.aload_n 0, 1) := by decide +kernel
theorem dX12_takes_50 : decode cX12_takes 50 = .ok (.getfield 282, 3) := by decide +kernel
theorem dX12_takes_53 : decode cX12_takes 53 = .ok (.i2l, 1) := by decide +kernel
theorem dX12_takes_54 : decode cX12_takes 54 = .ok (.invokevirtual 371, 3) := by decide +kernel
theorem dX12_takes_57 : decode cX12_takes 57 = .ok (.aload_n 0, 1) := by decide +kernel
theorem dX12_takes_58 : decode cX12_takes 58 = .ok (.aload_n 0, 1) := by decide +kernel
theorem dX12_takes_59 : decode cX12_takes 59 = .ok (.getfield 299, 3) := by decide +kernel
theorem dX12_takes_62 : decode cX12_takes 62 = .ok (.i2l, 1) := by decide +kernel
theorem dX12_takes_63 : decode cX12_takes 63 = .ok (.invokevirtual 371, 3) := by decide +kernel
theorem dX12_takes_66 : decode cX12_takes 66 = .ok (.iload_n 3, 1) := by decide +kernel
theorem dX12_takes_67 : decode cX12_takes 67 = .ok (.ireturn, 1) := by decide +kernel
theorem dX12_best_0 : decode cX12_best 0 = .ok (.aload_n 0, 1) := by decide +kernel
theorem dX12_best_1 : decode cX12_best 1 = .ok (.iconst 0, 1) := by decide +kernel
theorem dX12_best_2 : decode cX12_best 2 = .ok (.putfield 126, 3) := by decide +kernel
theorem dX12_best_5 : decode cX12_best 5 = .ok (.aload_n 0, 1) := by decide +kernel
theorem dX12_best_6 : decode cX12_best 6 = .ok (.iload_n 1, 1) := by decide +kernel
theorem dX12_best_7 : decode cX12_best 7 = .ok (.invokevirtual 144, 3) := by decide +kernel
theorem dX12_best_10 : decode cX12_best 10 = .ok (.ifCond .ne 5, 3) := by decide +kernel
theorem dX12_best_13 : decode cX12_best 13 = .ok (.iconst (-1), 1) := by decide +kernel
theorem dX12_best_14 : decode cX12_best 14 = .ok (.ireturn, 1) := by decide +kernel
theorem dX12_best_15 : decode cX12_best 15 = .ok (.aload_n 0, 1) := by decide +kernel
theorem dX12_best_16 : decode cX12_best 16 = .ok (.iload_n 1, 1) := by decide +kernel
theorem dX12_best_17 : decode cX12_best 17 = .ok (.invokevirtual 317, 3) := by decide +kernel
theorem dX12_best_20 : decode cX12_best 20 = .ok (.aload_n 0, 1) := by decide +kernel
theorem dX12_best_21 : decode cX12_best 21 = .ok (.iconst 0, 1) := by decide +kernel
theorem dX12_best_22 : decode cX12_best 22 = .ok (.putfield 134, 3) := by decide +kernel
theorem dX12_best_25 : decode cX12_best 25 = .ok (.iconst 0, 1) := by decide +kernel
theorem dX12_best_26 : decode cX12_best 26 = .ok (.istore_n 2, 1) := by decide +kernel
theorem dX12_best_27 : decode cX12_best 27 = .ok (.iload_n 2, 1) := by decide +kernel
theorem dX12_best_28 : decode cX12_best 28 = .ok (.iconst 3, 1) := by decide +kernel
theorem dX12_best_29 : decode cX12_best 29 = .ok (.if_icmp .ge 24, 3) := by decide +kernel
theorem dX12_best_32 : decode cX12_best 32 = .ok (.aload_n 0, 1) := by decide +kernel
theorem dX12_best_33 : decode cX12_best 33 = .ok (.aload_n 0, 1) := by decide +kernel
theorem dX12_best_34 : decode cX12_best 34 = .ok (.aload_n 0, 1) := by decide +kernel
theorem dX12_best_35 : decode cX12_best 35 = .ok (.getfield 42, 3) := by decide +kernel
theorem dX12_best_38 : decode cX12_best 38 = .ok (.iload_n 1, 1) := by decide +kernel
theorem dX12_best_39 : decode cX12_best 39 = .ok (.iload_n 2, 1) := by decide +kernel
theorem dX12_best_40 : decode cX12_best 40 = .ok (.invokevirtual 311, 3) := by decide +kernel
theorem dX12_best_43 : decode cX12_best 43 = .ok (.i2l, 1) := by decide +kernel
theorem dX12_best_44 : decode cX12_best 44 = .ok (.invokevirtual 371, 3) := by decide +kernel
theorem dX12_best_47 : decode cX12_best 47 = .ok (.iinc 2 1, 3) := by decide +kernel
theorem dX12_best_50 : decode cX12_best 50 = .ok (.goto (-23), 3) := by decide +kernel
theorem dX12_best_53 : decode cX12_best 53 = .ok (.aload_n 0, 1) := by decide +kernel
theorem dX12_best_54 : decode cX12_best 54 = .ok (.aload_n 0, 1) := by decide +kernel
theorem dX12_best_55 : decode cX12_best 55 = .ok (.getfield 42, 3) := by decide +kernel
theorem dX12_best_58 : decode cX12_best 58 = .ok (.iload_n 1, 1) := by decide +kernel
theorem dX12_best_59 : decode cX12_best 59 = .ok (.invokevirtual 320, 3) := by decide +kernel
theorem dX12_best_62 : decode cX12_best 62 = .ok (.pop, 1) := by decide +kernel
theorem dX12_best_63 : decode cX12_best 63 = .ok (.aload_n 0, 1) := by decide +kernel
theorem dX12_best_64 : decode cX12_best 64 = .ok (.getfield 314, 3) := by decide +kernel
theorem dX12_best_67 : decode cX12_best 67 = .ok (.ireturn, 1) := by decide +kernel
theorem dX12_less_0 : decode cX12_less 0 = .ok (.aload_n 0, 1) := by decide +kernel
theorem dX12_less_1 : decode cX12_less 1 = .ok (.iconst 0, 1) := by decide +kernel
theorem dX12_less_2 : decode cX12_less 2 = .ok (.putfield 126, 3) := by decide +kernel
theorem dX12_less_5 : decode cX12_less 5 = .ok (.aload_n 0, 1) := by decide +kernel
theorem dX12_less_6 : decode cX12_less 6 = .ok (.iload_n 1, 1) := by decide +kernel
theorem dX12_less_7 : decode cX12_less 7 = .ok (.invokevirtual 144, 3) := by decide +kernel
theorem dX12_less_10 : decode cX12_less 10 = .ok (.ifCond .ne 5, 3) := by decide +kernel
theorem dX12_less_13 : decode cX12_less 13 = .ok (.iconst (-1), 1) := by decide +kernel
theorem dX12_less_14 : decode cX12_less 14 = .ok (.ireturn, 1) := by decide +kernel
theorem dX12_less_15 : decode cX12_less 15 = .ok (.aload_n 0, 1) := by decide +kernel
theorem dX12_less_16 : decode cX12_less 16 = .ok (.getfield 39, 3) := by decide +kernel
theorem dX12_less_19 : decode cX12_less 19 = .ok (.iconst 1, 1) := by decide +kernel
theorem dX12_less_20 : decode cX12_less 20 = .ok (.iaload, 1) := by decide +kernel
theorem dX12_less_21 : decode cX12_less 21 = .ok (.iconst 1, 1) := by decide +kernel
theorem dX12_less_22 : decode cX12_less 22 = .ok (.if_icmp .ne 6, 3) := by decide +kernel
theorem dX12_less_25 : decode cX12_less 25 = .ok (.bipush (-2), 2) := by decide +kernel
theorem dX12_less_27 : decode cX12_less 27 = .ok (.ireturn, 1) := by decide +kernel
theorem dX12_less_28 : decode cX12_less 28 = .ok (.aload_n 0, 1) := by decide +kernel
theorem dX12_less_29 : decode cX12_less 29 = .ok (.iload_n 1, 1) := by decide +kernel
theorem dX12_less_30 : decode cX12_less 30 = .ok (.invokevirtual 403, 3) := by decide +kernel
theorem dX12_less_33 : decode cX12_less 33 = .ok (.istore_n 2, 1) := by decide +kernel
theorem dX12_less_34 : decode cX12_less 34 = .ok (.aload_n 0, 1) := by decide +kernel
theorem dX12_less_35 : decode cX12_less 35 = .ok (.aload_n 0, 1) := by decide +kernel
theorem dX12_less_36 : decode cX12_less 36 = .ok (.getfield 39, 3) := by decide +kernel
theorem dX12_less_39 : decode cX12_less 39 = .ok (.iconst 1, 1) := by decide +kernel
theorem dX12_less_40 : decode cX12_less 40 = .ok (.iaload, 1) := by decide +kernel
theorem dX12_less_41 : decode cX12_less 41 = .ok (.iconst 1, 1) := by decide +kernel
theorem dX12_less_42 : decode cX12_less 42 = .ok (.isub, 1) := by decide +kernel
theorem dX12_less_43 : decode cX12_less 43 = .ok (.putfield 269, 3) := by decide +kernel
theorem dX12_less_46 : decode cX12_less 46 = .ok (.aload_n 0, 1) := by decide +kernel
theorem dX12_less_47 : decode cX12_less 47 = .ok (.aload_n 0, 1) := by decide +kernel
theorem dX12_less_48 : decode cX12_less 48 = .ok (.getfield 42, 3) := by decide +kernel
theorem dX12_less_51 : decode cX12_less 51 = .ok (.iload_n 1, 1) := by decide +kernel
theorem dX12_less_52 : decode cX12_less 52 = .ok (.invokevirtual 320, 3) := by decide +kernel
theorem dX12_less_55 : decode cX12_less 55 = .ok (.istore_n 3, 1) := by decide +kernel
theorem dX12_less_56 : decode cX12_less 56 = .ok (.aload_n 0, 1) := by decide +kernel
theorem dX12_less_57 : decode cX12_less 57 = .ok (.iconst 0, 1) := by decide +kernel
theorem dX12_less_58 : decode cX12_less 58 = .ok (.putfield 134, 3) := by decide +kernel
theorem dX12_less_61 : decode cX12_less 61 = .ok (.aload_n 0, 1) := by decide +kernel
theorem dX12_less_62 : decode cX12_less 62 = .ok (.aload_n 0, 1) := by decide +kernel
theorem dX12_less_63 : decode cX12_less 63 = .ok (.getfield 314, 3) := by decide +kernel
theorem dX12_less_66 : decode cX12_less 66 = .ok (.i2l, 1) := by decide +kernel
theorem dX12_less_67 : decode cX12_less 67 = .ok (.invokevirtual 371, 3) := by decide +kernel
theorem dX12_less_70 : decode cX12_less 70 = .ok (.iload_n 3, 1) := by decide +kernel
theorem dX12_less_71 : decode cX12_less 71 = .ok (.iload_n 2, 1) := by decide +kernel
theorem dX12_less_72 : decode cX12_less 72 = .ok (.isub, 1) := by decide +kernel
theorem dX12_less_73 : decode cX12_less 73 = .ok (.ireturn, 1) := by decide +kernel
theorem dX12_laysNear_0 : decode cX12_laysNear 0 = .ok (.aload_n 0, 1) := by decide +kernel
theorem dX12_laysNear_1 : decode cX12_laysNear 1 = .ok (.getfield 42, 3) := by decide +kernel
theorem dX12_laysNear_4 : decode cX12_laysNear 4 = .ok (.aload_n 0, 1) := by decide +kernel
theorem dX12_laysNear_5 : decode cX12_laysNear 5 = .ok (.getfield 45, 3) := by decide +kernel
theorem dX12_laysNear_8 : decode cX12_laysNear 8 = .ok (.invokestatic 302, 3) := by decide +kernel
theorem dX12_laysNear_11 : decode cX12_laysNear 11 = .ok (.iload_n 2, 1) := by decide +kernel
theorem dX12_laysNear_12 : decode cX12_laysNear 12 = .ok (.istore_n 3, 1) := by decide +kernel
theorem dX12_laysNear_13 : decode cX12_laysNear 13 = .ok (.iload_n 3, 1) := by decide +kernel
theorem dX12_laysNear_14 : decode cX12_laysNear 14 = .ok (.aload_n 0, 1) := by decide +kernel
theorem dX12_laysNear_15 : decode cX12_laysNear 15 = .ok (.getfield 406, 3) := by decide +kernel
theorem dX12_laysNear_18 : decode cX12_laysNear 18 = .ok (.if_icmp .ge 21, 3) := by decide +kernel
theorem dX12_laysNear_21 : decode cX12_laysNear 21 = .ok (.aload_n 0, 1) := by decide +kernel
theorem dX12_laysNear_22 : decode cX12_laysNear 22 = .ok (.getfield 45, 3) := by decide +kernel
theorem dX12_laysNear_25 : decode cX12_laysNear 25 = .ok (.aload_n 0, 1) := by decide +kernel
theorem dX12_laysNear_26 : decode cX12_laysNear 26 = .ok (.getfield 84, 3) := by decide +kernel
theorem dX12_laysNear_29 : decode cX12_laysNear 29 = .ok (.iload_n 3, 1) := by decide +kernel
theorem dX12_laysNear_30 : decode cX12_laysNear 30 = .ok (.iaload, 1) := by decide +kernel
theorem dX12_laysNear_31 : decode cX12_laysNear 31 = .ok (.iconst 0, 1) := by decide +kernel
theorem dX12_laysNear_32 : decode cX12_laysNear 32 = .ok (.iastore, 1) := by decide +kernel
theorem dX12_laysNear_33 : decode cX12_laysNear 33 = .ok (.iinc 3 1, 3) := by decide +kernel
theorem dX12_laysNear_36 : decode cX12_laysNear 36 = .ok (.goto (-23), 3) := by decide +kernel
theorem dX12_laysNear_39 : decode cX12_laysNear 39 = .ok (.return_, 1) := by decide +kernel
theorem dX12_line_0 : decode cX12_line 0 = .ok (.aload_n 0, 1) := by decide +kernel
theorem dX12_line_1 : decode cX12_line 1 = .ok (.iconst 0, 1) := by decide +kernel
theorem dX12_line_2 : decode cX12_line 2 = .ok (.putfield 126, 3) := by decide +kernel
theorem dX12_line_5 : decode cX12_line 5 = .ok (.aload_n 0, 1) := by decide +kernel
theorem dX12_line_6 : decode cX12_line 6 = .ok (.iload_n 1, 1) := by decide +kernel
theorem dX12_line_7 : decode cX12_line 7 = .ok (.invokevirtual 144, 3) := by decide +kernel
theorem dX12_line_10 : decode cX12_line 10 = .ok (.ifCond .ne 5, 3) := by decide +kernel
theorem dX12_line_13 : decode cX12_line 13 = .ok (.iconst (-1), 1) := by decide +kernel
theorem dX12_line_14 : decode cX12_line 14 = .ok (.ireturn, 1) := by decide +kernel
theorem dX12_line_15 : decode cX12_line 15 = .ok (.aload_n 0, 1) := by decide +kernel
theorem dX12_line_16 : decode cX12_line 16 = .ok (.iload_n 1, 1) := by decide +kernel
theorem dX12_line_17 : decode cX12_line 17 = .ok (.invokevirtual 317, 3) := by decide +kernel
theorem dX12_line_20 : decode cX12_line 20 = .ok (.aload_n 0, 1) := by decide +kernel
theorem dX12_line_21 : decode cX12_line 21 = .ok (.iconst 0, 1) := by decide +kernel
theorem dX12_line_22 : decode cX12_line 22 = .ok (.putfield 406, 3) := by decide +kernel
theorem dX12_line_25 : decode cX12_line 25 = .ok (.iconst 0, 1) := by decide +kernel
theorem dX12_line_26 : decode cX12_line 26 = .ok (.istore_n 2, 1) := by decide +kernel
theorem dX12_line_27 : decode cX12_line 27 = .ok (.iload_n 2, 1) := by decide +kernel
theorem dX12_line_28 : decode cX12_line 28 = .ok (.aload_n 0, 1) := by decide +kernel
theorem dX12_line_29 : decode cX12_line 29 = .ok (.getfield 17, 3) := by decide +kernel
theorem dX12_line_32 : decode cX12_line 32 = .ok (.iload_n 1, 1) := by decide +kernel
theorem dX12_line_33 : decode cX12_line 33 = .ok (.iaload, 1) := by decide +kernel
theorem dX12_line_34 : decode cX12_line 34 = .ok (.if_icmp .ge 62, 3) := by decide +kernel
theorem dX12_line_37 : decode cX12_line 37 = .ok (.iconst 0, 1) := by decide +kernel
theorem dX12_line_38 : decode cX12_line 38 = .ok (.istore_n 3, 1) := by decide +kernel
theorem dX12_line_39 : decode cX12_line 39 = .ok (.iload_n 3, 1) := by decide +kernel
theorem dX12_line_40 : decode cX12_line 40 = .ok (.iconst 2, 1) := by decide +kernel
theorem dX12_line_41 : decode cX12_line 41 = .ok (.if_icmp .ge 49, 3) := by decide +kernel
theorem dX12_line_44 : decode cX12_line 44 = .ok (.aload_n 0, 1) := by decide +kernel
theorem dX12_line_45 : decode cX12_line 45 = .ok (.getfield 42, 3) := by decide +kernel
theorem dX12_line_48 : decode cX12_line 48 = .ok (.iload_n 1, 1) := by decide +kernel
theorem dX12_line_49 : decode cX12_line 49 = .ok (.iload_n 3, 1) := by decide +kernel
theorem dX12_line_50 : decode cX12_line 50 = .ok (.iload_n 2, 1) := by decide +kernel
theorem dX12_line_51 : decode cX12_line 51 = .ok (.invokestatic 202, 3) := by decide +kernel
theorem dX12_line_54 : decode cX12_line 54 = .ok (.iaload, 1) := by decide +kernel
theorem dX12_line_55 : decode cX12_line 55 = .ok (.iconst 1, 1) := by decide +kernel
theorem dX12_line_56 : decode cX12_line 56 = .ok (.if_icmp .ne 28, 3) := by decide +kernel
theorem dX12_line_59 : decode cX12_line 59 = .ok (.aload_n 0, 1) := by decide +kernel
theorem dX12_line_60 : decode cX12_line 60 = .ok (.getfield 84, 3) := by decide +kernel
theorem dX12_line_63 : decode cX12_line 63 = .ok (.aload_n 0, 1) := by decide +kernel
theorem dX12_line_64 : decode cX12_line 64 = .ok (.getfield 406, 3) := by decide +kernel
theorem dX12_line_67 : decode cX12_line 67 = .ok (.iload_n 1, 1) := by decide +kernel
theorem dX12_line_68 : decode cX12_line 68 = .ok (.iload_n 3, 1) := by decide +kernel
theorem dX12_line_69 : decode cX12_line 69 = .ok (.iload_n 2, 1) := by decide +kernel
theorem dX12_line_70 : decode cX12_line 70 = .ok (.invokestatic 202, 3) := by decide +kernel
theorem dX12_line_73 : decode cX12_line 73 = .ok (.iastore, 1) := by decide +kernel
theorem dX12_line_74 : decode cX12_line 74 = .ok (.aload_n 0, 1) := by decide +kernel
theorem dX12_line_75 : decode cX12_line 75 = .ok (.dup, 1) := by decide +kernel
theorem dX12_line_76 : decode cX12_line 76 = .ok (.getfield 406, 3) := by decide +kernel
theorem dX12_line_79 : decode cX12_line 79 = .ok (.iconst 1, 1) := by decide +kernel
theorem dX12_line_80 : decode cX12_line 80 = .ok (.iadd, 1) := by decide +kernel
theorem dX12_line_81 : decode cX12_line 81 = .ok (.putfield 406, 3) := by decide +kernel
theorem dX12_line_84 : decode cX12_line 84 = .ok (.iinc 3 1, 3) := by decide +kernel
theorem dX12_line_87 : decode cX12_line 87 = .ok (.goto (-48), 3) := by decide +kernel
theorem dX12_line_90 : decode cX12_line 90 = .ok (.iinc 2 1, 3) := by decide +kernel
theorem dX12_line_93 : decode cX12_line 93 = .ok (.goto (-66), 3) := by decide +kernel
theorem dX12_line_96 : decode cX12_line 96 = .ok (.iconst (-1), 1) := by decide +kernel
theorem dX12_line_97 : decode cX12_line 97 = .ok (.istore_n 2, 1) := by decide +kernel
theorem dX12_line_98 : decode cX12_line 98 = .ok (.iconst (-1), 1) := by decide +kernel
theorem dX12_line_99 : decode cX12_line 99 = .ok (.istore_n 3, 1) := by decide +kernel
theorem dX12_line_100 : decode cX12_line 100 = .ok (.iconst (-1), 1) := by decide +kernel
theorem dX12_line_101 : decode cX12_line 101 = .ok (.istore 4, 2) := by decide +kernel
theorem dX12_line_103 : decode cX12_line 103 = .ok (.iconst 1, 1) := by decide +kernel
theorem dX12_line_104 : decode cX12_line 104 = .ok (.istore 5, 2) := by decide +kernel
theorem dX12_line_106 : decode cX12_line 106 = .ok (.iconst 0, 1) := by decide +kernel
theorem dX12_line_107 : decode cX12_line 107 = .ok (.istore 6, 2) := by decide +kernel
theorem dX12_line_109 : decode cX12_line 109 = .ok (.iload 6, 2) := by decide +kernel
theorem dX12_line_111 : decode cX12_line 111 = .ok (.aload_n 0, 1) := by decide +kernel
theorem dX12_line_112 : decode cX12_line 112 = .ok (.getfield 406, 3) := by decide +kernel
theorem dX12_line_115 : decode cX12_line 115 = .ok (.if_icmp .gt 82, 3) := by decide +kernel
theorem dX12_line_118 : decode cX12_line 118 = .ok (.iload 5, 2) := by decide +kernel
theorem dX12_line_120 : decode cX12_line 120 = .ok (.ifCond .eq 77, 3) := by decide +kernel
theorem dX12_line_123 : decode cX12_line 123 = .ok (.aload_n 0, 1) := by decide +kernel
theorem dX12_line_124 : decode cX12_line 124 = .ok (.iload_n 1, 1) := by decide +kernel
theorem dX12_line_125 : decode cX12_line 125 = .ok (.iload 6, 2) := by decide +kernel
theorem dX12_line_127 : decode cX12_line 127 = .ok (.invokevirtual 409, 3) := by decide +kernel
theorem dX12_line_130 : decode cX12_line 130 = .ok (.aload_n 0, 1) := by decide +kernel
theorem dX12_line_131 : decode cX12_line 131 = .ok (.aload_n 0, 1) := by decide +kernel
theorem dX12_line_132 : decode cX12_line 132 = .ok (.getfield 45, 3) := by decide +kernel
theorem dX12_line_135 : decode cX12_line 135 = .ok (.iload_n 1, 1) := by decide +kernel
theorem dX12_line_136 : decode cX12_line 136 = .ok (.iconst 2, 1) := by decide +kernel
theorem dX12_line_137 : decode cX12_line 137 = .ok (.invokevirtual 311, 3) := by decide +kernel
theorem dX12_line_140 : decode cX12_line 140 = .ok (.istore_n 2, 1) := by decide +kernel
theorem dX12_line_141 : decode cX12_line 141 = .ok (.aload_n 0, 1) := by decide +kernel
theorem dX12_line_142 : decode cX12_line 142 = .ok (.aload_n 0, 1) := by decide +kernel
theorem dX12_line_143 : decode cX12_line 143 = .ok (.getfield 45, 3) := by decide +kernel
theorem dX12_line_146 : decode cX12_line 146 = .ok (.iload_n 1, 1) := by decide +kernel
theorem dX12_line_147 : decode cX12_line 147 = .ok (.iconst 0, 1) := by decide +kernel
theorem dX12_line_148 : decode cX12_line 148 = .ok (.invokevirtual 311, 3) := by decide +kernel
theorem dX12_line_151 : decode cX12_line 151 = .ok (.aload_n 0, 1) := by decide +kernel
theorem dX12_line_152 : decode cX12_line 152 = .ok (.aload_n 0, 1) := by decide +kernel
theorem dX12_line_153 : decode cX12_line 153 = .ok (.getfield 45, 3) := by decide +kernel
theorem dX12_line_156 : decode cX12_line 156 = .ok (.iload_n 1, 1) := by decide +kernel
theorem dX12_line_157 : decode cX12_line 157 = .ok (.iconst 1, 1) := by decide +kernel
theorem dX12_line_158 : decode cX12_line 158 = .ok (.invokevirtual 311, 3) := by decide +kernel
theorem dX12_line_161 : decode cX12_line 161 = .ok (.invokestatic 157, 3) := by decide +kernel
theorem dX12_line_164 : decode cX12_line 164 = .ok (.istore_n 3, 1) := by decide +kernel
theorem dX12_line_165 : decode cX12_line 165 = .ok (.iload_n 2, 1) := by decide +kernel
theorem dX12_line_166 : decode cX12_line 166 = .ok (.iload_n 3, 1) := by decide +kernel
theorem dX12_line_167 : decode cX12_line 167 = .ok (.if_icmp .gt 7, 3) := by decide +kernel
theorem dX12_line_170 : decode cX12_line 170 = .ok (.iconst 1, 1) := by decide +kernel
theorem dX12_line_171 : decode cX12_line 171 = .ok (.goto 4, 3) := by decide +kernel
theorem dX12_line_174 : decode cX12_line 174 = .ok (.iconst 0, 1) := by decide +kernel
theorem dX12_line_175 : decode cX12_line 175 = .ok (.istore 5, 2) := by decide +kernel
theorem dX12_line_177 : decode cX12_line 177 = .ok (.iload 5, 2) := by decide +kernel
theorem dX12_line_179 : decode cX12_line 179 = .ok (.ifCond .eq 8, 3) := by decide +kernel
theorem dX12_line_182 : decode cX12_line 182 = .ok (.iload 6, 2) := by decide +kernel
theorem dX12_line_184 : decode cX12_line 184 = .ok (.goto 5, 3) := by decide +kernel
theorem dX12_line_187 : decode cX12_line 187 = .ok (.iload 4, 2) := by decide +kernel
theorem dX12_line_189 : decode cX12_line 189 = .ok (.istore 4, 2) := by decide +kernel
theorem dX12_line_191 : decode cX12_line 191 = .ok (.iinc 6 1, 3) := by decide +kernel
theorem dX12_line_194 : decode cX12_line 194 = .ok (.goto (-85), 3) := by decide +kernel
theorem dX12_line_197 : decode cX12_line 197 = .ok (.aload_n 0, 1) := by decide +kernel
theorem dX12_line_198 : decode cX12_line 198 = .ok (.iconst 0, 1) := by decide +kernel
theorem dX12_line_199 : decode cX12_line 199 = .ok (.putfield 134, 3) := by decide +kernel
theorem dX12_line_202 : decode cX12_line 202 = .ok (.aload_n 0, 1) := by decide +kernel
theorem dX12_line_203 : decode cX12_line 203 = .ok (.iload 5, 2) := by decide +kernel
theorem dX12_line_205 : decode cX12_line 205 = .ok (.ifCond .eq 9, 3) := by decide +kernel
theorem dX12_line_208 : decode cX12_line 208 = .ok (.ldc2_w 412, 3) := by decide +kernel
theorem dX12_line_211 : decode cX12_line 211 = .ok (.goto 5, 3) := by decide +kernel
theorem dX12_line_214 : decode cX12_line 214 = .ok (.iload_n 3, 1) := by decide +kernel
theorem dX12_line_215 : decode cX12_line 215 = .ok (.i2l, 1) := by decide +kernel
theorem dX12_line_216 : decode cX12_line 216 = .ok (.invokevirtual 371, 3) := by decide +kernel
theorem dX12_line_219 : decode cX12_line 219 = .ok (.aload_n 0, 1) := by decide +kernel
theorem dX12_line_220 : decode cX12_line 220 = .ok (.iload 5, 2) := by decide +kernel
theorem dX12_line_222 : decode cX12_line 222 = .ok (.ifCond .eq 9, 3) := by decide +kernel
theorem dX12_line_225 : decode cX12_line 225 = .ok (.ldc2_w 412, 3) := by decide +kernel
theorem dX12_line_228 : decode cX12_line 228 = .ok (.goto 5, 3) := by decide +kernel
theorem dX12_line_231 : decode cX12_line 231 = .ok (.iload_n 2, 1) := by decide +kernel
theorem dX12_line_232 : decode cX12_line 232 = .ok (.i2l, 1) := by decide +kernel
theorem dX12_line_233 : decode cX12_line 233 = .ok (.invokevirtual 371, 3) := by decide +kernel
theorem dX12_line_236 : decode cX12_line 236 = .ok (.iload 4, 2) := by decide +kernel
theorem dX12_line_238 : decode cX12_line 238 = .ok (.ireturn, 1) := by decide +kernel
theorem dX12_hill_0 : decode cX12_hill 0 = .ok (.aload_n 0, 1) := by decide +kernel
theorem dX12_hill_1 : decode cX12_hill 1 = .ok (.iconst 0, 1) := by decide +kernel
theorem dX12_hill_2 : decode cX12_hill 2 = .ok (.putfield 126, 3) := by decide +kernel
theorem dX12_hill_5 : decode cX12_hill 5 = .ok (.aload_n 0, 1) := by decide +kernel
theorem dX12_hill_6 : decode cX12_hill 6 = .ok (.iload_n 1, 1) := by decide +kernel
theorem dX12_hill_7 : decode cX12_hill 7 = .ok (.invokevirtual 144, 3) := by decide +kernel
theorem dX12_hill_10 : decode cX12_hill 10 = .ok (.ifCond .ne 8, 3) := by decide +kernel
theorem dX12_hill_13 : decode cX12_hill 13 = .ok (.aload_n 0, 1) := by decide +kernel
theorem dX12_hill_14 : decode cX12_hill 14 = .ok (.invokevirtual 326, 3) := by decide +kernel
theorem dX12_hill_17 : decode cX12_hill 17 = .ok (.ireturn, 1) := by decide +kernel
theorem dX12_hill_18 : decode cX12_hill 18 = .ok (.aload_n 0, 1) := by decide +kernel
theorem dX12_hill_19 : decode cX12_hill 19 = .ok (.iload_n 1, 1) := by decide +kernel
theorem dX12_hill_20 : decode cX12_hill 20 = .ok (.invokevirtual 403, 3) := by decide +kernel
theorem dX12_hill_23 : decode cX12_hill 23 = .ok (.istore_n 2, 1) := by decide +kernel
theorem dX12_hill_24 : decode cX12_hill 24 = .ok (.aload_n 0, 1) := by decide +kernel
theorem dX12_hill_25 : decode cX12_hill 25 = .ok (.iconst (-1), 1) := by decide +kernel
theorem dX12_hill_26 : decode cX12_hill 26 = .ok (.putfield 266, 3) := by decide +kernel
theorem dX12_hill_29 : decode cX12_hill 29 = .ok (.iload_n 2, 1) := by decide +kernel
theorem dX12_hill_30 : decode cX12_hill 30 = .ok (.aload_n 0, 1) := by decide +kernel
theorem dX12_hill_31 : decode cX12_hill 31 = .ok (.aload_n 0, 1) := by decide +kernel
theorem dX12_hill_32 : decode cX12_hill 32 = .ok (.getfield 42, 3) := by decide +kernel
theorem dX12_hill_35 : decode cX12_hill 35 = .ok (.iload_n 1, 1) := by decide +kernel
theorem dX12_hill_36 : decode cX12_hill 36 = .ok (.invokevirtual 320, 3) := by decide +kernel
theorem dX12_hill_39 : decode cX12_hill 39 = .ok (.isub, 1) := by decide +kernel
theorem dX12_hill_40 : decode cX12_hill 40 = .ok (.ireturn, 1) := by decide +kernel
theorem dX12_wet_0 : decode cX12_wet 0 = .ok (.aload_n 0, 1) := by decide +kernel
theorem dX12_wet_1 : decode cX12_wet 1 = .ok (.iconst 0, 1) := by decide +kernel
theorem dX12_wet_2 : decode cX12_wet 2 = .ok (.putfield 126, 3) := by decide +kernel
theorem dX12_wet_5 : decode cX12_wet 5 = .ok (.aload_n 0, 1) := by decide +kernel
theorem dX12_wet_6 : decode cX12_wet 6 = .ok (.iload_n 1, 1) := by decide +kernel
theorem dX12_wet_7 : decode cX12_wet 7 = .ok (.invokevirtual 144, 3) := by decide +kernel
theorem dX12_wet_10 : decode cX12_wet 10 = .ok (.ifCond .eq 15, 3) := by decide +kernel
theorem dX12_wet_13 : decode cX12_wet 13 = .ok (.iload_n 2, 1) := by decide +kernel
theorem dX12_wet_14 : decode cX12_wet 14 = .ok (.i2l, 1) := by decide +kernel
theorem dX12_wet_15 : decode cX12_wet 15 = .ok (.lconst 0, 1) := by decide +kernel
theorem dX12_wet_16 : decode cX12_wet 16 = .ok (.ldc2_w 414, 3) := by decide +kernel
theorem dX12_wet_19 : decode cX12_wet 19 = .ok (.invokestatic 140, 3) := by decide +kernel
theorem dX12_wet_22 : decode cX12_wet 22 = .ok (.ifCond .ne 5, 3) := by decide +kernel
theorem dX12_wet_25 : decode cX12_wet 25 = .ok (.iconst (-1), 1) := by decide +kernel
theorem dX12_wet_26 : decode cX12_wet 26 = .ok (.ireturn, 1) := by decide +kernel
theorem dX12_wet_27 : decode cX12_wet 27 = .ok (.iconst 0, 1) := by decide +kernel
theorem dX12_wet_28 : decode cX12_wet 28 = .ok (.istore_n 3, 1) := by decide +kernel
theorem dX12_wet_29 : decode cX12_wet 29 = .ok (.iconst 0, 1) := by decide +kernel
theorem dX12_wet_30 : decode cX12_wet 30 = .ok (.istore 4, 2) := by decide +kernel
theorem dX12_wet_32 : decode cX12_wet 32 = .ok (.bipush 16, 2) := by decide +kernel
theorem dX12_wet_34 : decode cX12_wet 34 = .ok (.iload_n 1, 1) := by decide +kernel
theorem dX12_wet_35 : decode cX12_wet 35 = .ok (.imul, 1) := by decide +kernel
theorem dX12_wet_36 : decode cX12_wet 36 = .ok (.istore 5, 2) := by decide +kernel
theorem dX12_wet_38 : decode cX12_wet 38 = .ok (.iload 5, 2) := by decide +kernel
theorem dX12_wet_40 : decode cX12_wet 40 = .ok (.bipush 16, 2) := by decide +kernel
theorem dX12_wet_42 : decode cX12_wet 42 = .ok (.iload_n 1, 1) := by decide +kernel
theorem dX12_wet_43 : decode cX12_wet 43 = .ok (.iconst 1, 1) := by decide +kernel
theorem dX12_wet_44 : decode cX12_wet 44 = .ok (.iadd, 1) := by decide +kernel
theorem dX12_wet_45 : decode cX12_wet 45 = .ok (.imul, 1) := by decide +kernel
theorem dX12_wet_46 : decode cX12_wet 46 = .ok (.if_icmp .ge 67, 3) := by decide +kernel
theorem dX12_wet_49 : decode cX12_wet 49 = .ok (.aload_n 0, 1) := by decide +kernel
theorem dX12_wet_50 : decode cX12_wet 50 = .ok (.getfield 42, 3) := by decide +kernel
theorem dX12_wet_53 : decode cX12_wet 53 = .ok (.iload 5, 2) := by decide +kernel
theorem dX12_wet_55 : decode cX12_wet 55 = .ok (.iaload, 1) := by decide +kernel
theorem dX12_wet_56 : decode cX12_wet 56 = .ok (.iconst 1, 1) := by decide +kernel
theorem dX12_wet_57 : decode cX12_wet 57 = .ok (.if_icmp .ne 18, 3) := by decide +kernel
theorem dX12_wet_60 : decode cX12_wet 60 = .ok (.aload_n 0, 1) := by decide +kernel
theorem dX12_wet_61 : decode cX12_wet 61 = .ok (.aload_n 0, 1) := by decide +kernel
theorem dX12_wet_62 : decode cX12_wet 62 = .ok (.getfield 36, 3) := by decide +kernel
theorem dX12_wet_65 : decode cX12_wet 65 = .ok (.iload 5, 2) := by decide +kernel
theorem dX12_wet_67 : decode cX12_wet 67 = .ok (.iaload, 1) := by decide +kernel
theorem dX12_wet_68 : decode cX12_wet 68 = .ok (.iload_n 2, 1) := by decide +kernel
theorem dX12_wet_69 : decode cX12_wet 69 = .ok (.invokevirtual 260, 3) := by decide +kernel
theorem dX12_wet_72 : decode cX12_wet 72 = .ok (.goto 4, 3) := by decide +kernel
theorem dX12_wet_75 : decode cX12_wet 75 = .ok (.iconst 0, 1) := by decide +kernel
theorem dX12_wet_76 : decode cX12_wet 76 = .ok (.istore 6, 2) := by decide +kernel
theorem dX12_wet_78 : decode cX12_wet 78 = .ok (.iload_n 3, 1) := by decide +kernel
theorem dX12_wet_79 : decode cX12_wet 79 = .ok (.iload 6, 2) := by decide +kernel
theorem dX12_wet_81 : decode cX12_wet 81 = .ok (.iadd, 1) := by decide +kernel
theorem dX12_wet_82 : decode cX12_wet 82 = .ok (.istore_n 3, 1) := by decide +kernel
theorem dX12_wet_83 : decode cX12_wet 83 = .ok (.iload 4, 2) := by decide +kernel
theorem dX12_wet_85 : decode cX12_wet 85 = .ok (.iload 6, 2) := by decide +kernel
theorem dX12_wet_87 : decode cX12_wet 87 = .ok (.aload_n 0, 1) := by decide +kernel
theorem dX12_wet_88 : decode cX12_wet 88 = .ok (.getfield 39, 3) := by decide +kernel
theorem dX12_wet_91 : decode cX12_wet 91 = .ok (.iconst 4, 1) := by decide +kernel
theorem dX12_wet_92 : decode cX12_wet 92 = .ok (.iaload, 1) := by decide +kernel
theorem dX12_wet_93 : decode cX12_wet 93 = .ok (.if_icmp .le 7, 3) := by decide +kernel
theorem dX12_wet_96 : decode cX12_wet 96 = .ok (.iconst 1, 1) := by decide +kernel
theorem dX12_wet_97 : decode cX12_wet 97 = .ok (.goto 4, 3) := by decide +kernel
theorem dX12_wet_100 : decode cX12_wet 100 = .ok (.iconst 0, 1) := by decide +kernel
theorem dX12_wet_101 : decode cX12_wet 101 = .ok (.invokestatic 166, 3) := by decide +kernel
theorem dX12_wet_104 : decode cX12_wet 104 = .ok (.iadd, 1) := by decide +kernel
theorem dX12_wet_105 : decode cX12_wet 105 = .ok (.istore 4, 2) := by decide +kernel
theorem dX12_wet_107 : decode cX12_wet 107 = .ok (.iinc 5 1, 3) := by decide +kernel
theorem dX12_wet_110 : decode cX12_wet 110 = .ok (.goto (-72), 3) := by decide +kernel
theorem dX12_wet_113 : decode cX12_wet 113 = .ok (.aload_n 0, 1) := by decide +kernel
theorem dX12_wet_114 : decode cX12_wet 114 = .ok (.iconst 0, 1) := by decide +kernel
theorem dX12_wet_115 : decode cX12_wet 115 = .ok (.putfield 134, 3) := by decide +kernel
theorem dX12_wet_118 : decode cX12_wet 118 = .ok (.aload_n 0, 1) := by decide +kernel
theorem dX12_wet_119 : decode cX12_wet 119 = .ok (.iload 4, 2) := by decide +kernel
theorem dX12_wet_121 : decode cX12_wet 121 = .ok (.i2l, 1) := by decide +kernel
theorem dX12_wet_122 : decode cX12_wet 122 = .ok (.invokevirtual 371, 3) := by decide +kernel
theorem dX12_wet_125 : decode cX12_wet 125 = .ok (.iload_n 3, 1) := by decide +kernel
theorem dX12_wet_126 : decode cX12_wet 126 = .ok (.ireturn, 1) := by decide +kernel
theorem dX12_wouldLoad_0 : decode cX12_wouldLoad 0 = .ok (.iconst 0, 1) := by decide +kernel
theorem dX12_wouldLoad_1 : decode cX12_wouldLoad 1 = .ok (.istore_n 3, 1) := by decide +kernel
theorem dX12_wouldLoad_2 : decode cX12_wouldLoad 2 = .ok (.bipush 16, 2) := by decide +kernel
theorem dX12_wouldLoad_4 : decode cX12_wouldLoad 4 = .ok (.iload_n 2, 1) := by decide +kernel
theorem dX12_wouldLoad_5 : decode cX12_wouldLoad 5 = .ok (.imul, 1) := by decide +kernel
theorem dX12_wouldLoad_6 : decode cX12_wouldLoad 6 = .ok (.istore 4, 2) := by decide +kernel
theorem dX12_wouldLoad_8 : decode cX12_wouldLoad 8 = .ok (.iload 4, 2) := by decide +kernel
theorem dX12_wouldLoad_10 : decode cX12_wouldLoad 10 = .ok (.bipush 16, 2) := by decide +kernel
theorem dX12_wouldLoad_12 : decode cX12_wouldLoad 12 = .ok (.iload_n 2, 1) := by decide +kernel
theorem dX12_wouldLoad_13 : decode cX12_wouldLoad 13 = .ok (.iconst 1, 1) := by decide +kernel
theorem dX12_wouldLoad_14 : decode cX12_wouldLoad 14 = .ok (.iadd, 1) := by decide +kernel
theorem dX12_wouldLoad_15 : decode cX12_wouldLoad 15 = .ok (.imul, 1) := by decide +kernel
theorem dX12_wouldLoad_16 : decode cX12_wouldLoad 16 = .ok (.if_icmp .ge 45, 3) := by decide +kernel
theorem dX12_wouldLoad_19 : decode cX12_wouldLoad 19 = .ok (.iload_n 3, 1) := by decide +kernel
theorem dX12_wouldLoad_20 : decode cX12_wouldLoad 20 = .ok (.aload_n 1, 1) := by decide +kernel
theorem dX12_wouldLoad_21 : decode cX12_wouldLoad 21 = .ok (.iload 4, 2) := by decide +kernel
theorem dX12_wouldLoad_23 : decode cX12_wouldLoad 23 = .ok (.iaload, 1) := by decide +kernel
theorem dX12_wouldLoad_24 : decode cX12_wouldLoad 24 = .ok (.iconst 1, 1) := by decide +kernel
theorem dX12_wouldLoad_25 : decode cX12_wouldLoad 25 = .ok (.if_icmp .ne 27, 3) := by decide +kernel
theorem dX12_wouldLoad_28 : decode cX12_wouldLoad 28 = .ok (.aload_n 0, 1) := by decide +kernel
theorem dX12_wouldLoad_29 : decode cX12_wouldLoad 29 = .ok (.iload 4, 2) := by decide +kernel
theorem dX12_wouldLoad_31 : decode cX12_wouldLoad 31 = .ok (.invokevirtual 263, 3) := by decide +kernel
theorem dX12_wouldLoad_34 : decode cX12_wouldLoad 34 = .ok (.aload_n 0, 1) := by decide +kernel
theorem dX12_wouldLoad_35 : decode cX12_wouldLoad 35 = .ok (.getfield 39, 3) := by decide +kernel
theorem dX12_wouldLoad_38 : decode cX12_wouldLoad 38 = .ok (.iconst 4, 1) := by decide +kernel
theorem dX12_wouldLoad_39 : decode cX12_wouldLoad 39 = .ok (.iaload, 1) := by decide +kernel
theorem dX12_wouldLoad_40 : decode cX12_wouldLoad 40 = .ok (.if_icmp .gt 12, 3) := by decide +kernel
theorem dX12_wouldLoad_43 : decode cX12_wouldLoad 43 = .ok (.aload_n 0, 1) := by decide +kernel
theorem dX12_wouldLoad_44 : decode cX12_wouldLoad 44 = .ok (.iload 4, 2) := by decide +kernel
theorem dX12_wouldLoad_46 : decode cX12_wouldLoad 46 = .ok (.invokevirtual 263, 3) := by decide +kernel
theorem dX12_wouldLoad_49 : decode cX12_wouldLoad 49 = .ok (.goto 4, 3) := by decide +kernel
theorem dX12_wouldLoad_52 : decode cX12_wouldLoad 52 = .ok (.iconst 0, 1) := by decide +kernel
theorem dX12_wouldLoad_53 : decode cX12_wouldLoad 53 = .ok (.iadd, 1) := by decide +kernel
theorem dX12_wouldLoad_54 : decode cX12_wouldLoad 54 = .ok (.istore_n 3, 1) := by decide +kernel
theorem dX12_wouldLoad_55 : decode cX12_wouldLoad 55 = .ok (.iinc 4 1, 3) := by decide +kernel
theorem dX12_wouldLoad_58 : decode cX12_wouldLoad 58 = .ok (.goto (-50), 3) := by decide +kernel
theorem dX12_wouldLoad_61 : decode cX12_wouldLoad 61 = .ok (.iload_n 3, 1) := by decide +kernel
theorem dX12_wouldLoad_62 : decode cX12_wouldLoad 62 = .ok (.ireturn, 1) := by decide +kernel
theorem dX12_goesRound_0 : decode cX12_goesRound 0 = .ok (.aload_n 0, 1) := by decide +kernel
theorem dX12_goesRound_1 : decode cX12_goesRound 1 = .ok (.getfield 45, 3) := by decide +kernel
theorem dX12_goesRound_4 : decode cX12_goesRound 4 = .ok (.bipush 98, 2) := by decide +kernel
theorem dX12_goesRound_6 : decode cX12_goesRound 6 = .ok (.iaload, 1) := by decide +kernel
theorem dX12_goesRound_7 : decode cX12_goesRound 7 = .ok (.istore_n 1, 1) := by decide +kernel
theorem dX12_goesRound_8 : decode cX12_goesRound 8 = .ok (.aload_n 0, 1) := by decide +kernel
theorem dX12_goesRound_9 : decode cX12_goesRound 9 = .ok (.iconst 0, 1) := by decide +kernel
theorem dX12_goesRound_10 : decode cX12_goesRound 10 = .ok (.putfield 416, 3) := by decide +kernel
theorem dX12_goesRound_13 : decode cX12_goesRound 13 = .ok (.iconst 0, 1) := by decide +kernel
theorem dX12_goesRound_14 : decode cX12_goesRound 14 = .ok (.istore_n 2, 1) := by decide +kernel
theorem dX12_goesRound_15 : decode cX12_goesRound 15 = .ok (.iload_n 2, 1) := by decide +kernel
theorem dX12_goesRound_16 : decode cX12_goesRound 16 = .ok (.aload_n 0, 1) := by decide +kernel
theorem dX12_goesRound_17 : decode cX12_goesRound 17 = .ok (.getfield 419, 3) := by decide +kernel
theorem dX12_goesRound_20 : decode cX12_goesRound 20 = .ok (.if_icmp .ge 176, 3) := by decide +kernel
theorem dX12_goesRound_23 : decode cX12_goesRound 23 = .ok (.aload_n 0, 1) := by decide +kernel
theorem dX12_goesRound_24 : decode cX12_goesRound 24 = .ok (.getfield 87, 3) := by decide +kernel
theorem dX12_goesRound_27 : decode cX12_goesRound 27 = .ok (.iload_n 2, 1) := by decide +kernel
theorem dX12_goesRound_28 : decode cX12_goesRound 28 = .ok (.iaload, 1) := by decide +kernel
theorem dX12_goesRound_29 : decode cX12_goesRound 29 = .ok (.istore_n 3, 1) := by decide +kernel
theorem dX12_goesRound_30 : decode cX12_goesRound 30 = .ok (.aload_n 0, 1) := by decide +kernel
theorem dX12_goesRound_31 : decode cX12_goesRound 31 = .ok (.getfield 45, 3) := by decide +kernel
theorem dX12_goesRound_34 : decode cX12_goesRound 34 = .ok (.bipush 96, 2) := by decide +kernel
theorem dX12_goesRound_36 : decode cX12_goesRound 36 = .ok (.iaload, 1) := by decide +kernel
theorem dX12_goesRound_37 : decode cX12_goesRound 37 = .ok (.ifCond .le 54, 3) := by decide +kernel
theorem dX12_goesRound_40 : decode cX12_goesRound 40 = .ok (.aload_n 0, 1) := by decide +kernel
theorem dX12_goesRound_41 : decode cX12_goesRound 41 = .ok (.getfield 45, 3) := by decide +kernel
theorem dX12_goesRound_44 : decode cX12_goesRound 44 = .ok (.bipush 96, 2) := by decide +kernel
theorem dX12_goesRound_46 : decode cX12_goesRound 46 = .ok (.iaload, 1) := by decide +kernel
theorem dX12_goesRound_47 : decode cX12_goesRound 47 = .ok (.aload_n 0, 1) := by decide +kernel
theorem dX12_goesRound_48 : decode cX12_goesRound 48 = .ok (.aload_n 0, 1) := by decide +kernel
theorem dX12_goesRound_49 : decode cX12_goesRound 49 = .ok (.getfield 45, 3) := by decide +kernel
theorem dX12_goesRound_52 : decode cX12_goesRound 52 = .ok (.iload_n 3, 1) := by decide +kernel
theorem dX12_goesRound_53 : decode cX12_goesRound 53 = .ok (.invokevirtual 422, 3) := by decide +kernel
theorem dX12_goesRound_56 : decode cX12_goesRound 56 = .ok (.iadd, 1) := by decide +kernel
theorem dX12_goesRound_57 : decode cX12_goesRound 57 = .ok (.aload_n 0, 1) := by decide +kernel
theorem dX12_goesRound_58 : decode cX12_goesRound 58 = .ok (.getfield 39, 3) := by decide +kernel
theorem dX12_goesRound_61 : decode cX12_goesRound 61 = .ok (.iconst 0, 1) := by decide +kernel
theorem dX12_goesRound_62 : decode cX12_goesRound 62 = .ok (.iaload, 1) := by decide +kernel
theorem dX12_goesRound_63 : decode cX12_goesRound 63 = .ok (.if_icmp .le 28, 3) := by decide +kernel
theorem dX12_goesRound_66 : decode cX12_goesRound 66 = .ok (.aload_n 0, 1) := by decide +kernel
theorem dX12_goesRound_67 : decode cX12_goesRound 67 = .ok (.aload_n 0, 1) := by decide +kernel
theorem dX12_goesRound_68 : decode cX12_goesRound 68 = .ok (.getfield 45, 3) := by decide +kernel
theorem dX12_goesRound_71 : decode cX12_goesRound 71 = .ok (.invokevirtual 378, 3) := by decide +kernel
theorem dX12_goesRound_74 : decode cX12_goesRound 74 = .ok (.ifCond .ge 7, 3) := by decide +kernel
theorem dX12_goesRound_77 : decode cX12_goesRound 77 = .ok (.sipush (-200), 3) := by decide +kernel
theorem dX12_goesRound_80 : decode cX12_goesRound 80 = .ok (.ireturn, 1) := by decide +kernel
theorem dX12_goesRound_81 : decode cX12_goesRound 81 = .ok (.aload_n 0, 1) := by decide +kernel
theorem dX12_goesRound_82 : decode cX12_goesRound 82 = .ok (.dup, 1) := by decide +kernel
theorem dX12_goesRound_83 : decode cX12_goesRound 83 = .ok (.getfield 416, 3) := by decide +kernel
theorem dX12_goesRound_86 : decode cX12_goesRound 86 = .ok (.iconst 1, 1) := by decide +kernel
theorem dX12_goesRound_87 : decode cX12_goesRound 87 = .ok (.iadd, 1) := by decide +kernel
theorem dX12_goesRound_88 : decode cX12_goesRound 88 = .ok (.putfield 416, 3) := by decide +kernel
theorem dX12_goesRound_91 : decode cX12_goesRound 91 = .ok (.aload_n 0, 1) := by decide +kernel
theorem dX12_goesRound_92 : decode cX12_goesRound 92 = .ok (.aload_n 0, 1) := by decide +kernel
theorem dX12_goesRound_93 : decode cX12_goesRound 93 = .ok (.getfield 45, 3) := by decide +kernel
theorem dX12_goesRound_96 : decode cX12_goesRound 96 = .ok (.aload_n 0, 1) := by decide +kernel
theorem dX12_goesRound_97 : decode cX12_goesRound 97 = .ok (.getfield 13, 3) := by decide +kernel
theorem dX12_goesRound_100 : decode cX12_goesRound 100 = .ok (.iload_n 3, 1) := by decide +kernel
theorem dX12_goesRound_101 : decode cX12_goesRound 101 = .ok (.iaload, 1) := by decide +kernel
theorem dX12_goesRound_102 : decode cX12_goesRound 102 = .ok (.invokevirtual 359, 3) := by decide +kernel
theorem dX12_goesRound_105 : decode cX12_goesRound 105 = .ok (.pop, 1) := by decide +kernel
theorem dX12_goesRound_106 : decode cX12_goesRound 106 = .ok (.aload_n 0, 1) := by decide +kernel
theorem dX12_goesRound_107 : decode cX12_goesRound 107 = .ok (.getfield 45, 3) := by decide +kernel
theorem dX12_goesRound_110 : decode cX12_goesRound 110 = .ok (.bipush 98, 2) := by decide +kernel
theorem dX12_goesRound_112 : decode cX12_goesRound 112 = .ok (.aload_n 0, 1) := by decide +kernel
theorem dX12_goesRound_113 : decode cX12_goesRound 113 = .ok (.aload_n 0, 1) := by decide +kernel
theorem dX12_goesRound_114 : decode cX12_goesRound 114 = .ok (.getfield 45, 3) := by decide +kernel
theorem dX12_goesRound_117 : decode cX12_goesRound 117 = .ok (.iload_n 3, 1) := by decide +kernel
theorem dX12_goesRound_118 : decode cX12_goesRound 118 = .ok (.invokevirtual 348, 3) := by decide +kernel
theorem dX12_goesRound_121 : decode cX12_goesRound 121 = .ok (.ifCond .eq 17, 3) := by decide +kernel
theorem dX12_goesRound_124 : decode cX12_goesRound 124 = .ok (.bipush 60, 2) := by decide +kernel
theorem dX12_goesRound_126 : decode cX12_goesRound 126 = .ok (.aload_n 0, 1) := by decide +kernel
theorem dX12_goesRound_127 : decode cX12_goesRound 127 = .ok (.getfield 33, 3) := by decide +kernel
theorem dX12_goesRound_130 : decode cX12_goesRound 130 = .ok (.iload_n 3, 1) := by decide +kernel
theorem dX12_goesRound_131 : decode cX12_goesRound 131 = .ok (.iaload, 1) := by decide +kernel
theorem dX12_goesRound_132 : decode cX12_goesRound 132 = .ok (.iconst 1, 1) := by decide +kernel
theorem dX12_goesRound_133 : decode cX12_goesRound 133 = .ok (.iadd, 1) := by decide +kernel
theorem dX12_goesRound_134 : decode cX12_goesRound 134 = .ok (.imul, 1) := by decide +kernel
theorem dX12_goesRound_135 : decode cX12_goesRound 135 = .ok (.goto 10, 3) := by decide +kernel
theorem dX12_goesRound_138 : decode cX12_goesRound 138 = .ok (.aload_n 0, 1) := by decide +kernel
theorem dX12_goesRound_139 : decode cX12_goesRound 139 = .ok (.getfield 45, 3) := by decide +kernel
theorem dX12_goesRound_142 : decode cX12_goesRound 142 = .ok (.bipush 98, 2) := by decide +kernel
theorem dX12_goesRound_144 : decode cX12_goesRound 144 = .ok (.iaload, 1) := by decide +kernel
theorem dX12_goesRound_145 : decode cX12_goesRound 145 = .ok (.iastore, 1) := by decide +kernel
theorem dX12_goesRound_146 : decode cX12_goesRound 146 = .ok (.aload_n 0, 1) := by decide +kernel
theorem dX12_goesRound_147 : decode cX12_goesRound 147 = .ok (.iload_n 3, 1) := by decide +kernel
theorem dX12_goesRound_148 : decode cX12_goesRound 148 = .ok (.invokevirtual 317, 3) := by decide +kernel
theorem dX12_goesRound_151 : decode cX12_goesRound 151 = .ok (.aload_n 0, 1) := by decide +kernel
theorem dX12_goesRound_152 : decode cX12_goesRound 152 = .ok (.aload_n 0, 1) := by decide +kernel
theorem dX12_goesRound_153 : decode cX12_goesRound 153 = .ok (.getfield 45, 3) := by decide +kernel
theorem dX12_goesRound_156 : decode cX12_goesRound 156 = .ok (.iload_n 3, 1) := by decide +kernel
theorem dX12_goesRound_157 : decode cX12_goesRound 157 = .ok (.invokevirtual 320, 3) := by decide +kernel
theorem dX12_goesRound_160 : decode cX12_goesRound 160 = .ok (.pop, 1) := by decide +kernel
theorem dX12_goesRound_161 : decode cX12_goesRound 161 = .ok (.aload_n 0, 1) := by decide +kernel
theorem dX12_goesRound_162 : decode cX12_goesRound 162 = .ok (.getfield 45, 3) := by decide +kernel
theorem dX12_goesRound_165 : decode cX12_goesRound 165 = .ok (.bipush 98, 2) := by decide +kernel
theorem dX12_goesRound_167 : decode cX12_goesRound 167 = .ok (.dup2, 1) := by decide +kernel
theorem dX12_goesRound_168 : decode cX12_goesRound 168 = .ok (.iaload, 1) := by decide +kernel
theorem dX12_goesRound_169 : decode cX12_goesRound 169 = .ok (.aload_n 0, 1) := by decide +kernel
theorem dX12_goesRound_170 : decode cX12_goesRound 170 = .ok (.aload_n 0, 1) := by decide +kernel
theorem dX12_goesRound_171 : decode cX12_goesRound 171 = .ok (.getfield 45, 3) := by decide +kernel
theorem dX12_goesRound_174 : decode cX12_goesRound 174 = .ok (.iload_n 3, 1) := by decide +kernel
theorem dX12_goesRound_175 : decode cX12_goesRound 175 = .ok (.aload_n 0, 1) := by decide +kernel
theorem dX12_goesRound_176 : decode cX12_goesRound 176 = .ok (.getfield 314, 3) := by decide +kernel
theorem dX12_goesRound_179 : decode cX12_goesRound 179 = .ok (.aload_n 0, 1) := by decide +kernel
theorem dX12_goesRound_180 : decode cX12_goesRound 180 = .ok (.getfield 39, 3) := by decide +kernel
theorem dX12_goesRound_183 : decode cX12_goesRound 183 = .ok (.iconst 0, 1) := by decide +kernel
theorem dX12_goesRound_184 : decode cX12_goesRound 184 = .ok (.iaload, 1) := by decide +kernel
theorem dX12_goesRound_185 : decode cX12_goesRound 185 = .ok (.invokevirtual 307, 3) := by decide +kernel
theorem dX12_goesRound_188 : decode cX12_goesRound 188 = .ok (.iadd, 1) := by decide +kernel
theorem dX12_goesRound_189 : decode cX12_goesRound 189 = .ok (.iastore, 1) := by decide +kernel
theorem dX12_goesRound_190 : decode cX12_goesRound 190 = .ok (.iinc 2 1, 3) := by decide +kernel
theorem dX12_goesRound_193 : decode cX12_goesRound 193 = .ok (.goto (-178), 3) := by decide +kernel
theorem dX12_goesRound_196 : decode cX12_goesRound 196 = .ok (.aload_n 0, 1) := by decide +kernel
theorem dX12_goesRound_197 : decode cX12_goesRound 197 = .ok (.aload_n 0, 1) := by decide +kernel
theorem dX12_goesRound_198 : decode cX12_goesRound 198 = .ok (.getfield 45, 3) := by decide +kernel
theorem dX12_goesRound_201 : decode cX12_goesRound 201 = .ok (.invokevirtual 378, 3) := by decide +kernel
theorem dX12_goesRound_204 : decode cX12_goesRound 204 = .ok (.ifCond .ge 7, 3) := by decide +kernel
theorem dX12_goesRound_207 : decode cX12_goesRound 207 = .ok (.sipush (-200), 3) := by decide +kernel
theorem dX12_goesRound_210 : decode cX12_goesRound 210 = .ok (.ireturn, 1) := by decide +kernel
theorem dX12_goesRound_211 : decode cX12_goesRound 211 = .ok (.aload_n 0, 1) := by decide +kernel
theorem dX12_goesRound_212 : decode cX12_goesRound 212 = .ok (.dup, 1) := by decide +kernel
theorem dX12_goesRound_213 : decode cX12_goesRound 213 = .ok (.getfield 416, 3) := by decide +kernel
theorem dX12_goesRound_216 : decode cX12_goesRound 216 = .ok (.iconst 1, 1) := by decide +kernel
theorem dX12_goesRound_217 : decode cX12_goesRound 217 = .ok (.iadd, 1) := by decide +kernel
theorem dX12_goesRound_218 : decode cX12_goesRound 218 = .ok (.putfield 416, 3) := by decide +kernel
theorem dX12_goesRound_221 : decode cX12_goesRound 221 = .ok (.aload_n 0, 1) := by decide +kernel
theorem dX12_goesRound_222 : decode cX12_goesRound 222 = .ok (.getfield 45, 3) := by decide +kernel
theorem dX12_goesRound_225 : decode cX12_goesRound 225 = .ok (.bipush 98, 2) := by decide +kernel
theorem dX12_goesRound_227 : decode cX12_goesRound 227 = .ok (.iaload, 1) := by decide +kernel
theorem dX12_goesRound_228 : decode cX12_goesRound 228 = .ok (.iload_n 1, 1) := by decide +kernel
theorem dX12_goesRound_229 : decode cX12_goesRound 229 = .ok (.isub, 1) := by decide +kernel
theorem dX12_goesRound_230 : decode cX12_goesRound 230 = .ok (.ireturn, 1) := by decide +kernel
theorem dX12_order_0 : decode cX12_order 0 = .ok (.aload_n 0, 1) := by decide +kernel
theorem dX12_order_1 : decode cX12_order 1 = .ok (.iconst 0, 1) := by decide +kernel
theorem dX12_order_2 : decode cX12_order 2 = .ok (.putfield 126, 3) := by decide +kernel
theorem dX12_order_5 : decode cX12_order 5 = .ok (.aload_n 0, 1) := by decide +kernel
theorem dX12_order_6 : decode cX12_order 6 = .ok (.bipush 80, 2) := by decide +kernel
theorem dX12_order_8 : decode cX12_order 8 = .ok (.invokevirtual 210, 3) := by decide +kernel
theorem dX12_order_11 : decode cX12_order 11 = .ok (.pop, 1) := by decide +kernel
theorem dX12_order_12 : decode cX12_order 12 = .ok (.aload_n 0, 1) := by decide +kernel
theorem dX12_order_13 : decode cX12_order 13 = .ok (.iconst 0, 1) := by decide +kernel
theorem dX12_order_14 : decode cX12_order 14 = .ok (.putfield 419, 3) := by decide +kernel
theorem dX12_order_17 : decode cX12_order 17 = .ok (.iconst 0, 1) := by decide +kernel
theorem dX12_order_18 : decode cX12_order 18 = .ok (.istore_n 1, 1) := by decide +kernel
theorem dX12_order_19 : decode cX12_order 19 = .ok (.iconst 1, 1) := by decide +kernel
theorem dX12_order_20 : decode cX12_order 20 = .ok (.istore_n 2, 1) := by decide +kernel
theorem dX12_order_21 : decode cX12_order 21 = .ok (.iload_n 2, 1) := by decide +kernel
theorem dX12_order_22 : decode cX12_order 22 = .ok (.ifCond .eq 101, 3) := by decide +kernel
theorem dX12_order_25 : decode cX12_order 25 = .ok (.aload_n 0, 1) := by decide +kernel
theorem dX12_order_26 : decode cX12_order 26 = .ok (.invokevirtual 188, 3) := by decide +kernel
theorem dX12_order_29 : decode cX12_order 29 = .ok (.ifCond .eq 18, 3) := by decide +kernel
theorem dX12_order_32 : decode cX12_order 32 = .ok (.aload_n 0, 1) := by decide +kernel
theorem dX12_order_33 : decode cX12_order 33 = .ok (.getfield 48, 3) := by decide +kernel
theorem dX12_order_36 : decode cX12_order 36 = .ok (.aload_n 0, 1) := by decide +kernel
theorem dX12_order_37 : decode cX12_order 37 = .ok (.getfield 151, 3) := by decide +kernel
theorem dX12_order_40 : decode cX12_order 40 = .ok (.iaload, 1) := by decide +kernel
theorem dX12_order_41 : decode cX12_order 41 = .ok (.bipush 48, 2) := by decide +kernel
theorem dX12_order_43 : decode cX12_order 43 = .ok (.isub, 1) := by decide +kernel
theorem dX12_order_44 : decode cX12_order 44 = .ok (.goto 4, 3) := by decide +kernel
theorem dX12_order_47 : decode cX12_order 47 = .ok (.iconst (-1), 1) := by decide +kernel
theorem dX12_order_48 : decode cX12_order 48 = .ok (.istore_n 3, 1) := by decide +kernel
theorem dX12_order_49 : decode cX12_order 49 = .ok (.aload_n 0, 1) := by decide +kernel
theorem dX12_order_50 : decode cX12_order 50 = .ok (.getfield 419, 3) := by decide +kernel
theorem dX12_order_53 : decode cX12_order 53 = .ok (.bipush 6, 2) := by decide +kernel
theorem dX12_order_55 : decode cX12_order 55 = .ok (.if_icmp .ge 23, 3) := by decide +kernel
theorem dX12_order_58 : decode cX12_order 58 = .ok (.aload_n 0, 1) := by decide +kernel
theorem dX12_order_59 : decode cX12_order 59 = .ok (.iload_n 3, 1) := by decide +kernel
