theorem dX0_init_0 : decode cX0_init 0 = .ok (.aload_n 0, 1) := by decide +kernel
theorem dX0_init_1 : decode cX0_init 1 = .ok (.invokespecial 3, 3) := by decide +kernel
theorem dX0_init_4 : decode cX0_init 4 = .ok (.aload_n 0, 1) := by decide +kernel
theorem dX0_init_5 : decode cX0_init 5 = .ok (.iconst 4, 1) := by decide +kernel
theorem dX0_init_6 : decode cX0_init 6 = .ok (.newarray .int, 2) := by decide +kernel
theorem dX0_init_8 : decode cX0_init 8 = .ok (.putfield 9, 3) := by decide +kernel
theorem dX0_init_11 : decode cX0_init 11 = .ok (.aload_n 0, 1) := by decide +kernel
theorem dX0_init_12 : decode cX0_init 12 = .ok (.iconst 4, 1) := by decide +kernel
theorem dX0_init_13 : decode cX0_init 13 = .ok (.newarray .int, 2) := by decide +kernel
theorem dX0_init_15 : decode cX0_init 15 = .ok (.putfield 15, 3) := by decide +kernel
theorem dX0_init_18 : decode cX0_init 18 = .ok (.aload_n 0, 1) := by decide +kernel
theorem dX0_init_19 : decode cX0_init 19 = .ok (.aload_n 1, 1) := by decide +kernel
theorem dX0_init_20 : decode cX0_init 20 = .ok (.putfield 18, 3) := by decide +kernel
theorem dX0_init_23 : decode cX0_init 23 = .ok (.return_, 1) := by decide +kernel
theorem dX0_property_0 : decode cX0_property 0 = .ok (.iload_n 3, 1) := by decide +kernel
theorem dX0_property_1 : decode cX0_property 1 = .ok (.bipush 9, 2) := by decide +kernel
theorem dX0_property_3 : decode cX0_property 3 = .ok (.if_icmp .ne 12, 3) := by decide +kernel
theorem dX0_property_6 : decode cX0_property 6 = .ok (.aload_n 0, 1) := by decide +kernel
theorem dX0_property_7 : decode cX0_property 7 = .ok (.aload_n 1, 1) := by decide +kernel
theorem dX0_property_8 : decode cX0_property 8 = .ok (.iload_n 2, 1) := by decide +kernel
theorem dX0_property_9 : decode cX0_property 9 = .ok (.invokevirtual 22, 3) := by decide +kernel
theorem dX0_property_12 : decode cX0_property 12 = .ok (.goto 9, 3) := by decide +kernel
theorem dX0_property_15 : decode cX0_property 15 = .ok (.aload_n 1, 1) := by decide +kernel
theorem dX0_property_16 : decode cX0_property 16 = .ok (.iload_n 2, 1) := by decide +kernel
theorem dX0_property_17 : decode cX0_property 17 = .ok (.iload_n 3, 1) := by decide +kernel
theorem dX0_property_18 : decode cX0_property 18 = .ok (.invokevirtual 26, 3) := by decide +kernel
theorem dX0_property_21 : decode cX0_property 21 = .ok (.ireturn, 1) := by decide +kernel
theorem dX0_indexOf_0 : decode cX0_indexOf 0 = .ok (.aload_n 0, 1) := by decide +kernel
theorem dX0_indexOf_1 : decode cX0_indexOf 1 = .ok (.aload_n 1, 1) := by decide +kernel
theorem dX0_indexOf_2 : decode cX0_indexOf 2 = .ok (.bipush 15, 2) := by decide +kernel
theorem dX0_indexOf_4 : decode cX0_indexOf 4 = .ok (.invokevirtual 32, 3) := by decide +kernel
theorem dX0_indexOf_7 : decode cX0_indexOf 7 = .ok (.istore_n 3, 1) := by decide +kernel
theorem dX0_indexOf_8 : decode cX0_indexOf 8 = .ok (.iconst 0, 1) := by decide +kernel
theorem dX0_indexOf_9 : decode cX0_indexOf 9 = .ok (.istore 4, 2) := by decide +kernel
theorem dX0_indexOf_11 : decode cX0_indexOf 11 = .ok (.iload 4, 2) := by decide +kernel
theorem dX0_indexOf_13 : decode cX0_indexOf 13 = .ok (.iload_n 3, 1) := by decide +kernel
theorem dX0_indexOf_14 : decode cX0_indexOf 14 = .ok (.if_icmp .ge 29, 3) := by decide +kernel
theorem dX0_indexOf_17 : decode cX0_indexOf 17 = .ok (.iload 4, 2) := by decide +kernel
theorem dX0_indexOf_19 : decode cX0_indexOf 19 = .ok (.iconst 4, 1) := by decide +kernel
theorem dX0_indexOf_20 : decode cX0_indexOf 20 = .ok (.if_icmp .ge 23, 3) := by decide +kernel
theorem dX0_indexOf_23 : decode cX0_indexOf 23 = .ok (.aload_n 0, 1) := by decide +kernel
theorem dX0_indexOf_24 : decode cX0_indexOf 24 = .ok (.getfield 9, 3) := by decide +kernel
theorem dX0_indexOf_27 : decode cX0_indexOf 27 = .ok (.iload 4, 2) := by decide +kernel
theorem dX0_indexOf_29 : decode cX0_indexOf 29 = .ok (.iaload, 1) := by decide +kernel
theorem dX0_indexOf_30 : decode cX0_indexOf 30 = .ok (.iload_n 2, 1) := by decide +kernel
theorem dX0_indexOf_31 : decode cX0_indexOf 31 = .ok (.if_icmp .ne 6, 3) := by decide +kernel
theorem dX0_indexOf_34 : decode cX0_indexOf 34 = .ok (.iload 4, 2) := by decide +kernel
theorem dX0_indexOf_36 : decode cX0_indexOf 36 = .ok (.ireturn, 1) := by decide +kernel
theorem dX0_indexOf_37 : decode cX0_indexOf 37 = .ok (.iinc 4 1, 3) := by decide +kernel
theorem dX0_indexOf_40 : decode cX0_indexOf 40 = .ok (.goto (-29), 3) := by decide +kernel
theorem dX0_indexOf_43 : decode cX0_indexOf 43 = .ok (.bipush (-9), 2) := by decide +kernel
theorem dX0_indexOf_45 : decode cX0_indexOf 45 = .ok (.ireturn, 1) := by decide +kernel
theorem dX0_passMinutes_0 : decode cX0_passMinutes 0 = .ok (.iload_n 2, 1) := by decide +kernel
theorem dX0_passMinutes_1 : decode cX0_passMinutes 1 = .ok (.iconst 1, 1) := by decide +kernel
theorem dX0_passMinutes_2 : decode cX0_passMinutes 2 = .ok (.if_icmp .lt 9, 3) := by decide +kernel
theorem dX0_passMinutes_5 : decode cX0_passMinutes 5 = .ok (.iload_n 2, 1) := by decide +kernel
theorem dX0_passMinutes_6 : decode cX0_passMinutes 6 = .ok (.bipush 99, 2) := by decide +kernel
theorem dX0_passMinutes_8 : decode cX0_passMinutes 8 = .ok (.if_icmp .le 6, 3) := by decide +kernel
theorem dX0_passMinutes_11 : decode cX0_passMinutes 11 = .ok (.bipush (-2), 2) := by decide +kernel
theorem dX0_passMinutes_13 : decode cX0_passMinutes 13 = .ok (.ireturn, 1) := by decide +kernel
theorem dX0_passMinutes_14 : decode cX0_passMinutes 14 = .ok (.aload_n 0, 1) := by decide +kernel
theorem dX0_passMinutes_15 : decode cX0_passMinutes 15 = .ok (.aload_n 1, 1) := by decide +kernel
theorem dX0_passMinutes_16 : decode cX0_passMinutes 16 = .ok (.iload_n 2, 1) := by decide +kernel
theorem dX0_passMinutes_17 : decode cX0_passMinutes 17 = .ok (.bipush 15, 2) := by decide +kernel
theorem dX0_passMinutes_19 : decode cX0_passMinutes 19 = .ok (.bipush 15, 2) := by decide +kernel
theorem dX0_passMinutes_21 : decode cX0_passMinutes 21 = .ok (.iconst (-1), 1) := by decide +kernel
theorem dX0_passMinutes_22 : decode cX0_passMinutes 22 = .ok (.invokevirtual 35, 3) := by decide +kernel
theorem dX0_passMinutes_25 : decode cX0_passMinutes 25 = .ok (.aload_n 1, 1) := by decide +kernel
theorem dX0_passMinutes_26 : decode cX0_passMinutes 26 = .ok (.invokevirtual 39, 3) := by decide +kernel
theorem dX0_passMinutes_29 : decode cX0_passMinutes 29 = .ok (.ireturn, 1) := by decide +kernel
theorem dX0_plugIn_0 : decode cX0_plugIn 0 = .ok (.aload_n 0, 1) := by decide +kernel
theorem dX0_plugIn_1 : decode cX0_plugIn 1 = .ok (.getfield 18, 3) := by decide +kernel
theorem dX0_plugIn_4 : decode cX0_plugIn 4 = .ok (.iload_n 2, 1) := by decide +kernel
theorem dX0_plugIn_5 : decode cX0_plugIn 5 = .ok (.invokevirtual 43, 3) := by decide +kernel
theorem dX0_plugIn_8 : decode cX0_plugIn 8 = .ok (.ifCond .eq 14, 3) := by decide +kernel
theorem dX0_plugIn_11 : decode cX0_plugIn 11 = .ok (.aload_n 0, 1) := by decide +kernel
theorem dX0_plugIn_12 : decode cX0_plugIn 12 = .ok (.getfield 18, 3) := by decide +kernel
theorem dX0_plugIn_15 : decode cX0_plugIn 15 = .ok (.iload_n 3, 1) := by decide +kernel
theorem dX0_plugIn_16 : decode cX0_plugIn 16 = .ok (.invokevirtual 49, 3) := by decide +kernel
theorem dX0_plugIn_19 : decode cX0_plugIn 19 = .ok (.ifCond .ne 5, 3) := by decide +kernel
theorem dX0_plugIn_22 : decode cX0_plugIn 22 = .ok (.iconst (-1), 1) := by decide +kernel
theorem dX0_plugIn_23 : decode cX0_plugIn 23 = .ok (.ireturn, 1) := by decide +kernel
theorem dX0_plugIn_24 : decode cX0_plugIn 24 = .ok (.aload_n 1, 1) := by decide +kernel
theorem dX0_plugIn_25 : decode cX0_plugIn 25 = .ok (.iload_n 2, 1) := by decide +kernel
theorem dX0_plugIn_26 : decode cX0_plugIn 26 = .ok (.iconst 2, 1) := by decide +kernel
theorem dX0_plugIn_27 : decode cX0_plugIn 27 = .ok (.invokevirtual 26, 3) := by decide +kernel
theorem dX0_plugIn_30 : decode cX0_plugIn 30 = .ok (.ifCond .ne 13, 3) := by decide +kernel
theorem dX0_plugIn_33 : decode cX0_plugIn 33 = .ok (.aload_n 1, 1) := by decide +kernel
theorem dX0_plugIn_34 : decode cX0_plugIn 34 = .ok (.iload_n 3, 1) := by decide +kernel
theorem dX0_plugIn_35 : decode cX0_plugIn 35 = .ok (.invokevirtual 52, 3) := by decide +kernel
theorem dX0_plugIn_38 : decode cX0_plugIn 38 = .ok (.bipush (-9), 2) := by decide +kernel
theorem dX0_plugIn_40 : decode cX0_plugIn 40 = .ok (.if_icmp .eq 6, 3) := by decide +kernel
theorem dX0_plugIn_43 : decode cX0_plugIn 43 = .ok (.bipush (-3), 2) := by decide +kernel
theorem dX0_plugIn_45 : decode cX0_plugIn 45 = .ok (.ireturn, 1) := by decide +kernel
theorem dX0_plugIn_46 : decode cX0_plugIn 46 = .ok (.aload_n 1, 1) := by decide +kernel
theorem dX0_plugIn_47 : decode cX0_plugIn 47 = .ok (.iload_n 2, 1) := by decide +kernel
theorem dX0_plugIn_48 : decode cX0_plugIn 48 = .ok (.iconst 1, 1) := by decide +kernel
theorem dX0_plugIn_49 : decode cX0_plugIn 49 = .ok (.iload_n 3, 1) := by decide +kernel
theorem dX0_plugIn_50 : decode cX0_plugIn 50 = .ok (.invokevirtual 56, 3) := by decide +kernel
theorem dX0_plugIn_53 : decode cX0_plugIn 53 = .ok (.aload_n 1, 1) := by decide +kernel
theorem dX0_plugIn_54 : decode cX0_plugIn 54 = .ok (.iload_n 2, 1) := by decide +kernel
theorem dX0_plugIn_55 : decode cX0_plugIn 55 = .ok (.iconst 1, 1) := by decide +kernel
theorem dX0_plugIn_56 : decode cX0_plugIn 56 = .ok (.invokevirtual 60, 3) := by decide +kernel
theorem dX0_plugIn_59 : decode cX0_plugIn 59 = .ok (.aload_n 1, 1) := by decide +kernel
theorem dX0_plugIn_60 : decode cX0_plugIn 60 = .ok (.invokevirtual 64, 3) := by decide +kernel
theorem dX0_plugIn_63 : decode cX0_plugIn 63 = .ok (.ireturn, 1) := by decide +kernel
theorem dX0_pullOut_0 : decode cX0_pullOut 0 = .ok (.aload_n 0, 1) := by decide +kernel
theorem dX0_pullOut_1 : decode cX0_pullOut 1 = .ok (.getfield 18, 3) := by decide +kernel
theorem dX0_pullOut_4 : decode cX0_pullOut 4 = .ok (.iload_n 2, 1) := by decide +kernel
theorem dX0_pullOut_5 : decode cX0_pullOut 5 = .ok (.invokevirtual 43, 3) := by decide +kernel
theorem dX0_pullOut_8 : decode cX0_pullOut 8 = .ok (.ifCond .ne 5, 3) := by decide +kernel
theorem dX0_pullOut_11 : decode cX0_pullOut 11 = .ok (.iconst (-1), 1) := by decide +kernel
theorem dX0_pullOut_12 : decode cX0_pullOut 12 = .ok (.ireturn, 1) := by decide +kernel
theorem dX0_pullOut_13 : decode cX0_pullOut 13 = .ok (.aload_n 1, 1) := by decide +kernel
theorem dX0_pullOut_14 : decode cX0_pullOut 14 = .ok (.iload_n 2, 1) := by decide +kernel
theorem dX0_pullOut_15 : decode cX0_pullOut 15 = .ok (.iconst 1, 1) := by decide +kernel
theorem dX0_pullOut_16 : decode cX0_pullOut 16 = .ok (.invokevirtual 26, 3) := by decide +kernel
theorem dX0_pullOut_19 : decode cX0_pullOut 19 = .ok (.istore_n 3, 1) := by decide +kernel
theorem dX0_pullOut_20 : decode cX0_pullOut 20 = .ok (.iload_n 3, 1) := by decide +kernel
theorem dX0_pullOut_21 : decode cX0_pullOut 21 = .ok (.bipush (-9), 2) := by decide +kernel
theorem dX0_pullOut_23 : decode cX0_pullOut 23 = .ok (.if_icmp .ne 6, 3) := by decide +kernel
theorem dX0_pullOut_26 : decode cX0_pullOut 26 = .ok (.bipush (-3), 2) := by decide +kernel
theorem dX0_pullOut_28 : decode cX0_pullOut 28 = .ok (.ireturn, 1) := by decide +kernel
theorem dX0_pullOut_29 : decode cX0_pullOut 29 = .ok (.aload_n 1, 1) := by decide +kernel
theorem dX0_pullOut_30 : decode cX0_pullOut 30 = .ok (.iload_n 2, 1) := by decide +kernel
theorem dX0_pullOut_31 : decode cX0_pullOut 31 = .ok (.iconst 1, 1) := by decide +kernel
theorem dX0_pullOut_32 : decode cX0_pullOut 32 = .ok (.bipush (-9), 2) := by decide +kernel
theorem dX0_pullOut_34 : decode cX0_pullOut 34 = .ok (.invokevirtual 56, 3) := by decide +kernel
theorem dX0_pullOut_37 : decode cX0_pullOut 37 = .ok (.aload_n 1, 1) := by decide +kernel
theorem dX0_pullOut_38 : decode cX0_pullOut 38 = .ok (.iload_n 2, 1) := by decide +kernel
theorem dX0_pullOut_39 : decode cX0_pullOut 39 = .ok (.iconst 0, 1) := by decide +kernel
theorem dX0_pullOut_40 : decode cX0_pullOut 40 = .ok (.invokevirtual 60, 3) := by decide +kernel
theorem dX0_pullOut_43 : decode cX0_pullOut 43 = .ok (.iload_n 3, 1) := by decide +kernel
theorem dX0_pullOut_44 : decode cX0_pullOut 44 = .ok (.ireturn, 1) := by decide +kernel
theorem dX0_tell_0 : decode cX0_tell 0 = .ok (.aload_n 0, 1) := by decide +kernel
theorem dX0_tell_1 : decode cX0_tell 1 = .ok (.getfield 18, 3) := by decide +kernel
theorem dX0_tell_4 : decode cX0_tell 4 = .ok (.iload_n 2, 1) := by decide +kernel
theorem dX0_tell_5 : decode cX0_tell 5 = .ok (.invokevirtual 43, 3) := by decide +kernel
theorem dX0_tell_8 : decode cX0_tell 8 = .ok (.ifCond .ne 5, 3) := by decide +kernel
theorem dX0_tell_11 : decode cX0_tell 11 = .ok (.iconst (-1), 1) := by decide +kernel
theorem dX0_tell_12 : decode cX0_tell 12 = .ok (.ireturn, 1) := by decide +kernel
theorem dX0_tell_13 : decode cX0_tell 13 = .ok (.iload_n 3, 1) := by decide +kernel
theorem dX0_tell_14 : decode cX0_tell 14 = .ok (.ifCond .lt 8, 3) := by decide +kernel
theorem dX0_tell_17 : decode cX0_tell 17 = .ok (.iload_n 3, 1) := by decide +kernel
theorem dX0_tell_18 : decode cX0_tell 18 = .ok (.iconst 5, 1) := by decide +kernel
theorem dX0_tell_19 : decode cX0_tell 19 = .ok (.if_icmp .le 6, 3) := by decide +kernel
theorem dX0_tell_22 : decode cX0_tell 22 = .ok (.bipush (-2), 2) := by decide +kernel
theorem dX0_tell_24 : decode cX0_tell 24 = .ok (.ireturn, 1) := by decide +kernel
theorem dX0_tell_25 : decode cX0_tell 25 = .ok (.aload_n 1, 1) := by decide +kernel
theorem dX0_tell_26 : decode cX0_tell 26 = .ok (.iload_n 2, 1) := by decide +kernel
theorem dX0_tell_27 : decode cX0_tell 27 = .ok (.invokevirtual 67, 3) := by decide +kernel
theorem dX0_tell_30 : decode cX0_tell 30 = .ok (.ifCond .eq 14, 3) := by decide +kernel
theorem dX0_tell_33 : decode cX0_tell 33 = .ok (.aload_n 0, 1) := by decide +kernel
theorem dX0_tell_34 : decode cX0_tell 34 = .ok (.aload_n 1, 1) := by decide +kernel
theorem dX0_tell_35 : decode cX0_tell 35 = .ok (.iload_n 2, 1) := by decide +kernel
theorem dX0_tell_36 : decode cX0_tell 36 = .ok (.iconst (-1), 1) := by decide +kernel
theorem dX0_tell_37 : decode cX0_tell 37 = .ok (.invokevirtual 70, 3) := by decide +kernel
theorem dX0_tell_40 : decode cX0_tell 40 = .ok (.iconst 2, 1) := by decide +kernel
theorem dX0_tell_41 : decode cX0_tell 41 = .ok (.if_icmp .ne 6, 3) := by decide +kernel
theorem dX0_tell_44 : decode cX0_tell 44 = .ok (.bipush (-3), 2) := by decide +kernel
theorem dX0_tell_46 : decode cX0_tell 46 = .ok (.ireturn, 1) := by decide +kernel
theorem dX0_tell_47 : decode cX0_tell 47 = .ok (.aload_n 1, 1) := by decide +kernel
theorem dX0_tell_48 : decode cX0_tell 48 = .ok (.iload_n 2, 1) := by decide +kernel
theorem dX0_tell_49 : decode cX0_tell 49 = .ok (.iconst 4, 1) := by decide +kernel
theorem dX0_tell_50 : decode cX0_tell 50 = .ok (.iconst 0, 1) := by decide +kernel
theorem dX0_tell_51 : decode cX0_tell 51 = .ok (.invokevirtual 56, 3) := by decide +kernel
theorem dX0_tell_54 : decode cX0_tell 54 = .ok (.iload_n 3, 1) := by decide +kernel
theorem dX0_tell_55 : decode cX0_tell 55 = .ok (.iconst 5, 1) := by decide +kernel
theorem dX0_tell_56 : decode cX0_tell 56 = .ok (.if_icmp .ne 27, 3) := by decide +kernel
theorem dX0_tell_59 : decode cX0_tell 59 = .ok (.aload_n 1, 1) := by decide +kernel
theorem dX0_tell_60 : decode cX0_tell 60 = .ok (.iload_n 2, 1) := by decide +kernel
theorem dX0_tell_61 : decode cX0_tell 61 = .ok (.iconst 2, 1) := by decide +kernel
theorem dX0_tell_62 : decode cX0_tell 62 = .ok (.iconst 1, 1) := by decide +kernel
theorem dX0_tell_63 : decode cX0_tell 63 = .ok (.invokevirtual 56, 3) := by decide +kernel
theorem dX0_tell_66 : decode cX0_tell 66 = .ok (.aload_n 1, 1) := by decide +kernel
theorem dX0_tell_67 : decode cX0_tell 67 = .ok (.iload_n 2, 1) := by decide +kernel
theorem dX0_tell_68 : decode cX0_tell 68 = .ok (.iconst 3, 1) := by decide +kernel
theorem dX0_tell_69 : decode cX0_tell 69 = .ok (.iconst 0, 1) := by decide +kernel
theorem dX0_tell_70 : decode cX0_tell 70 = .ok (.invokevirtual 56, 3) := by decide +kernel
theorem dX0_tell_73 : decode cX0_tell 73 = .ok (.aload_n 1, 1) := by decide +kernel
theorem dX0_tell_74 : decode cX0_tell 74 = .ok (.iload_n 2, 1) := by decide +kernel
theorem dX0_tell_75 : decode cX0_tell 75 = .ok (.iconst 5, 1) := by decide +kernel
theorem dX0_tell_76 : decode cX0_tell 76 = .ok (.iconst 0, 1) := by decide +kernel
theorem dX0_tell_77 : decode cX0_tell 77 = .ok (.invokevirtual 56, 3) := by decide +kernel
theorem dX0_tell_80 : decode cX0_tell 80 = .ok (.goto 15, 3) := by decide +kernel
theorem dX0_tell_83 : decode cX0_tell 83 = .ok (.iload_n 3, 1) := by decide +kernel
theorem dX0_tell_84 : decode cX0_tell 84 = .ok (.iconst 4, 1) := by decide +kernel
theorem dX0_tell_85 : decode cX0_tell 85 = .ok (.if_icmp .eq 10, 3) := by decide +kernel
theorem dX0_tell_88 : decode cX0_tell 88 = .ok (.aload_n 0, 1) := by decide +kernel
theorem dX0_tell_89 : decode cX0_tell 89 = .ok (.aload_n 1, 1) := by decide +kernel
theorem dX0_tell_90 : decode cX0_tell 90 = .ok (.iload_n 2, 1) := by decide +kernel
theorem dX0_tell_91 : decode cX0_tell 91 = .ok (.iload_n 3, 1) := by decide +kernel
theorem dX0_tell_92 : decode cX0_tell 92 = .ok (.invokevirtual 74, 3) := by decide +kernel
theorem dX0_tell_95 : decode cX0_tell 95 = .ok (.aload_n 1, 1) := by decide +kernel
theorem dX0_tell_96 : decode cX0_tell 96 = .ok (.iload_n 2, 1) := by decide +kernel
theorem dX0_tell_97 : decode cX0_tell 97 = .ok (.iconst 2, 1) := by decide +kernel
theorem dX0_tell_98 : decode cX0_tell 98 = .ok (.invokevirtual 26, 3) := by decide +kernel
theorem dX0_tell_101 : decode cX0_tell 101 = .ok (.ireturn, 1) := by decide +kernel
theorem dX0_climb_0 : decode cX0_climb 0 = .ok (.aload_n 1, 1) := by decide +kernel
theorem dX0_climb_1 : decode cX0_climb 1 = .ok (.iload_n 2, 1) := by decide +kernel
theorem dX0_climb_2 : decode cX0_climb 2 = .ok (.iconst 2, 1) := by decide +kernel
theorem dX0_climb_3 : decode cX0_climb 3 = .ok (.invokevirtual 26, 3) := by decide +kernel
theorem dX0_climb_6 : decode cX0_climb 6 = .ok (.iconst 1, 1) := by decide +kernel
theorem dX0_climb_7 : decode cX0_climb 7 = .ok (.if_icmp .ne 13, 3) := by decide +kernel
theorem dX0_climb_10 : decode cX0_climb 10 = .ok (.aload_n 1, 1) := by decide +kernel
theorem dX0_climb_11 : decode cX0_climb 11 = .ok (.iload_n 2, 1) := by decide +kernel
theorem dX0_climb_12 : decode cX0_climb 12 = .ok (.iconst 3, 1) := by decide +kernel
theorem dX0_climb_13 : decode cX0_climb 13 = .ok (.invokevirtual 26, 3) := by decide +kernel
theorem dX0_climb_16 : decode cX0_climb 16 = .ok (.iload_n 3, 1) := by decide +kernel
theorem dX0_climb_17 : decode cX0_climb 17 = .ok (.if_icmp .eq 11, 3) := by decide +kernel
theorem dX0_climb_20 : decode cX0_climb 20 = .ok (.aload_n 1, 1) := by decide +kernel
theorem dX0_climb_21 : decode cX0_climb 21 = .ok (.iload_n 2, 1) := by decide +kernel
theorem dX0_climb_22 : decode cX0_climb 22 = .ok (.iconst 2, 1) := by decide +kernel
theorem dX0_climb_23 : decode cX0_climb 23 = .ok (.iconst 4, 1) := by decide +kernel
theorem dX0_climb_24 : decode cX0_climb 24 = .ok (.invokevirtual 56, 3) := by decide +kernel
theorem dX0_climb_27 : decode cX0_climb 27 = .ok (.return_, 1) := by decide +kernel
theorem dX0_climb_28 : decode cX0_climb 28 = .ok (.aload_n 1, 1) := by decide +kernel
theorem dX0_climb_29 : decode cX0_climb 29 = .ok (.iload_n 2, 1) := by decide +kernel
theorem dX0_climb_30 : decode cX0_climb 30 = .ok (.iconst 3, 1) := by decide +kernel
theorem dX0_climb_31 : decode cX0_climb 31 = .ok (.iload_n 3, 1) := by decide +kernel
theorem dX0_climb_32 : decode cX0_climb 32 = .ok (.iconst 1, 1) := by decide +kernel
theorem dX0_climb_33 : decode cX0_climb 33 = .ok (.iadd, 1) := by decide +kernel
theorem dX0_climb_34 : decode cX0_climb 34 = .ok (.invokevirtual 56, 3) := by decide +kernel
theorem dX0_climb_37 : decode cX0_climb 37 = .ok (.iload_n 3, 1) := by decide +kernel
theorem dX0_climb_38 : decode cX0_climb 38 = .ok (.iconst 3, 1) := by decide +kernel
theorem dX0_climb_39 : decode cX0_climb 39 = .ok (.if_icmp .ne 10, 3) := by decide +kernel
theorem dX0_climb_42 : decode cX0_climb 42 = .ok (.aload_n 1, 1) := by decide +kernel
theorem dX0_climb_43 : decode cX0_climb 43 = .ok (.iload_n 2, 1) := by decide +kernel
theorem dX0_climb_44 : decode cX0_climb 44 = .ok (.iconst 2, 1) := by decide +kernel
theorem dX0_climb_45 : decode cX0_climb 45 = .ok (.iconst 2, 1) := by decide +kernel
theorem dX0_climb_46 : decode cX0_climb 46 = .ok (.invokevirtual 56, 3) := by decide +kernel
theorem dX0_climb_49 : decode cX0_climb 49 = .ok (.return_, 1) := by decide +kernel
theorem dX0_revive_0 : decode cX0_revive 0 = .ok (.aload_n 0, 1) := by decide +kernel
theorem dX0_revive_1 : decode cX0_revive 1 = .ok (.getfield 18, 3) := by decide +kernel
theorem dX0_revive_4 : decode cX0_revive 4 = .ok (.iload_n 2, 1) := by decide +kernel
theorem dX0_revive_5 : decode cX0_revive 5 = .ok (.invokevirtual 43, 3) := by decide +kernel
theorem dX0_revive_8 : decode cX0_revive 8 = .ok (.ifCond .ne 5, 3) := by decide +kernel
theorem dX0_revive_11 : decode cX0_revive 11 = .ok (.iconst (-1), 1) := by decide +kernel
theorem dX0_revive_12 : decode cX0_revive 12 = .ok (.ireturn, 1) := by decide +kernel
theorem dX0_revive_13 : decode cX0_revive 13 = .ok (.aload_n 1, 1) := by decide +kernel
theorem dX0_revive_14 : decode cX0_revive 14 = .ok (.iload_n 2, 1) := by decide +kernel
theorem dX0_revive_15 : decode cX0_revive 15 = .ok (.iconst 2, 1) := by decide +kernel
theorem dX0_revive_16 : decode cX0_revive 16 = .ok (.invokevirtual 26, 3) := by decide +kernel
theorem dX0_revive_19 : decode cX0_revive 19 = .ok (.iconst 4, 1) := by decide +kernel
theorem dX0_revive_20 : decode cX0_revive 20 = .ok (.if_icmp .eq 6, 3) := by decide +kernel
theorem dX0_revive_23 : decode cX0_revive 23 = .ok (.bipush (-3), 2) := by decide +kernel
theorem dX0_revive_25 : decode cX0_revive 25 = .ok (.ireturn, 1) := by decide +kernel
theorem dX0_revive_26 : decode cX0_revive 26 = .ok (.aload_n 1, 1) := by decide +kernel
theorem dX0_revive_27 : decode cX0_revive 27 = .ok (.iload_n 2, 1) := by decide +kernel
theorem dX0_revive_28 : decode cX0_revive 28 = .ok (.iconst 1, 1) := by decide +kernel
theorem dX0_revive_29 : decode cX0_revive 29 = .ok (.invokevirtual 60, 3) := by decide +kernel
theorem dX0_revive_32 : decode cX0_revive 32 = .ok (.aload_n 1, 1) := by decide +kernel
theorem dX0_revive_33 : decode cX0_revive 33 = .ok (.iconst 4, 1) := by decide +kernel
theorem dX0_revive_34 : decode cX0_revive 34 = .ok (.invokevirtual 78, 3) := by decide +kernel
theorem dX0_revive_37 : decode cX0_revive 37 = .ok (.invokestatic 81, 3) := by decide +kernel
theorem dX0_revive_40 : decode cX0_revive 40 = .ok (.ireturn, 1) := by decide +kernel
theorem dX0_changeLimit_0 : decode cX0_changeLimit 0 = .ok (.iload_n 2, 1) := by decide +kernel
theorem dX0_changeLimit_1 : decode cX0_changeLimit 1 = .ok (.ifCond .lt 9, 3) := by decide +kernel
theorem dX0_changeLimit_4 : decode cX0_changeLimit 4 = .ok (.iload_n 2, 1) := by decide +kernel
theorem dX0_changeLimit_5 : decode cX0_changeLimit 5 = .ok (.bipush 99, 2) := by decide +kernel
theorem dX0_changeLimit_7 : decode cX0_changeLimit 7 = .ok (.if_icmp .le 6, 3) := by decide +kernel
theorem dX0_changeLimit_10 : decode cX0_changeLimit 10 = .ok (.bipush (-2), 2) := by decide +kernel
theorem dX0_changeLimit_12 : decode cX0_changeLimit 12 = .ok (.ireturn, 1) := by decide +kernel
theorem dX0_changeLimit_13 : decode cX0_changeLimit 13 = .ok (.aload_n 1, 1) := by decide +kernel
theorem dX0_changeLimit_14 : decode cX0_changeLimit 14 = .ok (.getfield 86, 3) := by decide +kernel
theorem dX0_changeLimit_17 : decode cX0_changeLimit 17 = .ok (.istore_n 3, 1) := by decide +kernel
theorem dX0_changeLimit_18 : decode cX0_changeLimit 18 = .ok (.aload_n 1, 1) := by decide +kernel
theorem dX0_changeLimit_19 : decode cX0_changeLimit 19 = .ok (.iload_n 2, 1) := by decide +kernel
theorem dX0_changeLimit_20 : decode cX0_changeLimit 20 = .ok (.putfield 86, 3) := by decide +kernel
theorem dX0_changeLimit_23 : decode cX0_changeLimit 23 = .ok (.iload_n 3, 1) := by decide +kernel
theorem dX0_changeLimit_24 : decode cX0_changeLimit 24 = .ok (.ireturn, 1) := by decide +kernel
theorem dX0_pass_0 : decode cX0_pass 0 = .ok (.iconst 0, 1) := by decide +kernel
theorem dX0_pass_1 : decode cX0_pass 1 = .ok (.istore 6, 2) := by decide +kernel
theorem dX0_pass_3 : decode cX0_pass 3 = .ok (.iload 6, 2) := by decide +kernel
theorem dX0_pass_5 : decode cX0_pass 5 = .ok (.iload_n 2, 1) := by decide +kernel
theorem dX0_pass_6 : decode cX0_pass 6 = .ok (.if_icmp .ge 61, 3) := by decide +kernel
theorem dX0_pass_9 : decode cX0_pass 9 = .ok (.aload_n 0, 1) := by decide +kernel
theorem dX0_pass_10 : decode cX0_pass 10 = .ok (.aload_n 1, 1) := by decide +kernel
theorem dX0_pass_11 : decode cX0_pass 11 = .ok (.iload_n 3, 1) := by decide +kernel
theorem dX0_pass_12 : decode cX0_pass 12 = .ok (.iload 5, 2) := by decide +kernel
theorem dX0_pass_14 : decode cX0_pass 14 = .ok (.invokevirtual 90, 3) := by decide +kernel
theorem dX0_pass_17 : decode cX0_pass 17 = .ok (.aload_n 0, 1) := by decide +kernel
theorem dX0_pass_18 : decode cX0_pass 18 = .ok (.aload_n 1, 1) := by decide +kernel
theorem dX0_pass_19 : decode cX0_pass 19 = .ok (.iload 5, 2) := by decide +kernel
theorem dX0_pass_21 : decode cX0_pass 21 = .ok (.invokevirtual 93, 3) := by decide +kernel
theorem dX0_pass_24 : decode cX0_pass 24 = .ok (.aload_n 0, 1) := by decide +kernel
theorem dX0_pass_25 : decode cX0_pass 25 = .ok (.aload_n 1, 1) := by decide +kernel
theorem dX0_pass_26 : decode cX0_pass 26 = .ok (.iload 4, 2) := by decide +kernel
theorem dX0_pass_28 : decode cX0_pass 28 = .ok (.invokevirtual 32, 3) := by decide +kernel
theorem dX0_pass_31 : decode cX0_pass 31 = .ok (.istore 7, 2) := by decide +kernel
theorem dX0_pass_33 : decode cX0_pass 33 = .ok (.aload_n 0, 1) := by decide +kernel
theorem dX0_pass_34 : decode cX0_pass 34 = .ok (.aload_n 1, 1) := by decide +kernel
theorem dX0_pass_35 : decode cX0_pass 35 = .ok (.iload 7, 2) := by decide +kernel
theorem dX0_pass_37 : decode cX0_pass 37 = .ok (.iload 5, 2) := by decide +kernel
theorem dX0_pass_39 : decode cX0_pass 39 = .ok (.invokevirtual 97, 3) := by decide +kernel
theorem dX0_pass_42 : decode cX0_pass 42 = .ok (.aload_n 0, 1) := by decide +kernel
theorem dX0_pass_43 : decode cX0_pass 43 = .ok (.aload_n 1, 1) := by decide +kernel
theorem dX0_pass_44 : decode cX0_pass 44 = .ok (.iload 7, 2) := by decide +kernel
theorem dX0_pass_46 : decode cX0_pass 46 = .ok (.iload 5, 2) := by decide +kernel
theorem dX0_pass_48 : decode cX0_pass 48 = .ok (.invokevirtual 100, 3) := by decide +kernel
theorem dX0_pass_51 : decode cX0_pass 51 = .ok (.aload_n 1, 1) := by decide +kernel
theorem dX0_pass_52 : decode cX0_pass 52 = .ok (.dup, 1) := by decide +kernel
theorem dX0_pass_53 : decode cX0_pass 53 = .ok (.getfield 103, 3) := by decide +kernel
theorem dX0_pass_56 : decode cX0_pass 56 = .ok (.iconst 1, 1) := by decide +kernel
theorem dX0_pass_57 : decode cX0_pass 57 = .ok (.iadd, 1) := by decide +kernel
theorem dX0_pass_58 : decode cX0_pass 58 = .ok (.putfield 103, 3) := by decide +kernel
theorem dX0_pass_61 : decode cX0_pass 61 = .ok (.iinc 6 1, 3) := by decide +kernel
theorem dX0_pass_64 : decode cX0_pass 64 = .ok (.goto (-61), 3) := by decide +kernel
theorem dX0_pass_67 : decode cX0_pass 67 = .ok (.return_, 1) := by decide +kernel
theorem dX0_kindAt_0 : decode cX0_kindAt 0 = .ok (.aload_n 1, 1) := by decide +kernel
theorem dX0_kindAt_1 : decode cX0_kindAt 1 = .ok (.iload_n 2, 1) := by decide +kernel
theorem dX0_kindAt_2 : decode cX0_kindAt 2 = .ok (.iconst 1, 1) := by decide +kernel
theorem dX0_kindAt_3 : decode cX0_kindAt 3 = .ok (.invokevirtual 26, 3) := by decide +kernel
theorem dX0_kindAt_6 : decode cX0_kindAt 6 = .ok (.istore 4, 2) := by decide +kernel
theorem dX0_kindAt_8 : decode cX0_kindAt 8 = .ok (.iload 4, 2) := by decide +kernel
theorem dX0_kindAt_10 : decode cX0_kindAt 10 = .ok (.iload_n 3, 1) := by decide +kernel
theorem dX0_kindAt_11 : decode cX0_kindAt 11 = .ok (.if_icmp .ne 7, 3) := by decide +kernel
theorem dX0_kindAt_14 : decode cX0_kindAt 14 = .ok (.iconst 1, 1) := by decide +kernel
theorem dX0_kindAt_15 : decode cX0_kindAt 15 = .ok (.goto 13, 3) := by decide +kernel
theorem dX0_kindAt_18 : decode cX0_kindAt 18 = .ok (.aload_n 0, 1) := by decide +kernel
theorem dX0_kindAt_19 : decode cX0_kindAt 19 = .ok (.getfield 18, 3) := by decide +kernel
theorem dX0_kindAt_22 : decode cX0_kindAt 22 = .ok (.iload 4, 2) := by decide +kernel
theorem dX0_kindAt_24 : decode cX0_kindAt 24 = .ok (.iconst 3, 1) := by decide +kernel
theorem dX0_kindAt_25 : decode cX0_kindAt 25 = .ok (.invokevirtual 106, 3) := by decide +kernel
theorem dX0_kindAt_28 : decode cX0_kindAt 28 = .ok (.ireturn, 1) := by decide +kernel
theorem dX0_growSilent_0 : decode cX0_growSilent 0 = .ok (.iconst 0, 1) := by decide +kernel
theorem dX0_growSilent_1 : decode cX0_growSilent 1 = .ok (.istore 4, 2) := by decide +kernel
theorem dX0_growSilent_3 : decode cX0_growSilent 3 = .ok (.iload 4, 2) := by decide +kernel
theorem dX0_growSilent_5 : decode cX0_growSilent 5 = .ok (.aload_n 0, 1) := by decide +kernel
theorem dX0_growSilent_6 : decode cX0_growSilent 6 = .ok (.getfield 18, 3) := by decide +kernel
theorem dX0_growSilent_9 : decode cX0_growSilent 9 = .ok (.getfield 109, 3) := by decide +kernel
theorem dX0_growSilent_12 : decode cX0_growSilent 12 = .ok (.if_icmp .ge 79, 3) := by decide +kernel
theorem dX0_growSilent_15 : decode cX0_growSilent 15 = .ok (.iload_n 2, 1) := by decide +kernel
theorem dX0_growSilent_16 : decode cX0_growSilent 16 = .ok (.iload 4, 2) := by decide +kernel
theorem dX0_growSilent_18 : decode cX0_growSilent 18 = .ok (.invokestatic 112, 3) := by decide +kernel
theorem dX0_growSilent_21 : decode cX0_growSilent 21 = .ok (.ifCond .eq 64, 3) := by decide +kernel
theorem dX0_growSilent_24 : decode cX0_growSilent 24 = .ok (.aload_n 1, 1) := by decide +kernel
theorem dX0_growSilent_25 : decode cX0_growSilent 25 = .ok (.iload 4, 2) := by decide +kernel
theorem dX0_growSilent_27 : decode cX0_growSilent 27 = .ok (.invokevirtual 67, 3) := by decide +kernel
theorem dX0_growSilent_30 : decode cX0_growSilent 30 = .ok (.ifCond .eq 55, 3) := by decide +kernel
theorem dX0_growSilent_33 : decode cX0_growSilent 33 = .ok (.aload_n 0, 1) := by decide +kernel
theorem dX0_growSilent_34 : decode cX0_growSilent 34 = .ok (.aload_n 1, 1) := by decide +kernel
theorem dX0_growSilent_35 : decode cX0_growSilent 35 = .ok (.iload 4, 2) := by decide +kernel
theorem dX0_growSilent_37 : decode cX0_growSilent 37 = .ok (.iload_n 3, 1) := by decide +kernel
theorem dX0_growSilent_38 : decode cX0_growSilent 38 = .ok (.invokevirtual 70, 3) := by decide +kernel
theorem dX0_growSilent_41 : decode cX0_growSilent 41 = .ok (.iconst 2, 1) := by decide +kernel
theorem dX0_growSilent_42 : decode cX0_growSilent 42 = .ok (.if_icmp .eq 43, 3) := by decide +kernel
theorem dX0_growSilent_45 : decode cX0_growSilent 45 = .ok (.aload_n 1, 1) := by decide +kernel
theorem dX0_growSilent_46 : decode cX0_growSilent 46 = .ok (.iload 4, 2) := by decide +kernel
theorem dX0_growSilent_48 : decode cX0_growSilent 48 = .ok (.iconst 4, 1) := by decide +kernel
theorem dX0_growSilent_49 : decode cX0_growSilent 49 = .ok (.invokevirtual 26, 3) := by decide +kernel
theorem dX0_growSilent_52 : decode cX0_growSilent 52 = .ok (.iconst 1, 1) := by decide +kernel
theorem dX0_growSilent_53 : decode cX0_growSilent 53 = .ok (.iadd, 1) := by decide +kernel
theorem dX0_growSilent_54 : decode cX0_growSilent 54 = .ok (.istore 5, 2) := by decide +kernel
theorem dX0_growSilent_56 : decode cX0_growSilent 56 = .ok (.aload_n 1, 1) := by decide +kernel
theorem dX0_growSilent_57 : decode cX0_growSilent 57 = .ok (.iload 4, 2) := by decide +kernel
theorem dX0_growSilent_59 : decode cX0_growSilent 59 = .ok (.iconst 4, 1) := by decide +kernel
theorem dX0_growSilent_60 : decode cX0_growSilent 60 = .ok (.iload 5, 2) := by decide +kernel
theorem dX0_growSilent_62 : decode cX0_growSilent 62 = .ok (.invokevirtual 56, 3) := by decide +kernel
theorem dX0_growSilent_65 : decode cX0_growSilent 65 = .ok (.iload 5, 2) := by decide +kernel
theorem dX0_growSilent_67 : decode cX0_growSilent 67 = .ok (.aload_n 0, 1) := by decide +kernel
theorem dX0_growSilent_68 : decode cX0_growSilent 68 = .ok (.getfield 18, 3) := by decide +kernel
theorem dX0_growSilent_71 : decode cX0_growSilent 71 = .ok (.getfield 116, 3) := by decide +kernel
theorem dX0_growSilent_74 : decode cX0_growSilent 74 = .ok (.if_icmp .le 11, 3) := by decide +kernel
theorem dX0_growSilent_77 : decode cX0_growSilent 77 = .ok (.aload_n 1, 1) := by decide +kernel
theorem dX0_growSilent_78 : decode cX0_growSilent 78 = .ok (.iload 4, 2) := by decide +kernel
theorem dX0_growSilent_80 : decode cX0_growSilent 80 = .ok (.iconst 2, 1) := by decide +kernel
theorem dX0_growSilent_81 : decode cX0_growSilent 81 = .ok (.iconst 4, 1) := by decide +kernel
theorem dX0_growSilent_82 : decode cX0_growSilent 82 = .ok (.invokevirtual 56, 3) := by decide +kernel
theorem dX0_growSilent_85 : decode cX0_growSilent 85 = .ok (.iinc 4 1, 3) := by decide +kernel
theorem dX0_growSilent_88 : decode cX0_growSilent 88 = .ok (.goto (-85), 3) := by decide +kernel
theorem dX0_growSilent_91 : decode cX0_growSilent 91 = .ok (.return_, 1) := by decide +kernel
theorem dX0_changeStates_0 : decode cX0_changeStates 0 = .ok (.iconst 0, 1) := by decide +kernel
theorem dX0_changeStates_1 : decode cX0_changeStates 1 = .ok (.istore_n 3, 1) := by decide +kernel
theorem dX0_changeStates_2 : decode cX0_changeStates 2 = .ok (.iload_n 3, 1) := by decide +kernel
theorem dX0_changeStates_3 : decode cX0_changeStates 3 = .ok (.aload_n 0, 1) := by decide +kernel
theorem dX0_changeStates_4 : decode cX0_changeStates 4 = .ok (.getfield 18, 3) := by decide +kernel
theorem dX0_changeStates_7 : decode cX0_changeStates 7 = .ok (.getfield 109, 3) := by decide +kernel
theorem dX0_changeStates_10 : decode cX0_changeStates 10 = .ok (.if_icmp .ge 92, 3) := by decide +kernel
theorem dX0_changeStates_13 : decode cX0_changeStates 13 = .ok (.aload_n 1, 1) := by decide +kernel
theorem dX0_changeStates_14 : decode cX0_changeStates 14 = .ok (.iload_n 3, 1) := by decide +kernel
theorem dX0_changeStates_15 : decode cX0_changeStates 15 = .ok (.iconst 2, 1) := by decide +kernel
theorem dX0_changeStates_16 : decode cX0_changeStates 16 = .ok (.invokevirtual 26, 3) := by decide +kernel
theorem dX0_changeStates_19 : decode cX0_changeStates 19 = .ok (.istore 4, 2) := by decide +kernel
theorem dX0_changeStates_21 : decode cX0_changeStates 21 = .ok (.aload_n 1, 1) := by decide +kernel
theorem dX0_changeStates_22 : decode cX0_changeStates 22 = .ok (.aload_n 1, 1) := by decide +kernel
theorem dX0_changeStates_23 : decode cX0_changeStates 23 = .ok (.iload_n 3, 1) := by decide +kernel
theorem dX0_changeStates_24 : decode cX0_changeStates 24 = .ok (.iconst 1, 1) := by decide +kernel
theorem dX0_changeStates_25 : decode cX0_changeStates 25 = .ok (.invokevirtual 26, 3) := by decide +kernel
theorem dX0_changeStates_28 : decode cX0_changeStates 28 = .ok (.invokevirtual 119, 3) := by decide +kernel
theorem dX0_changeStates_31 : decode cX0_changeStates 31 = .ok (.ifCond .ne 7, 3) := by decide +kernel
theorem dX0_changeStates_34 : decode cX0_changeStates 34 = .ok (.iconst 1, 1) := by decide +kernel
theorem dX0_changeStates_35 : decode cX0_changeStates 35 = .ok (.goto 4, 3) := by decide +kernel
theorem dX0_changeStates_38 : decode cX0_changeStates 38 = .ok (.iconst 0, 1) := by decide +kernel
theorem dX0_changeStates_39 : decode cX0_changeStates 39 = .ok (.istore 5, 2) := by decide +kernel
theorem dX0_changeStates_41 : decode cX0_changeStates 41 = .ok (.iload 4, 2) := by decide +kernel
theorem dX0_changeStates_43 : decode cX0_changeStates 43 = .ok (.iconst 1, 1) := by decide +kernel
theorem dX0_changeStates_44 : decode cX0_changeStates 44 = .ok (.if_icmp .ne 13, 3) := by decide +kernel
theorem dX0_changeStates_47 : decode cX0_changeStates 47 = .ok (.aload_n 0, 1) := by decide +kernel
theorem dX0_changeStates_48 : decode cX0_changeStates 48 = .ok (.aload_n 1, 1) := by decide +kernel
theorem dX0_changeStates_49 : decode cX0_changeStates 49 = .ok (.iload_n 3, 1) := by decide +kernel
theorem dX0_changeStates_50 : decode cX0_changeStates 50 = .ok (.iload_n 2, 1) := by decide +kernel
theorem dX0_changeStates_51 : decode cX0_changeStates 51 = .ok (.invokevirtual 122, 3) := by decide +kernel
theorem dX0_changeStates_54 : decode cX0_changeStates 54 = .ok (.goto 42, 3) := by decide +kernel
theorem dX0_changeStates_57 : decode cX0_changeStates 57 = .ok (.iload 4, 2) := by decide +kernel
theorem dX0_changeStates_59 : decode cX0_changeStates 59 = .ok (.iconst 2, 1) := by decide +kernel
theorem dX0_changeStates_60 : decode cX0_changeStates 60 = .ok (.if_icmp .ne 18, 3) := by decide +kernel
theorem dX0_changeStates_63 : decode cX0_changeStates 63 = .ok (.iload 5, 2) := by decide +kernel
theorem dX0_changeStates_65 : decode cX0_changeStates 65 = .ok (.ifCond .ne 13, 3) := by decide +kernel
theorem dX0_changeStates_68 : decode cX0_changeStates 68 = .ok (.aload_n 1, 1) := by decide +kernel
theorem dX0_changeStates_69 : decode cX0_changeStates 69 = .ok (.iload_n 3, 1) := by decide +kernel
theorem dX0_changeStates_70 : decode cX0_changeStates 70 = .ok (.iconst 2, 1) := by decide +kernel
theorem dX0_changeStates_71 : decode cX0_changeStates 71 = .ok (.iconst 3, 1) := by decide +kernel
theorem dX0_changeStates_72 : decode cX0_changeStates 72 = .ok (.invokevirtual 56, 3) := by decide +kernel
theorem dX0_changeStates_75 : decode cX0_changeStates 75 = .ok (.goto 21, 3) := by decide +kernel
theorem dX0_changeStates_78 : decode cX0_changeStates 78 = .ok (.iload 4, 2) := by decide +kernel
theorem dX0_changeStates_80 : decode cX0_changeStates 80 = .ok (.iconst 3, 1) := by decide +kernel
theorem dX0_changeStates_81 : decode cX0_changeStates 81 = .ok (.if_icmp .ne 15, 3) := by decide +kernel
theorem dX0_changeStates_84 : decode cX0_changeStates 84 = .ok (.iload 5, 2) := by decide +kernel
theorem dX0_changeStates_86 : decode cX0_changeStates 86 = .ok (.ifCond .eq 10, 3) := by decide +kernel
theorem dX0_changeStates_89 : decode cX0_changeStates 89 = .ok (.aload_n 1, 1) := by decide +kernel
theorem dX0_changeStates_90 : decode cX0_changeStates 90 = .ok (.iload_n 3, 1) := by decide +kernel
theorem dX0_changeStates_91 : decode cX0_changeStates 91 = .ok (.iconst 2, 1) := by decide +kernel
theorem dX0_changeStates_92 : decode cX0_changeStates 92 = .ok (.iconst 2, 1) := by decide +kernel
theorem dX0_changeStates_93 : decode cX0_changeStates 93 = .ok (.invokevirtual 56, 3) := by decide +kernel
theorem dX0_changeStates_96 : decode cX0_changeStates 96 = .ok (.iinc 3 1, 3) := by decide +kernel
theorem dX0_changeStates_99 : decode cX0_changeStates 99 = .ok (.goto (-97), 3) := by decide +kernel
theorem dX0_changeStates_102 : decode cX0_changeStates 102 = .ok (.return_, 1) := by decide +kernel
theorem dX0_growOlder_0 : decode cX0_growOlder 0 = .ok (.aload_n 1, 1) := by decide +kernel
theorem dX0_growOlder_1 : decode cX0_growOlder 1 = .ok (.iload_n 2, 1) := by decide +kernel
theorem dX0_growOlder_2 : decode cX0_growOlder 2 = .ok (.iconst 5, 1) := by decide +kernel
theorem dX0_growOlder_3 : decode cX0_growOlder 3 = .ok (.invokevirtual 26, 3) := by decide +kernel
theorem dX0_growOlder_6 : decode cX0_growOlder 6 = .ok (.iconst 1, 1) := by decide +kernel
theorem dX0_growOlder_7 : decode cX0_growOlder 7 = .ok (.iadd, 1) := by decide +kernel
theorem dX0_growOlder_8 : decode cX0_growOlder 8 = .ok (.istore 4, 2) := by decide +kernel
theorem dX0_growOlder_10 : decode cX0_growOlder 10 = .ok (.aload_n 1, 1) := by decide +kernel
theorem dX0_growOlder_11 : decode cX0_growOlder 11 = .ok (.iload_n 2, 1) := by decide +kernel
theorem dX0_growOlder_12 : decode cX0_growOlder 12 = .ok (.iconst 5, 1) := by decide +kernel
theorem dX0_growOlder_13 : decode cX0_growOlder 13 = .ok (.iload 4, 2) := by decide +kernel
theorem dX0_growOlder_15 : decode cX0_growOlder 15 = .ok (.invokevirtual 56, 3) := by decide +kernel
theorem dX0_growOlder_18 : decode cX0_growOlder 18 = .ok (.iload 4, 2) := by decide +kernel
theorem dX0_growOlder_20 : decode cX0_growOlder 20 = .ok (.iconst 2, 1) := by decide +kernel
theorem dX0_growOlder_21 : decode cX0_growOlder 21 = .ok (.if_icmp .lt 21, 3) := by decide +kernel
theorem dX0_growOlder_24 : decode cX0_growOlder 24 = .ok (.aload_n 0, 1) := by decide +kernel
theorem dX0_growOlder_25 : decode cX0_growOlder 25 = .ok (.aload_n 1, 1) := by decide +kernel
theorem dX0_growOlder_26 : decode cX0_growOlder 26 = .ok (.iload_n 2, 1) := by decide +kernel
theorem dX0_growOlder_27 : decode cX0_growOlder 27 = .ok (.iload_n 3, 1) := by decide +kernel
theorem dX0_growOlder_28 : decode cX0_growOlder 28 = .ok (.invokevirtual 70, 3) := by decide +kernel
theorem dX0_growOlder_31 : decode cX0_growOlder 31 = .ok (.iconst 2, 1) := by decide +kernel
theorem dX0_growOlder_32 : decode cX0_growOlder 32 = .ok (.if_icmp .ne 10, 3) := by decide +kernel
theorem dX0_growOlder_35 : decode cX0_growOlder 35 = .ok (.aload_n 1, 1) := by decide +kernel
theorem dX0_growOlder_36 : decode cX0_growOlder 36 = .ok (.iload_n 2, 1) := by decide +kernel
theorem dX0_growOlder_37 : decode cX0_growOlder 37 = .ok (.iconst 2, 1) := by decide +kernel
theorem dX0_growOlder_38 : decode cX0_growOlder 38 = .ok (.iconst 2, 1) := by decide +kernel
theorem dX0_growOlder_39 : decode cX0_growOlder 39 = .ok (.invokevirtual 56, 3) := by decide +kernel
theorem dX0_growOlder_42 : decode cX0_growOlder 42 = .ok (.return_, 1) := by decide +kernel
theorem dX0_arrange_0 : decode cX0_arrange 0 = .ok (.iconst 0, 1) := by decide +kernel
theorem dX0_arrange_1 : decode cX0_arrange 1 = .ok (.istore_n 3, 1) := by decide +kernel
theorem dX0_arrange_2 : decode cX0_arrange 2 = .ok (.iconst 0, 1) := by decide +kernel
theorem dX0_arrange_3 : decode cX0_arrange 3 = .ok (.istore 4, 2) := by decide +kernel
theorem dX0_arrange_5 : decode cX0_arrange 5 = .ok (.iload 4, 2) := by decide +kernel
theorem dX0_arrange_7 : decode cX0_arrange 7 = .ok (.iconst 4, 1) := by decide +kernel
theorem dX0_arrange_8 : decode cX0_arrange 8 = .ok (.if_icmp .ge 95, 3) := by decide +kernel
theorem dX0_arrange_11 : decode cX0_arrange 11 = .ok (.iload_n 3, 1) := by decide +kernel
theorem dX0_arrange_12 : decode cX0_arrange 12 = .ok (.iconst 4, 1) := by decide +kernel
theorem dX0_arrange_13 : decode cX0_arrange 13 = .ok (.if_icmp .ge 90, 3) := by decide +kernel
theorem dX0_arrange_16 : decode cX0_arrange 16 = .ok (.aload_n 1, 1) := by decide +kernel
theorem dX0_arrange_17 : decode cX0_arrange 17 = .ok (.iload 4, 2) := by decide +kernel
theorem dX0_arrange_19 : decode cX0_arrange 19 = .ok (.iconst 2, 1) := by decide +kernel
theorem dX0_arrange_20 : decode cX0_arrange 20 = .ok (.invokevirtual 26, 3) := by decide +kernel
theorem dX0_arrange_23 : decode cX0_arrange 23 = .ok (.iconst 3, 1) := by decide +kernel
theorem dX0_arrange_24 : decode cX0_arrange 24 = .ok (.if_icmp .ne 73, 3) := by decide +kernel
theorem dX0_arrange_27 : decode cX0_arrange 27 = .ok (.iload_n 2, 1) := by decide +kernel
theorem dX0_arrange_28 : decode cX0_arrange 28 = .ok (.iload 4, 2) := by decide +kernel
theorem dX0_arrange_30 : decode cX0_arrange 30 = .ok (.invokestatic 112, 3) := by decide +kernel
theorem dX0_arrange_33 : decode cX0_arrange 33 = .ok (.ifCond .eq 64, 3) := by decide +kernel
theorem dX0_arrange_36 : decode cX0_arrange 36 = .ok (.iload_n 3, 1) := by decide +kernel
theorem dX0_arrange_37 : decode cX0_arrange 37 = .ok (.istore 5, 2) := by decide +kernel
theorem dX0_arrange_39 : decode cX0_arrange 39 = .ok (.iload 5, 2) := by decide +kernel
theorem dX0_arrange_41 : decode cX0_arrange 41 = .ok (.ifCond .le 44, 3) := by decide +kernel
theorem dX0_arrange_44 : decode cX0_arrange 44 = .ok (.aload_n 0, 1) := by decide +kernel
theorem dX0_arrange_45 : decode cX0_arrange 45 = .ok (.aload_n 1, 1) := by decide +kernel
theorem dX0_arrange_46 : decode cX0_arrange 46 = .ok (.iload 4, 2) := by decide +kernel
theorem dX0_arrange_48 : decode cX0_arrange 48 = .ok (.aload_n 0, 1) := by decide +kernel
theorem dX0_arrange_49 : decode cX0_arrange 49 = .ok (.getfield 9, 3) := by decide +kernel
theorem dX0_arrange_52 : decode cX0_arrange 52 = .ok (.iload 5, 2) := by decide +kernel
theorem dX0_arrange_54 : decode cX0_arrange 54 = .ok (.iconst 1, 1) := by decide +kernel
theorem dX0_arrange_55 : decode cX0_arrange 55 = .ok (.isub, 1) := by decide +kernel
theorem dX0_arrange_56 : decode cX0_arrange 56 = .ok (.iaload, 1) := by decide +kernel
theorem dX0_arrange_57 : decode cX0_arrange 57 = .ok (.invokevirtual 125, 3) := by decide +kernel
theorem dX0_arrange_60 : decode cX0_arrange 60 = .ok (.ifCond .eq 25, 3) := by decide +kernel
theorem dX0_arrange_63 : decode cX0_arrange 63 = .ok (.aload_n 0, 1) := by decide +kernel
theorem dX0_arrange_64 : decode cX0_arrange 64 = .ok (.getfield 9, 3) := by decide +kernel
theorem dX0_arrange_67 : decode cX0_arrange 67 = .ok (.iload 5, 2) := by decide +kernel
theorem dX0_arrange_69 : decode cX0_arrange 69 = .ok (.aload_n 0, 1) := by decide +kernel
theorem dX0_arrange_70 : decode cX0_arrange 70 = .ok (.getfield 9, 3) := by decide +kernel
theorem dX0_arrange_73 : decode cX0_arrange 73 = .ok (.iload 5, 2) := by decide +kernel
theorem dX0_arrange_75 : decode cX0_arrange 75 = .ok (.iconst 1, 1) := by decide +kernel
theorem dX0_arrange_76 : decode cX0_arrange 76 = .ok (.isub, 1) := by decide +kernel
theorem dX0_arrange_77 : decode cX0_arrange 77 = .ok (.iaload, 1) := by decide +kernel
theorem dX0_arrange_78 : decode cX0_arrange 78 = .ok (.iastore, 1) := by decide +kernel
theorem dX0_arrange_79 : decode cX0_arrange 79 = .ok (.iinc 5 (-1), 3) := by decide +kernel
theorem dX0_arrange_82 : decode cX0_arrange 82 = .ok (.goto (-43), 3) := by decide +kernel
theorem dX0_arrange_85 : decode cX0_arrange 85 = .ok (.aload_n 0, 1) := by decide +kernel
theorem dX0_arrange_86 : decode cX0_arrange 86 = .ok (.getfield 9, 3) := by decide +kernel
theorem dX0_arrange_89 : decode cX0_arrange 89 = .ok (.iload 5, 2) := by decide +kernel
theorem dX0_arrange_91 : decode cX0_arrange 91 = .ok (.iload 4, 2) := by decide +kernel
theorem dX0_arrange_93 : decode cX0_arrange 93 = .ok (.iastore, 1) := by decide +kernel
theorem dX0_arrange_94 : decode cX0_arrange 94 = .ok (.iinc 3 1, 3) := by decide +kernel
theorem dX0_arrange_97 : decode cX0_arrange 97 = .ok (.iinc 4 1, 3) := by decide +kernel
theorem dX0_arrange_100 : decode cX0_arrange 100 = .ok (.goto (-95), 3) := by decide +kernel
theorem dX0_arrange_103 : decode cX0_arrange 103 = .ok (.iload_n 3, 1) := by decide +kernel
theorem dX0_arrange_104 : decode cX0_arrange 104 = .ok (.ireturn, 1) := by decide +kernel
theorem dX0_overtakes_0 : decode cX0_overtakes 0 = .ok (.aload_n 1, 1) := by decide +kernel
theorem dX0_overtakes_1 : decode cX0_overtakes 1 = .ok (.iload_n 2, 1) := by decide +kernel
theorem dX0_overtakes_2 : decode cX0_overtakes 2 = .ok (.iconst 1, 1) := by decide +kernel
theorem dX0_overtakes_3 : decode cX0_overtakes 3 = .ok (.invokevirtual 26, 3) := by decide +kernel
theorem dX0_overtakes_6 : decode cX0_overtakes 6 = .ok (.istore 4, 2) := by decide +kernel
theorem dX0_overtakes_8 : decode cX0_overtakes 8 = .ok (.aload_n 1, 1) := by decide +kernel
theorem dX0_overtakes_9 : decode cX0_overtakes 9 = .ok (.iload_n 3, 1) := by decide +kernel
theorem dX0_overtakes_10 : decode cX0_overtakes 10 = .ok (.iconst 1, 1) := by decide +kernel
theorem dX0_overtakes_11 : decode cX0_overtakes 11 = .ok (.invokevirtual 26, 3) := by decide +kernel
theorem dX0_overtakes_14 : decode cX0_overtakes 14 = .ok (.istore 5, 2) := by decide +kernel
theorem dX0_overtakes_16 : decode cX0_overtakes 16 = .ok (.aload_n 0, 1) := by decide +kernel
theorem dX0_overtakes_17 : decode cX0_overtakes 17 = .ok (.getfield 18, 3) := by decide +kernel
theorem dX0_overtakes_20 : decode cX0_overtakes 20 = .ok (.iload 4, 2) := by decide +kernel
theorem dX0_overtakes_22 : decode cX0_overtakes 22 = .ok (.iconst 2, 1) := by decide +kernel
theorem dX0_overtakes_23 : decode cX0_overtakes 23 = .ok (.invokevirtual 106, 3) := by decide +kernel
theorem dX0_overtakes_26 : decode cX0_overtakes 26 = .ok (.aload_n 0, 1) := by decide +kernel
theorem dX0_overtakes_27 : decode cX0_overtakes 27 = .ok (.getfield 18, 3) := by decide +kernel
theorem dX0_overtakes_30 : decode cX0_overtakes 30 = .ok (.iload 5, 2) := by decide +kernel
theorem dX0_overtakes_32 : decode cX0_overtakes 32 = .ok (.iconst 2, 1) := by decide +kernel
theorem dX0_overtakes_33 : decode cX0_overtakes 33 = .ok (.invokevirtual 106, 3) := by decide +kernel
theorem dX0_overtakes_36 : decode cX0_overtakes 36 = .ok (.isub, 1) := by decide +kernel
theorem dX0_overtakes_37 : decode cX0_overtakes 37 = .ok (.istore 6, 2) := by decide +kernel
theorem dX0_overtakes_39 : decode cX0_overtakes 39 = .ok (.iload 6, 2) := by decide +kernel
theorem dX0_overtakes_41 : decode cX0_overtakes 41 = .ok (.ifCond .gt 23, 3) := by decide +kernel
theorem dX0_overtakes_44 : decode cX0_overtakes 44 = .ok (.iload 6, 2) := by decide +kernel
theorem dX0_overtakes_46 : decode cX0_overtakes 46 = .ok (.ifCond .ne 22, 3) := by decide +kernel
theorem dX0_overtakes_49 : decode cX0_overtakes 49 = .ok (.aload_n 1, 1) := by decide +kernel
theorem dX0_overtakes_50 : decode cX0_overtakes 50 = .ok (.iload 4, 2) := by decide +kernel
theorem dX0_overtakes_52 : decode cX0_overtakes 52 = .ok (.invokevirtual 119, 3) := by decide +kernel
theorem dX0_overtakes_55 : decode cX0_overtakes 55 = .ok (.aload_n 1, 1) := by decide +kernel
theorem dX0_overtakes_56 : decode cX0_overtakes 56 = .ok (.iload 5, 2) := by decide +kernel
theorem dX0_overtakes_58 : decode cX0_overtakes 58 = .ok (.invokevirtual 119, 3) := by decide +kernel
theorem dX0_overtakes_61 : decode cX0_overtakes 61 = .ok (.if_icmp .le 7, 3) := by decide +kernel
theorem dX0_overtakes_64 : decode cX0_overtakes 64 = .ok (.iconst 1, 1) := by decide +kernel
theorem dX0_overtakes_65 : decode cX0_overtakes 65 = .ok (.goto 4, 3) := by decide +kernel
theorem dX0_overtakes_68 : decode cX0_overtakes 68 = .ok (.iconst 0, 1) := by decide +kernel
theorem dX0_overtakes_69 : decode cX0_overtakes 69 = .ok (.ireturn, 1) := by decide +kernel
theorem dX0_give_0 : decode cX0_give 0 = .ok (.aload_n 1, 1) := by decide +kernel
theorem dX0_give_1 : decode cX0_give 1 = .ok (.getfield 86, 3) := by decide +kernel
theorem dX0_give_4 : decode cX0_give 4 = .ok (.istore 4, 2) := by decide +kernel
theorem dX0_give_6 : decode cX0_give 6 = .ok (.iconst 0, 1) := by decide +kernel
theorem dX0_give_7 : decode cX0_give 7 = .ok (.istore 5, 2) := by decide +kernel
theorem dX0_give_9 : decode cX0_give 9 = .ok (.iload 5, 2) := by decide +kernel
theorem dX0_give_11 : decode cX0_give 11 = .ok (.iload_n 2, 1) := by decide +kernel
theorem dX0_give_12 : decode cX0_give 12 = .ok (.if_icmp .ge 44, 3) := by decide +kernel
theorem dX0_give_15 : decode cX0_give 15 = .ok (.iload 5, 2) := by decide +kernel
theorem dX0_give_17 : decode cX0_give 17 = .ok (.iconst 4, 1) := by decide +kernel
theorem dX0_give_18 : decode cX0_give 18 = .ok (.if_icmp .ge 38, 3) := by decide +kernel
theorem dX0_give_21 : decode cX0_give 21 = .ok (.aload_n 0, 1) := by decide +kernel
theorem dX0_give_22 : decode cX0_give 22 = .ok (.getfield 15, 3) := by decide +kernel
theorem dX0_give_25 : decode cX0_give 25 = .ok (.iload 5, 2) := by decide +kernel
theorem dX0_give_27 : decode cX0_give 27 = .ok (.iload 4, 2) := by decide +kernel
theorem dX0_give_29 : decode cX0_give 29 = .ok (.ifCond .le 7, 3) := by decide +kernel
theorem dX0_give_32 : decode cX0_give 32 = .ok (.iconst 1, 1) := by decide +kernel
theorem dX0_give_33 : decode cX0_give 33 = .ok (.goto 4, 3) := by decide +kernel
theorem dX0_give_36 : decode cX0_give 36 = .ok (.iconst 0, 1) := by decide +kernel
theorem dX0_give_37 : decode cX0_give 37 = .ok (.iastore, 1) := by decide +kernel
theorem dX0_give_38 : decode cX0_give 38 = .ok (.iload 4, 2) := by decide +kernel
theorem dX0_give_40 : decode cX0_give 40 = .ok (.aload_n 0, 1) := by decide +kernel
theorem dX0_give_41 : decode cX0_give 41 = .ok (.getfield 15, 3) := by decide +kernel
theorem dX0_give_44 : decode cX0_give 44 = .ok (.iload 5, 2) := by decide +kernel
theorem dX0_give_46 : decode cX0_give 46 = .ok (.iaload, 1) := by decide +kernel
theorem dX0_give_47 : decode cX0_give 47 = .ok (.isub, 1) := by decide +kernel
theorem dX0_give_48 : decode cX0_give 48 = .ok (.istore 4, 2) := by decide +kernel
theorem dX0_give_50 : decode cX0_give 50 = .ok (.iinc 5 1, 3) := by decide +kernel
theorem dX0_give_53 : decode cX0_give 53 = .ok (.goto (-44), 3) := by decide +kernel
theorem dX0_give_56 : decode cX0_give 56 = .ok (.iconst 0, 1) := by decide +kernel
theorem dX0_give_57 : decode cX0_give 57 = .ok (.istore 5, 2) := by decide +kernel
theorem dX0_give_59 : decode cX0_give 59 = .ok (.iload 5, 2) := by decide +kernel
theorem dX0_give_61 : decode cX0_give 61 = .ok (.iload_n 2, 1) := by decide +kernel
theorem dX0_give_62 : decode cX0_give 62 = .ok (.if_icmp .ge 62, 3) := by decide +kernel
theorem dX0_give_65 : decode cX0_give 65 = .ok (.iload 5, 2) := by decide +kernel
theorem dX0_give_67 : decode cX0_give 67 = .ok (.iconst 4, 1) := by decide +kernel
theorem dX0_give_68 : decode cX0_give 68 = .ok (.if_icmp .ge 56, 3) := by decide +kernel
theorem dX0_give_71 : decode cX0_give 71 = .ok (.iload 4, 2) := by decide +kernel
theorem dX0_give_73 : decode cX0_give 73 = .ok (.aload_n 0, 1) := by decide +kernel
theorem dX0_give_74 : decode cX0_give 74 = .ok (.aload_n 1, 1) := by decide +kernel
theorem dX0_give_75 : decode cX0_give 75 = .ok (.aload_n 0, 1) := by decide +kernel
theorem dX0_give_76 : decode cX0_give 76 = .ok (.getfield 9, 3) := by decide +kernel
theorem dX0_give_79 : decode cX0_give 79 = .ok (.iload 5, 2) := by decide +kernel
theorem dX0_give_81 : decode cX0_give 81 = .ok (.iaload, 1) := by decide +kernel
theorem dX0_give_82 : decode cX0_give 82 = .ok (.iload_n 3, 1) := by decide +kernel
theorem dX0_give_83 : decode cX0_give 83 = .ok (.invokevirtual 129, 3) := by decide +kernel
theorem dX0_give_86 : decode cX0_give 86 = .ok (.aload_n 0, 1) := by decide +kernel
theorem dX0_give_87 : decode cX0_give 87 = .ok (.getfield 15, 3) := by decide +kernel
theorem dX0_give_90 : decode cX0_give 90 = .ok (.iload 5, 2) := by decide +kernel
theorem dX0_give_92 : decode cX0_give 92 = .ok (.iaload, 1) := by decide +kernel
theorem dX0_give_93 : decode cX0_give 93 = .ok (.isub, 1) := by decide +kernel
theorem dX0_give_94 : decode cX0_give 94 = .ok (.invokestatic 132, 3) := by decide +kernel
theorem dX0_give_97 : decode cX0_give 97 = .ok (.istore 6, 2) := by decide +kernel
theorem dX0_give_99 : decode cX0_give 99 = .ok (.aload_n 0, 1) := by decide +kernel
theorem dX0_give_100 : decode cX0_give 100 = .ok (.getfield 15, 3) := by decide +kernel
theorem dX0_give_103 : decode cX0_give 103 = .ok (.iload 5, 2) := by decide +kernel
theorem dX0_give_105 : decode cX0_give 105 = .ok (.dup2, 1) := by decide +kernel
theorem dX0_give_106 : decode cX0_give 106 = .ok (.iaload, 1) := by decide +kernel
theorem dX0_give_107 : decode cX0_give 107 = .ok (.iload 6, 2) := by decide +kernel
theorem dX0_give_109 : decode cX0_give 109 = .ok (.iadd, 1) := by decide +kernel
theorem dX0_give_110 : decode cX0_give 110 = .ok (.iastore, 1) := by decide +kernel
theorem dX0_give_111 : decode cX0_give 111 = .ok (.iload 4, 2) := by decide +kernel
theorem dX0_give_113 : decode cX0_give 113 = .ok (.iload 6, 2) := by decide +kernel
theorem dX0_give_115 : decode cX0_give 115 = .ok (.isub, 1) := by decide +kernel
theorem dX0_give_116 : decode cX0_give 116 = .ok (.istore 4, 2) := by decide +kernel
theorem dX0_give_118 : decode cX0_give 118 = .ok (.iinc 5 1, 3) := by decide +kernel
theorem dX0_give_121 : decode cX0_give 121 = .ok (.goto (-62), 3) := by decide +kernel
theorem dX0_give_124 : decode cX0_give 124 = .ok (.return_, 1) := by decide +kernel
theorem dX0_mostFor_0 : decode cX0_mostFor 0 = .ok (.aload_n 1, 1) := by decide +kernel
theorem dX0_mostFor_1 : decode cX0_mostFor 1 = .ok (.iload_n 2, 1) := by decide +kernel
theorem dX0_mostFor_2 : decode cX0_mostFor 2 = .ok (.iconst 1, 1) := by decide +kernel
theorem dX0_mostFor_3 : decode cX0_mostFor 3 = .ok (.invokevirtual 26, 3) := by decide +kernel
theorem dX0_mostFor_6 : decode cX0_mostFor 6 = .ok (.istore 4, 2) := by decide +kernel
theorem dX0_mostFor_8 : decode cX0_mostFor 8 = .ok (.aload_n 0, 1) := by decide +kernel
theorem dX0_mostFor_9 : decode cX0_mostFor 9 = .ok (.getfield 18, 3) := by decide +kernel
theorem dX0_mostFor_12 : decode cX0_mostFor 12 = .ok (.iload 4, 2) := by decide +kernel
theorem dX0_mostFor_14 : decode cX0_mostFor 14 = .ok (.iconst 1, 1) := by decide +kernel
theorem dX0_mostFor_15 : decode cX0_mostFor 15 = .ok (.invokevirtual 106, 3) := by decide +kernel
theorem dX0_mostFor_18 : decode cX0_mostFor 18 = .ok (.aload_n 0, 1) := by decide +kernel
theorem dX0_mostFor_19 : decode cX0_mostFor 19 = .ok (.getfield 18, 3) := by decide +kernel
theorem dX0_mostFor_22 : decode cX0_mostFor 22 = .ok (.iload_n 2, 1) := by decide +kernel
theorem dX0_mostFor_23 : decode cX0_mostFor 23 = .ok (.invokevirtual 137, 3) := by decide +kernel
theorem dX0_mostFor_26 : decode cX0_mostFor 26 = .ok (.invokestatic 132, 3) := by decide +kernel
theorem dX0_mostFor_29 : decode cX0_mostFor 29 = .ok (.istore 5, 2) := by decide +kernel
theorem dX0_mostFor_31 : decode cX0_mostFor 31 = .ok (.iload 5, 2) := by decide +kernel
theorem dX0_mostFor_33 : decode cX0_mostFor 33 = .ok (.aload_n 1, 1) := by decide +kernel
theorem dX0_mostFor_34 : decode cX0_mostFor 34 = .ok (.iload 4, 2) := by decide +kernel
theorem dX0_mostFor_36 : decode cX0_mostFor 36 = .ok (.invokevirtual 119, 3) := by decide +kernel
theorem dX0_mostFor_39 : decode cX0_mostFor 39 = .ok (.invokestatic 132, 3) := by decide +kernel
theorem dX0_mostFor_42 : decode cX0_mostFor 42 = .ok (.istore 5, 2) := by decide +kernel
theorem dX0_mostFor_44 : decode cX0_mostFor 44 = .ok (.aload_n 0, 1) := by decide +kernel
theorem dX0_mostFor_45 : decode cX0_mostFor 45 = .ok (.aload_n 1, 1) := by decide +kernel
theorem dX0_mostFor_46 : decode cX0_mostFor 46 = .ok (.iload_n 2, 1) := by decide +kernel
theorem dX0_mostFor_47 : decode cX0_mostFor 47 = .ok (.iload_n 3, 1) := by decide +kernel
theorem dX0_mostFor_48 : decode cX0_mostFor 48 = .ok (.invokevirtual 70, 3) := by decide +kernel
theorem dX0_mostFor_51 : decode cX0_mostFor 51 = .ok (.iconst 2, 1) := by decide +kernel
theorem dX0_mostFor_52 : decode cX0_mostFor 52 = .ok (.if_icmp .ne 12, 3) := by decide +kernel
theorem dX0_mostFor_55 : decode cX0_mostFor 55 = .ok (.iload 5, 2) := by decide +kernel
theorem dX0_mostFor_57 : decode cX0_mostFor 57 = .ok (.iconst 2, 1) := by decide +kernel
theorem dX0_mostFor_58 : decode cX0_mostFor 58 = .ok (.invokestatic 132, 3) := by decide +kernel
theorem dX0_mostFor_61 : decode cX0_mostFor 61 = .ok (.goto 5, 3) := by decide +kernel
theorem dX0_mostFor_64 : decode cX0_mostFor 64 = .ok (.iload 5, 2) := by decide +kernel
theorem dX0_mostFor_66 : decode cX0_mostFor 66 = .ok (.ireturn, 1) := by decide +kernel
theorem dX0_draw_0 : decode cX0_draw 0 = .ok (.iconst 0, 1) := by decide +kernel
theorem dX0_draw_1 : decode cX0_draw 1 = .ok (.istore 4, 2) := by decide +kernel
theorem dX0_draw_3 : decode cX0_draw 3 = .ok (.iload 4, 2) := by decide +kernel
theorem dX0_draw_5 : decode cX0_draw 5 = .ok (.iload_n 2, 1) := by decide +kernel
theorem dX0_draw_6 : decode cX0_draw 6 = .ok (.if_icmp .ge 112, 3) := by decide +kernel
theorem dX0_draw_9 : decode cX0_draw 9 = .ok (.iload 4, 2) := by decide +kernel
theorem dX0_draw_11 : decode cX0_draw 11 = .ok (.iconst 4, 1) := by decide +kernel
theorem dX0_draw_12 : decode cX0_draw 12 = .ok (.if_icmp .ge 106, 3) := by decide +kernel
theorem dX0_draw_15 : decode cX0_draw 15 = .ok (.aload_n 0, 1) := by decide +kernel
theorem dX0_draw_16 : decode cX0_draw 16 = .ok (.aload_n 1, 1) := by decide +kernel
theorem dX0_draw_17 : decode cX0_draw 17 = .ok (.aload_n 0, 1) := by decide +kernel
theorem dX0_draw_18 : decode cX0_draw 18 = .ok (.getfield 9, 3) := by decide +kernel
theorem dX0_draw_21 : decode cX0_draw 21 = .ok (.iload 4, 2) := by decide +kernel
theorem dX0_draw_23 : decode cX0_draw 23 = .ok (.iaload, 1) := by decide +kernel
theorem dX0_draw_24 : decode cX0_draw 24 = .ok (.iload_n 3, 1) := by decide +kernel
theorem dX0_draw_25 : decode cX0_draw 25 = .ok (.invokevirtual 70, 3) := by decide +kernel
theorem dX0_draw_28 : decode cX0_draw 28 = .ok (.iconst 1, 1) := by decide +kernel
theorem dX0_draw_29 : decode cX0_draw 29 = .ok (.if_icmp .ne 7, 3) := by decide +kernel
theorem dX0_draw_32 : decode cX0_draw 32 = .ok (.iconst 1, 1) := by decide +kernel
theorem dX0_draw_33 : decode cX0_draw 33 = .ok (.goto 4, 3) := by decide +kernel
theorem dX0_draw_36 : decode cX0_draw 36 = .ok (.iconst 0, 1) := by decide +kernel
theorem dX0_draw_37 : decode cX0_draw 37 = .ok (.istore 5, 2) := by decide +kernel
theorem dX0_draw_39 : decode cX0_draw 39 = .ok (.aload_n 0, 1) := by decide +kernel
theorem dX0_draw_40 : decode cX0_draw 40 = .ok (.getfield 15, 3) := by decide +kernel
theorem dX0_draw_43 : decode cX0_draw 43 = .ok (.iload 4, 2) := by decide +kernel
theorem dX0_draw_45 : decode cX0_draw 45 = .ok (.iaload, 1) := by decide +kernel
theorem dX0_draw_46 : decode cX0_draw 46 = .ok (.ifCond .le 39, 3) := by decide +kernel
theorem dX0_draw_49 : decode cX0_draw 49 = .ok (.aload_n 0, 1) := by decide +kernel
theorem dX0_draw_50 : decode cX0_draw 50 = .ok (.aload_n 1, 1) := by decide +kernel
theorem dX0_draw_51 : decode cX0_draw 51 = .ok (.aload_n 0, 1) := by decide +kernel
theorem dX0_draw_52 : decode cX0_draw 52 = .ok (.getfield 9, 3) := by decide +kernel
theorem dX0_draw_55 : decode cX0_draw 55 = .ok (.iload 4, 2) := by decide +kernel
theorem dX0_draw_57 : decode cX0_draw 57 = .ok (.iaload, 1) := by decide +kernel
theorem dX0_draw_58 : decode cX0_draw 58 = .ok (.iload 5, 2) := by decide +kernel
theorem dX0_draw_60 : decode cX0_draw 60 = .ok (.ifCond .eq 15, 3) := by decide +kernel
theorem dX0_draw_63 : decode cX0_draw 63 = .ok (.aload_n 0, 1) := by decide +kernel
theorem dX0_draw_64 : decode cX0_draw 64 = .ok (.getfield 15, 3) := by decide +kernel
theorem dX0_draw_67 : decode cX0_draw 67 = .ok (.iload 4, 2) := by decide +kernel
theorem dX0_draw_69 : decode cX0_draw 69 = .ok (.iaload, 1) := by decide +kernel
theorem dX0_draw_70 : decode cX0_draw 70 = .ok (.iconst 1, 1) := by decide +kernel
theorem dX0_draw_71 : decode cX0_draw 71 = .ok (.iadd, 1) := by decide +kernel
theorem dX0_draw_72 : decode cX0_draw 72 = .ok (.goto 10, 3) := by decide +kernel
theorem dX0_draw_75 : decode cX0_draw 75 = .ok (.aload_n 0, 1) := by decide +kernel
theorem dX0_draw_76 : decode cX0_draw 76 = .ok (.getfield 15, 3) := by decide +kernel
theorem dX0_draw_79 : decode cX0_draw 79 = .ok (.iload 4, 2) := by decide +kernel
theorem dX0_draw_81 : decode cX0_draw 81 = .ok (.iaload, 1) := by decide +kernel
theorem dX0_draw_82 : decode cX0_draw 82 = .ok (.invokevirtual 140, 3) := by decide +kernel
theorem dX0_draw_85 : decode cX0_draw 85 = .ok (.aload_n 0, 1) := by decide +kernel
theorem dX0_draw_86 : decode cX0_draw 86 = .ok (.getfield 15, 3) := by decide +kernel
theorem dX0_draw_89 : decode cX0_draw 89 = .ok (.iload 4, 2) := by decide +kernel
theorem dX0_draw_91 : decode cX0_draw 91 = .ok (.iaload, 1) := by decide +kernel
theorem dX0_draw_92 : decode cX0_draw 92 = .ok (.ifCond .le 20, 3) := by decide +kernel
theorem dX0_draw_95 : decode cX0_draw 95 = .ok (.iload 5, 2) := by decide +kernel
theorem dX0_draw_97 : decode cX0_draw 97 = .ok (.ifCond .eq 15, 3) := by decide +kernel
theorem dX0_draw_100 : decode cX0_draw 100 = .ok (.aload_n 0, 1) := by decide +kernel
theorem dX0_draw_101 : decode cX0_draw 101 = .ok (.aload_n 1, 1) := by decide +kernel
theorem dX0_draw_102 : decode cX0_draw 102 = .ok (.aload_n 0, 1) := by decide +kernel
theorem dX0_draw_103 : decode cX0_draw 103 = .ok (.getfield 9, 3) := by decide +kernel
theorem dX0_draw_106 : decode cX0_draw 106 = .ok (.iload 4, 2) := by decide +kernel
theorem dX0_draw_108 : decode cX0_draw 108 = .ok (.iaload, 1) := by decide +kernel
theorem dX0_draw_109 : decode cX0_draw 109 = .ok (.invokevirtual 143, 3) := by decide +kernel
theorem dX0_draw_112 : decode cX0_draw 112 = .ok (.iinc 4 1, 3) := by decide +kernel
theorem dX0_draw_115 : decode cX0_draw 115 = .ok (.goto (-112), 3) := by decide +kernel
theorem dX0_draw_118 : decode cX0_draw 118 = .ok (.return_, 1) := by decide +kernel
theorem dX0_meter_0 : decode cX0_meter 0 = .ok (.aload_n 1, 1) := by decide +kernel
theorem dX0_meter_1 : decode cX0_meter 1 = .ok (.iload_n 2, 1) := by decide +kernel
theorem dX0_meter_2 : decode cX0_meter 2 = .ok (.iconst 1, 1) := by decide +kernel
theorem dX0_meter_3 : decode cX0_meter 3 = .ok (.invokevirtual 26, 3) := by decide +kernel
theorem dX0_meter_6 : decode cX0_meter 6 = .ok (.istore 4, 2) := by decide +kernel
theorem dX0_meter_8 : decode cX0_meter 8 = .ok (.aload_n 1, 1) := by decide +kernel
theorem dX0_meter_9 : decode cX0_meter 9 = .ok (.iload 4, 2) := by decide +kernel
theorem dX0_meter_11 : decode cX0_meter 11 = .ok (.iconst 0, 1) := by decide +kernel
theorem dX0_meter_12 : decode cX0_meter 12 = .ok (.aload_n 1, 1) := by decide +kernel
theorem dX0_meter_13 : decode cX0_meter 13 = .ok (.iload 4, 2) := by decide +kernel
theorem dX0_meter_15 : decode cX0_meter 15 = .ok (.invokevirtual 119, 3) := by decide +kernel
theorem dX0_meter_18 : decode cX0_meter 18 = .ok (.iload_n 3, 1) := by decide +kernel
theorem dX0_meter_19 : decode cX0_meter 19 = .ok (.isub, 1) := by decide +kernel
theorem dX0_meter_20 : decode cX0_meter 20 = .ok (.invokestatic 146, 3) := by decide +kernel
theorem dX0_meter_23 : decode cX0_meter 23 = .ok (.invokevirtual 149, 3) := by decide +kernel
theorem dX0_meter_26 : decode cX0_meter 26 = .ok (.aload_n 1, 1) := by decide +kernel
theorem dX0_meter_27 : decode cX0_meter 27 = .ok (.iload_n 2, 1) := by decide +kernel
theorem dX0_meter_28 : decode cX0_meter 28 = .ok (.bipush 7, 2) := by decide +kernel
theorem dX0_meter_30 : decode cX0_meter 30 = .ok (.aload_n 1, 1) := by decide +kernel
theorem dX0_meter_31 : decode cX0_meter 31 = .ok (.iload_n 2, 1) := by decide +kernel
theorem dX0_meter_32 : decode cX0_meter 32 = .ok (.bipush 7, 2) := by decide +kernel
theorem dX0_meter_34 : decode cX0_meter 34 = .ok (.invokevirtual 26, 3) := by decide +kernel
theorem dX0_meter_37 : decode cX0_meter 37 = .ok (.iload_n 3, 1) := by decide +kernel
theorem dX0_meter_38 : decode cX0_meter 38 = .ok (.iadd, 1) := by decide +kernel
theorem dX0_meter_39 : decode cX0_meter 39 = .ok (.invokevirtual 56, 3) := by decide +kernel
theorem dX0_meter_42 : decode cX0_meter 42 = .ok (.aload_n 1, 1) := by decide +kernel
theorem dX0_meter_43 : decode cX0_meter 43 = .ok (.iload_n 2, 1) := by decide +kernel
theorem dX0_meter_44 : decode cX0_meter 44 = .ok (.bipush 8, 2) := by decide +kernel
theorem dX0_meter_46 : decode cX0_meter 46 = .ok (.aload_n 1, 1) := by decide +kernel
theorem dX0_meter_47 : decode cX0_meter 47 = .ok (.iload_n 2, 1) := by decide +kernel
theorem dX0_meter_48 : decode cX0_meter 48 = .ok (.bipush 8, 2) := by decide +kernel
theorem dX0_meter_50 : decode cX0_meter 50 = .ok (.invokevirtual 26, 3) := by decide +kernel
theorem dX0_meter_53 : decode cX0_meter 53 = .ok (.iload_n 2, 1) := by decide +kernel
theorem dX0_meter_54 : decode cX0_meter 54 = .ok (.iload_n 3, 1) := by decide +kernel
theorem dX0_meter_55 : decode cX0_meter 55 = .ok (.invokestatic 152, 3) := by decide +kernel
theorem dX0_meter_58 : decode cX0_meter 58 = .ok (.invokevirtual 56, 3) := by decide +kernel
theorem dX0_meter_61 : decode cX0_meter 61 = .ok (.return_, 1) := by decide +kernel
theorem dX0_exceed_0 : decode cX0_exceed 0 = .ok (.aload_n 1, 1) := by decide +kernel
theorem dX0_exceed_1 : decode cX0_exceed 1 = .ok (.iload_n 2, 1) := by decide +kernel
theorem dX0_exceed_2 : decode cX0_exceed 2 = .ok (.bipush 6, 2) := by decide +kernel
theorem dX0_exceed_4 : decode cX0_exceed 4 = .ok (.invokevirtual 26, 3) := by decide +kernel
theorem dX0_exceed_7 : decode cX0_exceed 7 = .ok (.iconst 1, 1) := by decide +kernel
theorem dX0_exceed_8 : decode cX0_exceed 8 = .ok (.iadd, 1) := by decide +kernel
theorem dX0_exceed_9 : decode cX0_exceed 9 = .ok (.istore_n 3, 1) := by decide +kernel
theorem dX0_exceed_10 : decode cX0_exceed 10 = .ok (.iload_n 3, 1) := by decide +kernel
theorem dX0_exceed_11 : decode cX0_exceed 11 = .ok (.iconst 2, 1) := by decide +kernel
theorem dX0_exceed_12 : decode cX0_exceed 12 = .ok (.if_icmp .ne 12, 3) := by decide +kernel
theorem dX0_exceed_15 : decode cX0_exceed 15 = .ok (.aload_n 1, 1) := by decide +kernel
theorem dX0_exceed_16 : decode cX0_exceed 16 = .ok (.iload_n 2, 1) := by decide +kernel
theorem dX0_exceed_17 : decode cX0_exceed 17 = .ok (.iconst 2, 1) := by decide +kernel
theorem dX0_exceed_18 : decode cX0_exceed 18 = .ok (.iconst 4, 1) := by decide +kernel
theorem dX0_exceed_19 : decode cX0_exceed 19 = .ok (.invokevirtual 56, 3) := by decide +kernel
theorem dX0_exceed_22 : decode cX0_exceed 22 = .ok (.iconst 0, 1) := by decide +kernel
theorem dX0_exceed_23 : decode cX0_exceed 23 = .ok (.istore_n 3, 1) := by decide +kernel
theorem dX0_exceed_24 : decode cX0_exceed 24 = .ok (.aload_n 1, 1) := by decide +kernel
theorem dX0_exceed_25 : decode cX0_exceed 25 = .ok (.iload_n 2, 1) := by decide +kernel
theorem dX0_exceed_26 : decode cX0_exceed 26 = .ok (.bipush 6, 2) := by decide +kernel
theorem dX0_exceed_28 : decode cX0_exceed 28 = .ok (.iload_n 3, 1) := by decide +kernel
theorem dX0_exceed_29 : decode cX0_exceed 29 = .ok (.invokevirtual 56, 3) := by decide +kernel
theorem dX0_exceed_32 : decode cX0_exceed 32 = .ok (.return_, 1) := by decide +kernel
theorem dX1_init_0 : decode cX1_init 0 = .ok (.aload_n 0, 1) := by decide +kernel
theorem dX1_init_1 : decode cX1_init 1 = .ok (.invokespecial 3, 3) := by decide +kernel
theorem dX1_init_4 : decode cX1_init 4 = .ok (.aload_n 0, 1) := by decide +kernel
theorem dX1_init_5 : decode cX1_init 5 = .ok (.bipush 14, 2) := by decide +kernel
theorem dX1_init_7 : decode cX1_init 7 = .ok (.anewarray 9, 3) := by decide +kernel
theorem dX1_init_10 : decode cX1_init 10 = .ok (.putfield 11, 3) := by decide +kernel
theorem dX1_init_13 : decode cX1_init 13 = .ok (.iconst 0, 1) := by decide +kernel
theorem dX1_init_14 : decode cX1_init 14 = .ok (.istore_n 1, 1) := by decide +kernel
theorem dX1_init_15 : decode cX1_init 15 = .ok (.iload_n 1, 1) := by decide +kernel
theorem dX1_init_16 : decode cX1_init 16 = .ok (.bipush 14, 2) := by decide +kernel
theorem dX1_init_18 : decode cX1_init 18 = .ok (.if_icmp .ge 22, 3) := by decide +kernel
theorem dX1_init_21 : decode cX1_init 21 = .ok (.aload_n 0, 1) := by decide +kernel
theorem dX1_init_22 : decode cX1_init 22 = .ok (.getfield 11, 3) := by decide +kernel
theorem dX1_init_25 : decode cX1_init 25 = .ok (.iload_n 1, 1) := by decide +kernel
theorem dX1_init_26 : decode cX1_init 26 = .ok (.new 9, 3) := by decide +kernel
theorem dX1_init_29 : decode cX1_init 29 = .ok (.dup, 1) := by decide +kernel
theorem dX1_init_30 : decode cX1_init 30 = .ok (.invokespecial 17, 3) := by decide +kernel
theorem dX1_init_33 : decode cX1_init 33 = .ok (.aastore, 1) := by decide +kernel
theorem dX1_init_34 : decode cX1_init 34 = .ok (.iinc 1 1, 3) := by decide +kernel
theorem dX1_init_37 : decode cX1_init 37 = .ok (.goto (-22), 3) := by decide +kernel
theorem dX1_init_40 : decode cX1_init 40 = .ok (.return_, 1) := by decide +kernel
theorem dX1_remember_0 : decode cX1_remember 0 = .ok (.aload_n 0, 1) := by decide +kernel
theorem dX1_remember_1 : decode cX1_remember 1 = .ok (.getfield 11, 3) := by decide +kernel
theorem dX1_remember_4 : decode cX1_remember 4 = .ok (.aload_n 0, 1) := by decide +kernel
theorem dX1_remember_5 : decode cX1_remember 5 = .ok (.getfield 18, 3) := by decide +kernel
theorem dX1_remember_8 : decode cX1_remember 8 = .ok (.aaload, 1) := by decide +kernel
theorem dX1_remember_9 : decode cX1_remember 9 = .ok (.aload_n 1, 1) := by decide +kernel
theorem dX1_remember_10 : decode cX1_remember 10 = .ok (.invokevirtual 22, 3) := by decide +kernel
theorem dX1_remember_13 : decode cX1_remember 13 = .ok (.aload_n 0, 1) := by decide +kernel
theorem dX1_remember_14 : decode cX1_remember 14 = .ok (.aload_n 0, 1) := by decide +kernel
theorem dX1_remember_15 : decode cX1_remember 15 = .ok (.getfield 18, 3) := by decide +kernel
theorem dX1_remember_18 : decode cX1_remember 18 = .ok (.iconst 1, 1) := by decide +kernel
theorem dX1_remember_19 : decode cX1_remember 19 = .ok (.iadd, 1) := by decide +kernel
theorem dX1_remember_20 : decode cX1_remember 20 = .ok (.bipush 14, 2) := by decide +kernel
theorem dX1_remember_22 : decode cX1_remember 22 = .ok (.if_icmp .ge 12, 3) := by decide +kernel
theorem dX1_remember_25 : decode cX1_remember 25 = .ok (.aload_n 0, 1) := by decide +kernel
theorem dX1_remember_26 : decode cX1_remember 26 = .ok (.getfield 18, 3) := by decide +kernel
theorem dX1_remember_29 : decode cX1_remember 29 = .ok (.iconst 1, 1) := by decide +kernel
theorem dX1_remember_30 : decode cX1_remember 30 = .ok (.iadd, 1) := by decide +kernel
theorem dX1_remember_31 : decode cX1_remember 31 = .ok (.goto 4, 3) := by decide +kernel
theorem dX1_remember_34 : decode cX1_remember 34 = .ok (.iconst 0, 1) := by decide +kernel
theorem dX1_remember_35 : decode cX1_remember 35 = .ok (.putfield 18, 3) := by decide +kernel
theorem dX1_remember_38 : decode cX1_remember 38 = .ok (.aload_n 0, 1) := by decide +kernel
theorem dX1_remember_39 : decode cX1_remember 39 = .ok (.aload_n 0, 1) := by decide +kernel
theorem dX1_remember_40 : decode cX1_remember 40 = .ok (.getfield 26, 3) := by decide +kernel
theorem dX1_remember_43 : decode cX1_remember 43 = .ok (.iconst 1, 1) := by decide +kernel
theorem dX1_remember_44 : decode cX1_remember 44 = .ok (.iadd, 1) := by decide +kernel
theorem dX1_remember_45 : decode cX1_remember 45 = .ok (.bipush 14, 2) := by decide +kernel
theorem dX1_remember_47 : decode cX1_remember 47 = .ok (.invokestatic 29, 3) := by decide +kernel
theorem dX1_remember_50 : decode cX1_remember 50 = .ok (.putfield 26, 3) := by decide +kernel
theorem dX1_remember_53 : decode cX1_remember 53 = .ok (.return_, 1) := by decide +kernel
theorem dX1_restore_0 : decode cX1_restore 0 = .ok (.aload_n 0, 1) := by decide +kernel
theorem dX1_restore_1 : decode cX1_restore 1 = .ok (.getfield 26, 3) := by decide +kernel
theorem dX1_restore_4 : decode cX1_restore 4 = .ok (.ifCond .ne 6, 3) := by decide +kernel
theorem dX1_restore_7 : decode cX1_restore 7 = .ok (.bipush (-3), 2) := by decide +kernel
theorem dX1_restore_9 : decode cX1_restore 9 = .ok (.ireturn, 1) := by decide +kernel
theorem dX1_restore_10 : decode cX1_restore 10 = .ok (.aload_n 0, 1) := by decide +kernel
theorem dX1_restore_11 : decode cX1_restore 11 = .ok (.aload_n 0, 1) := by decide +kernel
theorem dX1_restore_12 : decode cX1_restore 12 = .ok (.getfield 18, 3) := by decide +kernel
theorem dX1_restore_15 : decode cX1_restore 15 = .ok (.ifCond .le 12, 3) := by decide +kernel
theorem dX1_restore_18 : decode cX1_restore 18 = .ok (.aload_n 0, 1) := by decide +kernel
theorem dX1_restore_19 : decode cX1_restore 19 = .ok (.getfield 18, 3) := by decide +kernel
theorem dX1_restore_22 : decode cX1_restore 22 = .ok (.iconst 1, 1) := by decide +kernel
theorem dX1_restore_23 : decode cX1_restore 23 = .ok (.isub, 1) := by decide +kernel
theorem dX1_restore_24 : decode cX1_restore 24 = .ok (.goto 5, 3) := by decide +kernel
theorem dX1_restore_27 : decode cX1_restore 27 = .ok (.bipush 13, 2) := by decide +kernel
theorem dX1_restore_29 : decode cX1_restore 29 = .ok (.putfield 18, 3) := by decide +kernel
theorem dX1_restore_32 : decode cX1_restore 32 = .ok (.aload_n 0, 1) := by decide +kernel
theorem dX1_restore_33 : decode cX1_restore 33 = .ok (.dup, 1) := by decide +kernel
theorem dX1_restore_34 : decode cX1_restore 34 = .ok (.getfield 26, 3) := by decide +kernel
theorem dX1_restore_37 : decode cX1_restore 37 = .ok (.iconst 1, 1) := by decide +kernel
theorem dX1_restore_38 : decode cX1_restore 38 = .ok (.isub, 1) := by decide +kernel
theorem dX1_restore_39 : decode cX1_restore 39 = .ok (.putfield 26, 3) := by decide +kernel
theorem dX1_restore_42 : decode cX1_restore 42 = .ok (.aload_n 1, 1) := by decide +kernel
theorem dX1_restore_43 : decode cX1_restore 43 = .ok (.aload_n 0, 1) := by decide +kernel
theorem dX1_restore_44 : decode cX1_restore 44 = .ok (.getfield 11, 3) := by decide +kernel
theorem dX1_restore_47 : decode cX1_restore 47 = .ok (.aload_n 0, 1) := by decide +kernel
theorem dX1_restore_48 : decode cX1_restore 48 = .ok (.getfield 18, 3) := by decide +kernel
theorem dX1_restore_51 : decode cX1_restore 51 = .ok (.aaload, 1) := by decide +kernel
theorem dX1_restore_52 : decode cX1_restore 52 = .ok (.invokevirtual 22, 3) := by decide +kernel
theorem dX1_restore_55 : decode cX1_restore 55 = .ok (.aload_n 0, 1) := by decide +kernel
theorem dX1_restore_56 : decode cX1_restore 56 = .ok (.getfield 26, 3) := by decide +kernel
theorem dX1_restore_59 : decode cX1_restore 59 = .ok (.ireturn, 1) := by decide +kernel
theorem dX2_init_0 : decode cX2_init 0 = .ok (.aload_n 0, 1) := by decide +kernel
theorem dX2_init_1 : decode cX2_init 1 = .ok (.invokespecial 3, 3) := by decide +kernel
theorem dX2_init_4 : decode cX2_init 4 = .ok (.aload_n 0, 1) := by decide +kernel
theorem dX2_init_5 : decode cX2_init 5 = .ok (.bipush 6, 2) := by decide +kernel
theorem dX2_init_7 : decode cX2_init 7 = .ok (.newarray .int, 2) := by decide +kernel
theorem dX2_init_9 : decode cX2_init 9 = .ok (.putfield 9, 3) := by decide +kernel
theorem dX2_init_12 : decode cX2_init 12 = .ok (.aload_n 0, 1) := by decide +kernel
theorem dX2_init_13 : decode cX2_init 13 = .ok (.bipush 6, 2) := by decide +kernel
theorem dX2_init_15 : decode cX2_init 15 = .ok (.newarray .int, 2) := by decide +kernel
theorem dX2_init_17 : decode cX2_init 17 = .ok (.putfield 15, 3) := by decide +kernel
theorem dX2_init_20 : decode cX2_init 20 = .ok (.aload_n 0, 1) := by decide +kernel
theorem dX2_init_21 : decode cX2_init 21 = .ok (.bipush 6, 2) := by decide +kernel
theorem dX2_init_23 : decode cX2_init 23 = .ok (.newarray .int, 2) := by decide +kernel
theorem dX2_init_25 : decode cX2_init 25 = .ok (.putfield 18, 3) := by decide +kernel
theorem dX2_init_28 : decode cX2_init 28 = .ok (.return_, 1) := by decide +kernel
theorem dX2_add_0 : decode cX2_add 0 = .ok (.aload_n 0, 1) := by decide +kernel
theorem dX2_add_1 : decode cX2_add 1 = .ok (.getfield 21, 3) := by decide +kernel
theorem dX2_add_4 : decode cX2_add 4 = .ok (.ifCond .lt 12, 3) := by decide +kernel
theorem dX2_add_7 : decode cX2_add 7 = .ok (.aload_n 0, 1) := by decide +kernel
theorem dX2_add_8 : decode cX2_add 8 = .ok (.getfield 21, 3) := by decide +kernel
theorem dX2_add_11 : decode cX2_add 11 = .ok (.bipush 6, 2) := by decide +kernel
theorem dX2_add_13 : decode cX2_add 13 = .ok (.if_icmp .lt 5, 3) := by decide +kernel
theorem dX2_add_16 : decode cX2_add 16 = .ok (.iconst 0, 1) := by decide +kernel
theorem dX2_add_17 : decode cX2_add 17 = .ok (.ireturn, 1) := by decide +kernel
theorem dX2_add_18 : decode cX2_add 18 = .ok (.aload_n 0, 1) := by decide +kernel
theorem dX2_add_19 : decode cX2_add 19 = .ok (.getfield 9, 3) := by decide +kernel
theorem dX2_add_22 : decode cX2_add 22 = .ok (.aload_n 0, 1) := by decide +kernel
theorem dX2_add_23 : decode cX2_add 23 = .ok (.getfield 21, 3) := by decide +kernel
theorem dX2_add_26 : decode cX2_add 26 = .ok (.iload_n 1, 1) := by decide +kernel
theorem dX2_add_27 : decode cX2_add 27 = .ok (.iastore, 1) := by decide +kernel
theorem dX2_add_28 : decode cX2_add 28 = .ok (.aload_n 0, 1) := by decide +kernel
theorem dX2_add_29 : decode cX2_add 29 = .ok (.getfield 15, 3) := by decide +kernel
theorem dX2_add_32 : decode cX2_add 32 = .ok (.aload_n 0, 1) := by decide +kernel
theorem dX2_add_33 : decode cX2_add 33 = .ok (.getfield 21, 3) := by decide +kernel
theorem dX2_add_36 : decode cX2_add 36 = .ok (.iload_n 2, 1) := by decide +kernel
theorem dX2_add_37 : decode cX2_add 37 = .ok (.iastore, 1) := by decide +kernel
theorem dX2_add_38 : decode cX2_add 38 = .ok (.aload_n 0, 1) := by decide +kernel
theorem dX2_add_39 : decode cX2_add 39 = .ok (.getfield 18, 3) := by decide +kernel
theorem dX2_add_42 : decode cX2_add 42 = .ok (.aload_n 0, 1) := by decide +kernel
theorem dX2_add_43 : decode cX2_add 43 = .ok (.getfield 21, 3) := by decide +kernel
theorem dX2_add_46 : decode cX2_add 46 = .ok (.iload_n 3, 1) := by decide +kernel
theorem dX2_add_47 : decode cX2_add 47 = .ok (.iastore, 1) := by decide +kernel
theorem dX2_add_48 : decode cX2_add 48 = .ok (.aload_n 0, 1) := by decide +kernel
theorem dX2_add_49 : decode cX2_add 49 = .ok (.dup, 1) := by decide +kernel
theorem dX2_add_50 : decode cX2_add 50 = .ok (.getfield 21, 3) := by decide +kernel
theorem dX2_add_53 : decode cX2_add 53 = .ok (.iconst 1, 1) := by decide +kernel
theorem dX2_add_54 : decode cX2_add 54 = .ok (.iadd, 1) := by decide +kernel
theorem dX2_add_55 : decode cX2_add 55 = .ok (.putfield 21, 3) := by decide +kernel
theorem dX2_add_58 : decode cX2_add 58 = .ok (.iconst 1, 1) := by decide +kernel
theorem dX2_add_59 : decode cX2_add 59 = .ok (.ireturn, 1) := by decide +kernel
theorem dX2_deny_0 : decode cX2_deny 0 = .ok (.iconst 0, 1) := by decide +kernel
theorem dX2_deny_1 : decode cX2_deny 1 = .ok (.istore 4, 2) := by decide +kernel
theorem dX2_deny_3 : decode cX2_deny 3 = .ok (.iload 4, 2) := by decide +kernel
theorem dX2_deny_5 : decode cX2_deny 5 = .ok (.aload_n 0, 1) := by decide +kernel
theorem dX2_deny_6 : decode cX2_deny 6 = .ok (.getfield 21, 3) := by decide +kernel
theorem dX2_deny_9 : decode cX2_deny 9 = .ok (.if_icmp .ge 75, 3) := by decide +kernel
theorem dX2_deny_12 : decode cX2_deny 12 = .ok (.iload 4, 2) := by decide +kernel
theorem dX2_deny_14 : decode cX2_deny 14 = .ok (.bipush 6, 2) := by decide +kernel
theorem dX2_deny_16 : decode cX2_deny 16 = .ok (.if_icmp .ge 68, 3) := by decide +kernel
theorem dX2_deny_19 : decode cX2_deny 19 = .ok (.aload_n 0, 1) := by decide +kernel
theorem dX2_deny_20 : decode cX2_deny 20 = .ok (.getfield 15, 3) := by decide +kernel
theorem dX2_deny_23 : decode cX2_deny 23 = .ok (.iload 4, 2) := by decide +kernel
theorem dX2_deny_25 : decode cX2_deny 25 = .ok (.iaload, 1) := by decide +kernel
theorem dX2_deny_26 : decode cX2_deny 26 = .ok (.iload_n 2, 1) := by decide +kernel
theorem dX2_deny_27 : decode cX2_deny 27 = .ok (.if_icmp .ne 18, 3) := by decide +kernel
theorem dX2_deny_30 : decode cX2_deny 30 = .ok (.aload_n 0, 1) := by decide +kernel
theorem dX2_deny_31 : decode cX2_deny 31 = .ok (.getfield 9, 3) := by decide +kernel
theorem dX2_deny_34 : decode cX2_deny 34 = .ok (.iload 4, 2) := by decide +kernel
theorem dX2_deny_36 : decode cX2_deny 36 = .ok (.iaload, 1) := by decide +kernel
theorem dX2_deny_37 : decode cX2_deny 37 = .ok (.iload_n 3, 1) := by decide +kernel
theorem dX2_deny_38 : decode cX2_deny 38 = .ok (.if_icmp .ge 7, 3) := by decide +kernel
theorem dX2_deny_41 : decode cX2_deny 41 = .ok (.iconst 1, 1) := by decide +kernel
theorem dX2_deny_42 : decode cX2_deny 42 = .ok (.goto 4, 3) := by decide +kernel
theorem dX2_deny_45 : decode cX2_deny 45 = .ok (.iconst 0, 1) := by decide +kernel
theorem dX2_deny_46 : decode cX2_deny 46 = .ok (.istore 5, 2) := by decide +kernel
theorem dX2_deny_48 : decode cX2_deny 48 = .ok (.iload 5, 2) := by decide +kernel
theorem dX2_deny_50 : decode cX2_deny 50 = .ok (.ifCond .eq 28, 3) := by decide +kernel
theorem dX2_deny_53 : decode cX2_deny 53 = .ok (.aload_n 1, 1) := by decide +kernel
theorem dX2_deny_54 : decode cX2_deny 54 = .ok (.aload_n 0, 1) := by decide +kernel
theorem dX2_deny_55 : decode cX2_deny 55 = .ok (.getfield 9, 3) := by decide +kernel
theorem dX2_deny_58 : decode cX2_deny 58 = .ok (.iload 4, 2) := by decide +kernel
theorem dX2_deny_60 : decode cX2_deny 60 = .ok (.iaload, 1) := by decide +kernel
theorem dX2_deny_61 : decode cX2_deny 61 = .ok (.bipush 7, 2) := by decide +kernel
theorem dX2_deny_63 : decode cX2_deny 63 = .ok (.invokevirtual 25, 3) := by decide +kernel
theorem dX2_deny_66 : decode cX2_deny 66 = .ok (.aload_n 0, 1) := by decide +kernel
theorem dX2_deny_67 : decode cX2_deny 67 = .ok (.getfield 18, 3) := by decide +kernel
theorem dX2_deny_70 : decode cX2_deny 70 = .ok (.iload 4, 2) := by decide +kernel
theorem dX2_deny_72 : decode cX2_deny 72 = .ok (.iaload, 1) := by decide +kernel
theorem dX2_deny_73 : decode cX2_deny 73 = .ok (.if_icmp .eq 5, 3) := by decide +kernel
theorem dX2_deny_76 : decode cX2_deny 76 = .ok (.iconst 1, 1) := by decide +kernel
theorem dX2_deny_77 : decode cX2_deny 77 = .ok (.ireturn, 1) := by decide +kernel
theorem dX2_deny_78 : decode cX2_deny 78 = .ok (.iinc 4 1, 3) := by decide +kernel
theorem dX2_deny_81 : decode cX2_deny 81 = .ok (.goto (-78), 3) := by decide +kernel
theorem dX2_deny_84 : decode cX2_deny 84 = .ok (.iconst 0, 1) := by decide +kernel
theorem dX2_deny_85 : decode cX2_deny 85 = .ok (.ireturn, 1) := by decide +kernel
theorem dX3_init_0 : decode cX3_init 0 = .ok (.aload_n 0, 1) := by decide +kernel
theorem dX3_init_1 : decode cX3_init 1 = .ok (.invokespecial 3, 3) := by decide +kernel
theorem dX3_init_4 : decode cX3_init 4 = .ok (.aload_n 0, 1) := by decide +kernel
theorem dX3_init_5 : decode cX3_init 5 = .ok (.iconst 4, 1) := by decide +kernel
theorem dX3_init_6 : decode cX3_init 6 = .ok (.newarray .int, 2) := by decide +kernel
theorem dX3_init_8 : decode cX3_init 8 = .ok (.putfield 9, 3) := by decide +kernel
theorem dX3_init_11 : decode cX3_init 11 = .ok (.aload_n 0, 1) := by decide +kernel
theorem dX3_init_12 : decode cX3_init 12 = .ok (.bipush 24, 2) := by decide +kernel
theorem dX3_init_14 : decode cX3_init 14 = .ok (.newarray .int, 2) := by decide +kernel
theorem dX3_init_16 : decode cX3_init 16 = .ok (.putfield 15, 3) := by decide +kernel
theorem dX3_init_19 : decode cX3_init 19 = .ok (.aload_n 0, 1) := by decide +kernel
theorem dX3_init_20 : decode cX3_init 20 = .ok (.iconst 1, 1) := by decide +kernel
theorem dX3_init_21 : decode cX3_init 21 = .ok (.putfield 18, 3) := by decide +kernel
theorem dX3_init_24 : decode cX3_init 24 = .ok (.return_, 1) := by decide +kernel
theorem dX3_build_0 : decode cX3_build 0 = .ok (.aload_n 0, 1) := by decide +kernel
theorem dX3_build_1 : decode cX3_build 1 = .ok (.iconst 0, 1) := by decide +kernel
theorem dX3_build_2 : decode cX3_build 2 = .ok (.putfield 22, 3) := by decide +kernel
theorem dX3_build_5 : decode cX3_build 5 = .ok (.aload_n 0, 1) := by decide +kernel
theorem dX3_build_6 : decode cX3_build 6 = .ok (.iconst 0, 1) := by decide +kernel
theorem dX3_build_7 : decode cX3_build 7 = .ok (.putfield 25, 3) := by decide +kernel
theorem dX3_build_10 : decode cX3_build 10 = .ok (.aload_n 0, 1) := by decide +kernel
theorem dX3_build_11 : decode cX3_build 11 = .ok (.bipush 10, 2) := by decide +kernel
theorem dX3_build_13 : decode cX3_build 13 = .ok (.aload_n 1, 1) := by decide +kernel
theorem dX3_build_14 : decode cX3_build 14 = .ok (.iconst 1, 1) := by decide +kernel
theorem dX3_build_15 : decode cX3_build 15 = .ok (.invokevirtual 28, 3) := by decide +kernel
theorem dX3_build_18 : decode cX3_build 18 = .ok (.imul, 1) := by decide +kernel
theorem dX3_build_19 : decode cX3_build 19 = .ok (.aload_n 1, 1) := by decide +kernel
theorem dX3_build_20 : decode cX3_build 20 = .ok (.iconst 2, 1) := by decide +kernel
theorem dX3_build_21 : decode cX3_build 21 = .ok (.invokevirtual 28, 3) := by decide +kernel
theorem dX3_build_24 : decode cX3_build 24 = .ok (.iadd, 1) := by decide +kernel
theorem dX3_build_25 : decode cX3_build 25 = .ok (.putfield 34, 3) := by decide +kernel
theorem dX3_build_28 : decode cX3_build 28 = .ok (.aload_n 0, 1) := by decide +kernel
theorem dX3_build_29 : decode cX3_build 29 = .ok (.aload_n 1, 1) := by decide +kernel
theorem dX3_build_30 : decode cX3_build 30 = .ok (.iconst 3, 1) := by decide +kernel
theorem dX3_build_31 : decode cX3_build 31 = .ok (.invokevirtual 28, 3) := by decide +kernel
theorem dX3_build_34 : decode cX3_build 34 = .ok (.putfield 18, 3) := by decide +kernel
theorem dX3_build_37 : decode cX3_build 37 = .ok (.iconst 4, 1) := by decide +kernel
theorem dX3_build_38 : decode cX3_build 38 = .ok (.istore_n 2, 1) := by decide +kernel
theorem dX3_build_39 : decode cX3_build 39 = .ok (.iconst 0, 1) := by decide +kernel
theorem dX3_build_40 : decode cX3_build 40 = .ok (.istore_n 3, 1) := by decide +kernel
theorem dX3_build_41 : decode cX3_build 41 = .ok (.iload_n 3, 1) := by decide +kernel
theorem dX3_build_42 : decode cX3_build 42 = .ok (.bipush 10, 2) := by decide +kernel
theorem dX3_build_44 : decode cX3_build 44 = .ok (.if_icmp .ge 53, 3) := by decide +kernel
theorem dX3_build_47 : decode cX3_build 47 = .ok (.iload_n 2, 1) := by decide +kernel
theorem dX3_build_48 : decode cX3_build 48 = .ok (.aload_n 1, 1) := by decide +kernel
theorem dX3_build_49 : decode cX3_build 49 = .ok (.getfield 37, 3) := by decide +kernel
theorem dX3_build_52 : decode cX3_build 52 = .ok (.if_icmp .ge 45, 3) := by decide +kernel
theorem dX3_build_55 : decode cX3_build 55 = .ok (.aload_n 1, 1) := by decide +kernel
theorem dX3_build_56 : decode cX3_build 56 = .ok (.iload_n 2, 1) := by decide +kernel
theorem dX3_build_57 : decode cX3_build 57 = .ok (.invokevirtual 40, 3) := by decide +kernel
theorem dX3_build_60 : decode cX3_build 60 = .ok (.bipush 112, 2) := by decide +kernel
theorem dX3_build_62 : decode cX3_build 62 = .ok (.if_icmp .ne 20, 3) := by decide +kernel
theorem dX3_build_65 : decode cX3_build 65 = .ok (.aload_n 0, 1) := by decide +kernel
theorem dX3_build_66 : decode cX3_build 66 = .ok (.aload_n 1, 1) := by decide +kernel
theorem dX3_build_67 : decode cX3_build 67 = .ok (.iload_n 2, 1) := by decide +kernel
theorem dX3_build_68 : decode cX3_build 68 = .ok (.iconst 1, 1) := by decide +kernel
theorem dX3_build_69 : decode cX3_build 69 = .ok (.iadd, 1) := by decide +kernel
theorem dX3_build_70 : decode cX3_build 70 = .ok (.invokevirtual 28, 3) := by decide +kernel
theorem dX3_build_73 : decode cX3_build 73 = .ok (.invokevirtual 43, 3) := by decide +kernel
theorem dX3_build_76 : decode cX3_build 76 = .ok (.iinc 2 2, 3) := by decide +kernel
theorem dX3_build_79 : decode cX3_build 79 = .ok (.goto 12, 3) := by decide +kernel
theorem dX3_build_82 : decode cX3_build 82 = .ok (.aload_n 0, 1) := by decide +kernel
theorem dX3_build_83 : decode cX3_build 83 = .ok (.aload_n 1, 1) := by decide +kernel
theorem dX3_build_84 : decode cX3_build 84 = .ok (.iload_n 2, 1) := by decide +kernel
theorem dX3_build_85 : decode cX3_build 85 = .ok (.invokevirtual 47, 3) := by decide +kernel
theorem dX3_build_88 : decode cX3_build 88 = .ok (.iinc 2 6, 3) := by decide +kernel
theorem dX3_build_91 : decode cX3_build 91 = .ok (.iinc 3 1, 3) := by decide +kernel
theorem dX3_build_94 : decode cX3_build 94 = .ok (.goto (-53), 3) := by decide +kernel
theorem dX3_build_97 : decode cX3_build 97 = .ok (.return_, 1) := by decide +kernel
theorem dX3_addPost_0 : decode cX3_addPost 0 = .ok (.aload_n 0, 1) := by decide +kernel
theorem dX3_addPost_1 : decode cX3_addPost 1 = .ok (.getfield 22, 3) := by decide +kernel
theorem dX3_addPost_4 : decode cX3_addPost 4 = .ok (.iconst 4, 1) := by decide +kernel
theorem dX3_addPost_5 : decode cX3_addPost 5 = .ok (.if_icmp .ge 23, 3) := by decide +kernel
theorem dX3_addPost_8 : decode cX3_addPost 8 = .ok (.aload_n 0, 1) := by decide +kernel
theorem dX3_addPost_9 : decode cX3_addPost 9 = .ok (.getfield 9, 3) := by decide +kernel
theorem dX3_addPost_12 : decode cX3_addPost 12 = .ok (.aload_n 0, 1) := by decide +kernel
theorem dX3_addPost_13 : decode cX3_addPost 13 = .ok (.getfield 22, 3) := by decide +kernel
theorem dX3_addPost_16 : decode cX3_addPost 16 = .ok (.iload_n 1, 1) := by decide +kernel
theorem dX3_addPost_17 : decode cX3_addPost 17 = .ok (.iastore, 1) := by decide +kernel
theorem dX3_addPost_18 : decode cX3_addPost 18 = .ok (.aload_n 0, 1) := by decide +kernel
theorem dX3_addPost_19 : decode cX3_addPost 19 = .ok (.dup, 1) := by decide +kernel
theorem dX3_addPost_20 : decode cX3_addPost 20 = .ok (.getfield 22, 3) := by decide +kernel
theorem dX3_addPost_23 : decode cX3_addPost 23 = .ok (.iconst 1, 1) := by decide +kernel
theorem dX3_addPost_24 : decode cX3_addPost 24 = .ok (.iadd, 1) := by decide +kernel
theorem dX3_addPost_25 : decode cX3_addPost 25 = .ok (.putfield 22, 3) := by decide +kernel
theorem dX3_addPost_28 : decode cX3_addPost 28 = .ok (.return_, 1) := by decide +kernel
theorem dX3_addCar_0 : decode cX3_addCar 0 = .ok (.aload_n 0, 1) := by decide +kernel
theorem dX3_addCar_1 : decode cX3_addCar 1 = .ok (.getfield 25, 3) := by decide +kernel
theorem dX3_addCar_4 : decode cX3_addCar 4 = .ok (.bipush 6, 2) := by decide +kernel
theorem dX3_addCar_6 : decode cX3_addCar 6 = .ok (.if_icmp .ge 91, 3) := by decide +kernel
theorem dX3_addCar_9 : decode cX3_addCar 9 = .ok (.aload_n 0, 1) := by decide +kernel
theorem dX3_addCar_10 : decode cX3_addCar 10 = .ok (.getfield 25, 3) := by decide +kernel
theorem dX3_addCar_13 : decode cX3_addCar 13 = .ok (.iconst 4, 1) := by decide +kernel
theorem dX3_addCar_14 : decode cX3_addCar 14 = .ok (.imul, 1) := by decide +kernel
theorem dX3_addCar_15 : decode cX3_addCar 15 = .ok (.istore_n 3, 1) := by decide +kernel
theorem dX3_addCar_16 : decode cX3_addCar 16 = .ok (.aload_n 0, 1) := by decide +kernel
theorem dX3_addCar_17 : decode cX3_addCar 17 = .ok (.getfield 15, 3) := by decide +kernel
theorem dX3_addCar_20 : decode cX3_addCar 20 = .ok (.iload_n 3, 1) := by decide +kernel
theorem dX3_addCar_21 : decode cX3_addCar 21 = .ok (.iconst 0, 1) := by decide +kernel
theorem dX3_addCar_22 : decode cX3_addCar 22 = .ok (.iadd, 1) := by decide +kernel
theorem dX3_addCar_23 : decode cX3_addCar 23 = .ok (.bipush 10, 2) := by decide +kernel
theorem dX3_addCar_25 : decode cX3_addCar 25 = .ok (.aload_n 1, 1) := by decide +kernel
theorem dX3_addCar_26 : decode cX3_addCar 26 = .ok (.iload_n 2, 1) := by decide +kernel
theorem dX3_addCar_27 : decode cX3_addCar 27 = .ok (.iconst 1, 1) := by decide +kernel
theorem dX3_addCar_28 : decode cX3_addCar 28 = .ok (.iadd, 1) := by decide +kernel
theorem dX3_addCar_29 : decode cX3_addCar 29 = .ok (.invokevirtual 28, 3) := by decide +kernel
theorem dX3_addCar_32 : decode cX3_addCar 32 = .ok (.imul, 1) := by decide +kernel
theorem dX3_addCar_33 : decode cX3_addCar 33 = .ok (.aload_n 1, 1) := by decide +kernel
theorem dX3_addCar_34 : decode cX3_addCar 34 = .ok (.iload_n 2, 1) := by decide +kernel
theorem dX3_addCar_35 : decode cX3_addCar 35 = .ok (.iconst 2, 1) := by decide +kernel
theorem dX3_addCar_36 : decode cX3_addCar 36 = .ok (.iadd, 1) := by decide +kernel
theorem dX3_addCar_37 : decode cX3_addCar 37 = .ok (.invokevirtual 28, 3) := by decide +kernel
theorem dX3_addCar_40 : decode cX3_addCar 40 = .ok (.iadd, 1) := by decide +kernel
theorem dX3_addCar_41 : decode cX3_addCar 41 = .ok (.iastore, 1) := by decide +kernel
theorem dX3_addCar_42 : decode cX3_addCar 42 = .ok (.aload_n 0, 1) := by decide +kernel
theorem dX3_addCar_43 : decode cX3_addCar 43 = .ok (.getfield 15, 3) := by decide +kernel
theorem dX3_addCar_46 : decode cX3_addCar 46 = .ok (.iload_n 3, 1) := by decide +kernel
theorem dX3_addCar_47 : decode cX3_addCar 47 = .ok (.iconst 1, 1) := by decide +kernel
theorem dX3_addCar_48 : decode cX3_addCar 48 = .ok (.iadd, 1) := by decide +kernel
theorem dX3_addCar_49 : decode cX3_addCar 49 = .ok (.aload_n 1, 1) := by decide +kernel
theorem dX3_addCar_50 : decode cX3_addCar 50 = .ok (.iload_n 2, 1) := by decide +kernel
theorem dX3_addCar_51 : decode cX3_addCar 51 = .ok (.iconst 3, 1) := by decide +kernel
theorem dX3_addCar_52 : decode cX3_addCar 52 = .ok (.iadd, 1) := by decide +kernel
theorem dX3_addCar_53 : decode cX3_addCar 53 = .ok (.invokevirtual 28, 3) := by decide +kernel
theorem dX3_addCar_56 : decode cX3_addCar 56 = .ok (.iastore, 1) := by decide +kernel
theorem dX3_addCar_57 : decode cX3_addCar 57 = .ok (.aload_n 0, 1) := by decide +kernel
theorem dX3_addCar_58 : decode cX3_addCar 58 = .ok (.getfield 15, 3) := by decide +kernel
theorem dX3_addCar_61 : decode cX3_addCar 61 = .ok (.iload_n 3, 1) := by decide +kernel
theorem dX3_addCar_62 : decode cX3_addCar 62 = .ok (.iconst 2, 1) := by decide +kernel
theorem dX3_addCar_63 : decode cX3_addCar 63 = .ok (.iadd, 1) := by decide +kernel
theorem dX3_addCar_64 : decode cX3_addCar 64 = .ok (.aload_n 1, 1) := by decide +kernel
theorem dX3_addCar_65 : decode cX3_addCar 65 = .ok (.iload_n 2, 1) := by decide +kernel
theorem dX3_addCar_66 : decode cX3_addCar 66 = .ok (.iconst 4, 1) := by decide +kernel
theorem dX3_addCar_67 : decode cX3_addCar 67 = .ok (.iadd, 1) := by decide +kernel
theorem dX3_addCar_68 : decode cX3_addCar 68 = .ok (.invokevirtual 28, 3) := by decide +kernel
theorem dX3_addCar_71 : decode cX3_addCar 71 = .ok (.iastore, 1) := by decide +kernel
theorem dX3_addCar_72 : decode cX3_addCar 72 = .ok (.aload_n 0, 1) := by decide +kernel
theorem dX3_addCar_73 : decode cX3_addCar 73 = .ok (.getfield 15, 3) := by decide +kernel
theorem dX3_addCar_76 : decode cX3_addCar 76 = .ok (.iload_n 3, 1) := by decide +kernel
theorem dX3_addCar_77 : decode cX3_addCar 77 = .ok (.iconst 3, 1) := by decide +kernel
theorem dX3_addCar_78 : decode cX3_addCar 78 = .ok (.iadd, 1) := by decide +kernel
theorem dX3_addCar_79 : decode cX3_addCar 79 = .ok (.aload_n 1, 1) := by decide +kernel
theorem dX3_addCar_80 : decode cX3_addCar 80 = .ok (.iload_n 2, 1) := by decide +kernel
theorem dX3_addCar_81 : decode cX3_addCar 81 = .ok (.iconst 5, 1) := by decide +kernel
theorem dX3_addCar_82 : decode cX3_addCar 82 = .ok (.iadd, 1) := by decide +kernel
theorem dX3_addCar_83 : decode cX3_addCar 83 = .ok (.invokevirtual 28, 3) := by decide +kernel
theorem dX3_addCar_86 : decode cX3_addCar 86 = .ok (.iastore, 1) := by decide +kernel
theorem dX3_addCar_87 : decode cX3_addCar 87 = .ok (.aload_n 0, 1) := by decide +kernel
theorem dX3_addCar_88 : decode cX3_addCar 88 = .ok (.dup, 1) := by decide +kernel
theorem dX3_addCar_89 : decode cX3_addCar 89 = .ok (.getfield 25, 3) := by decide +kernel
theorem dX3_addCar_92 : decode cX3_addCar 92 = .ok (.iconst 1, 1) := by decide +kernel
theorem dX3_addCar_93 : decode cX3_addCar 93 = .ok (.iadd, 1) := by decide +kernel
theorem dX3_addCar_94 : decode cX3_addCar 94 = .ok (.putfield 25, 3) := by decide +kernel
theorem dX3_addCar_97 : decode cX3_addCar 97 = .ok (.return_, 1) := by decide +kernel
theorem dX3_hasPost_0 : decode cX3_hasPost 0 = .ok (.iload_n 1, 1) := by decide +kernel
theorem dX3_hasPost_1 : decode cX3_hasPost 1 = .ok (.ifCond .lt 15, 3) := by decide +kernel
theorem dX3_hasPost_4 : decode cX3_hasPost 4 = .ok (.iload_n 1, 1) := by decide +kernel
theorem dX3_hasPost_5 : decode cX3_hasPost 5 = .ok (.aload_n 0, 1) := by decide +kernel
theorem dX3_hasPost_6 : decode cX3_hasPost 6 = .ok (.getfield 22, 3) := by decide +kernel
theorem dX3_hasPost_9 : decode cX3_hasPost 9 = .ok (.if_icmp .ge 7, 3) := by decide +kernel
theorem dX3_hasPost_12 : decode cX3_hasPost 12 = .ok (.iconst 1, 1) := by decide +kernel
theorem dX3_hasPost_13 : decode cX3_hasPost 13 = .ok (.goto 4, 3) := by decide +kernel
theorem dX3_hasPost_16 : decode cX3_hasPost 16 = .ok (.iconst 0, 1) := by decide +kernel
theorem dX3_hasPost_17 : decode cX3_hasPost 17 = .ok (.ireturn, 1) := by decide +kernel
theorem dX3_hasCar_0 : decode cX3_hasCar 0 = .ok (.iload_n 1, 1) := by decide +kernel
theorem dX3_hasCar_1 : decode cX3_hasCar 1 = .ok (.ifCond .lt 15, 3) := by decide +kernel
theorem dX3_hasCar_4 : decode cX3_hasCar 4 = .ok (.iload_n 1, 1) := by decide +kernel
theorem dX3_hasCar_5 : decode cX3_hasCar 5 = .ok (.aload_n 0, 1) := by decide +kernel
theorem dX3_hasCar_6 : decode cX3_hasCar 6 = .ok (.getfield 25, 3) := by decide +kernel
theorem dX3_hasCar_9 : decode cX3_hasCar 9 = .ok (.if_icmp .ge 7, 3) := by decide +kernel
theorem dX3_hasCar_12 : decode cX3_hasCar 12 = .ok (.iconst 1, 1) := by decide +kernel
theorem dX3_hasCar_13 : decode cX3_hasCar 13 = .ok (.goto 4, 3) := by decide +kernel
theorem dX3_hasCar_16 : decode cX3_hasCar 16 = .ok (.iconst 0, 1) := by decide +kernel
theorem dX3_hasCar_17 : decode cX3_hasCar 17 = .ok (.ireturn, 1) := by decide +kernel
theorem dX3_ampsOf_0 : decode cX3_ampsOf 0 = .ok (.iload_n 1, 1) := by decide +kernel
theorem dX3_ampsOf_1 : decode cX3_ampsOf 1 = .ok (.ifCond .lt 8, 3) := by decide +kernel
theorem dX3_ampsOf_4 : decode cX3_ampsOf 4 = .ok (.iload_n 1, 1) := by decide +kernel
theorem dX3_ampsOf_5 : decode cX3_ampsOf 5 = .ok (.iconst 4, 1) := by decide +kernel
theorem dX3_ampsOf_6 : decode cX3_ampsOf 6 = .ok (.if_icmp .lt 7, 3) := by decide +kernel
theorem dX3_ampsOf_9 : decode cX3_ampsOf 9 = .ok (.iconst 0, 1) := by decide +kernel
theorem dX3_ampsOf_10 : decode cX3_ampsOf 10 = .ok (.goto 9, 3) := by decide +kernel
theorem dX3_ampsOf_13 : decode cX3_ampsOf 13 = .ok (.aload_n 0, 1) := by decide +kernel
theorem dX3_ampsOf_14 : decode cX3_ampsOf 14 = .ok (.getfield 9, 3) := by decide +kernel
theorem dX3_ampsOf_17 : decode cX3_ampsOf 17 = .ok (.iload_n 1, 1) := by decide +kernel
theorem dX3_ampsOf_18 : decode cX3_ampsOf 18 = .ok (.iaload, 1) := by decide +kernel
theorem dX3_ampsOf_19 : decode cX3_ampsOf 19 = .ok (.ireturn, 1) := by decide +kernel
theorem dX3_allAmps_0 : decode cX3_allAmps 0 = .ok (.iconst 0, 1) := by decide +kernel
theorem dX3_allAmps_1 : decode cX3_allAmps 1 = .ok (.istore_n 1, 1) := by decide +kernel
theorem dX3_allAmps_2 : decode cX3_allAmps 2 = .ok (.iconst 0, 1) := by decide +kernel
theorem dX3_allAmps_3 : decode cX3_allAmps 3 = .ok (.istore_n 2, 1) := by decide +kernel
theorem dX3_allAmps_4 : decode cX3_allAmps 4 = .ok (.iload_n 2, 1) := by decide +kernel
theorem dX3_allAmps_5 : decode cX3_allAmps 5 = .ok (.aload_n 0, 1) := by decide +kernel
theorem dX3_allAmps_6 : decode cX3_allAmps 6 = .ok (.getfield 22, 3) := by decide +kernel
theorem dX3_allAmps_9 : decode cX3_allAmps 9 = .ok (.if_icmp .ge 17, 3) := by decide +kernel
theorem dX3_allAmps_12 : decode cX3_allAmps 12 = .ok (.iload_n 1, 1) := by decide +kernel
theorem dX3_allAmps_13 : decode cX3_allAmps 13 = .ok (.aload_n 0, 1) := by decide +kernel
theorem dX3_allAmps_14 : decode cX3_allAmps 14 = .ok (.iload_n 2, 1) := by decide +kernel
theorem dX3_allAmps_15 : decode cX3_allAmps 15 = .ok (.invokevirtual 51, 3) := by decide +kernel
theorem dX3_allAmps_18 : decode cX3_allAmps 18 = .ok (.iadd, 1) := by decide +kernel
theorem dX3_allAmps_19 : decode cX3_allAmps 19 = .ok (.istore_n 1, 1) := by decide +kernel
theorem dX3_allAmps_20 : decode cX3_allAmps 20 = .ok (.iinc 2 1, 3) := by decide +kernel
theorem dX3_allAmps_23 : decode cX3_allAmps 23 = .ok (.goto (-19), 3) := by decide +kernel
theorem dX3_allAmps_26 : decode cX3_allAmps 26 = .ok (.iload_n 1, 1) := by decide +kernel
theorem dX3_allAmps_27 : decode cX3_allAmps 27 = .ok (.ireturn, 1) := by decide +kernel
theorem dX3_trait_0 : decode cX3_trait 0 = .ok (.iload_n 1, 1) := by decide +kernel
theorem dX3_trait_1 : decode cX3_trait 1 = .ok (.ifCond .lt 18, 3) := by decide +kernel
theorem dX3_trait_4 : decode cX3_trait 4 = .ok (.iload_n 1, 1) := by decide +kernel
theorem dX3_trait_5 : decode cX3_trait 5 = .ok (.bipush 6, 2) := by decide +kernel
theorem dX3_trait_7 : decode cX3_trait 7 = .ok (.if_icmp .ge 12, 3) := by decide +kernel
theorem dX3_trait_10 : decode cX3_trait 10 = .ok (.iload_n 2, 1) := by decide +kernel
theorem dX3_trait_11 : decode cX3_trait 11 = .ok (.ifCond .lt 8, 3) := by decide +kernel
theorem dX3_trait_14 : decode cX3_trait 14 = .ok (.iload_n 2, 1) := by decide +kernel
theorem dX3_trait_15 : decode cX3_trait 15 = .ok (.iconst 4, 1) := by decide +kernel
theorem dX3_trait_16 : decode cX3_trait 16 = .ok (.if_icmp .lt 5, 3) := by decide +kernel
theorem dX3_trait_19 : decode cX3_trait 19 = .ok (.iconst 0, 1) := by decide +kernel
theorem dX3_trait_20 : decode cX3_trait 20 = .ok (.ireturn, 1) := by decide +kernel
theorem dX3_trait_21 : decode cX3_trait 21 = .ok (.aload_n 0, 1) := by decide +kernel
theorem dX3_trait_22 : decode cX3_trait 22 = .ok (.getfield 15, 3) := by decide +kernel
theorem dX3_trait_25 : decode cX3_trait 25 = .ok (.iload_n 1, 1) := by decide +kernel
theorem dX3_trait_26 : decode cX3_trait 26 = .ok (.iconst 4, 1) := by decide +kernel
theorem dX3_trait_27 : decode cX3_trait 27 = .ok (.imul, 1) := by decide +kernel
theorem dX3_trait_28 : decode cX3_trait 28 = .ok (.iload_n 2, 1) := by decide +kernel
theorem dX3_trait_29 : decode cX3_trait 29 = .ok (.iadd, 1) := by decide +kernel
theorem dX3_trait_30 : decode cX3_trait 30 = .ok (.iaload, 1) := by decide +kernel
theorem dX3_trait_31 : decode cX3_trait 31 = .ok (.ireturn, 1) := by decide +kernel
theorem dX4_init_0 : decode cX4_init 0 = .ok (.aload_n 0, 1) := by decide +kernel
theorem dX4_init_1 : decode cX4_init 1 = .ok (.invokespecial 3, 3) := by decide +kernel
theorem dX4_init_4 : decode cX4_init 4 = .ok (.aload_n 0, 1) := by decide +kernel
theorem dX4_init_5 : decode cX4_init 5 = .ok (.bipush 32, 2) := by decide +kernel
theorem dX4_init_7 : decode cX4_init 7 = .ok (.newarray .int, 2) := by decide +kernel
theorem dX4_init_9 : decode cX4_init 9 = .ok (.putfield 11, 3) := by decide +kernel
theorem dX4_init_12 : decode cX4_init 12 = .ok (.aload_n 0, 1) := by decide +kernel
theorem dX4_init_13 : decode cX4_init 13 = .ok (.bipush 6, 2) := by decide +kernel
theorem dX4_init_15 : decode cX4_init 15 = .ok (.newarray .int, 2) := by decide +kernel
theorem dX4_init_17 : decode cX4_init 17 = .ok (.putfield 15, 3) := by decide +kernel
theorem dX4_init_20 : decode cX4_init 20 = .ok (.return_, 1) := by decide +kernel
theorem dX4_begin_0 : decode cX4_begin 0 = .ok (.iconst 0, 1) := by decide +kernel
theorem dX4_begin_1 : decode cX4_begin 1 = .ok (.istore_n 2, 1) := by decide +kernel
theorem dX4_begin_2 : decode cX4_begin 2 = .ok (.iload_n 2, 1) := by decide +kernel
theorem dX4_begin_3 : decode cX4_begin 3 = .ok (.iconst 4, 1) := by decide +kernel
theorem dX4_begin_4 : decode cX4_begin 4 = .ok (.if_icmp .ge 39, 3) := by decide +kernel
theorem dX4_begin_7 : decode cX4_begin 7 = .ok (.aload_n 0, 1) := by decide +kernel
theorem dX4_begin_8 : decode cX4_begin 8 = .ok (.iload_n 2, 1) := by decide +kernel
theorem dX4_begin_9 : decode cX4_begin 9 = .ok (.iconst 1, 1) := by decide +kernel
theorem dX4_begin_10 : decode cX4_begin 10 = .ok (.bipush (-9), 2) := by decide +kernel
theorem dX4_begin_12 : decode cX4_begin 12 = .ok (.invokevirtual 18, 3) := by decide +kernel
theorem dX4_begin_15 : decode cX4_begin 15 = .ok (.aload_n 0, 1) := by decide +kernel
theorem dX4_begin_16 : decode cX4_begin 16 = .ok (.iload_n 2, 1) := by decide +kernel
theorem dX4_begin_17 : decode cX4_begin 17 = .ok (.bipush 7, 2) := by decide +kernel
theorem dX4_begin_19 : decode cX4_begin 19 = .ok (.iconst 0, 1) := by decide +kernel
theorem dX4_begin_20 : decode cX4_begin 20 = .ok (.invokevirtual 18, 3) := by decide +kernel
theorem dX4_begin_23 : decode cX4_begin 23 = .ok (.aload_n 0, 1) := by decide +kernel
theorem dX4_begin_24 : decode cX4_begin 24 = .ok (.iload_n 2, 1) := by decide +kernel
theorem dX4_begin_25 : decode cX4_begin 25 = .ok (.bipush 8, 2) := by decide +kernel
theorem dX4_begin_27 : decode cX4_begin 27 = .ok (.iconst 0, 1) := by decide +kernel
theorem dX4_begin_28 : decode cX4_begin 28 = .ok (.invokevirtual 18, 3) := by decide +kernel
theorem dX4_begin_31 : decode cX4_begin 31 = .ok (.aload_n 0, 1) := by decide +kernel
theorem dX4_begin_32 : decode cX4_begin 32 = .ok (.iload_n 2, 1) := by decide +kernel
theorem dX4_begin_33 : decode cX4_begin 33 = .ok (.iconst 0, 1) := by decide +kernel
theorem dX4_begin_34 : decode cX4_begin 34 = .ok (.invokevirtual 22, 3) := by decide +kernel
theorem dX4_begin_37 : decode cX4_begin 37 = .ok (.iinc 2 1, 3) := by decide +kernel
theorem dX4_begin_40 : decode cX4_begin 40 = .ok (.goto (-38), 3) := by decide +kernel
theorem dX4_begin_43 : decode cX4_begin 43 = .ok (.iconst 0, 1) := by decide +kernel
theorem dX4_begin_44 : decode cX4_begin 44 = .ok (.istore_n 2, 1) := by decide +kernel
theorem dX4_begin_45 : decode cX4_begin 45 = .ok (.iload_n 2, 1) := by decide +kernel
theorem dX4_begin_46 : decode cX4_begin 46 = .ok (.bipush 6, 2) := by decide +kernel
theorem dX4_begin_48 : decode cX4_begin 48 = .ok (.if_icmp .ge 33, 3) := by decide +kernel
theorem dX4_begin_51 : decode cX4_begin 51 = .ok (.aload_n 0, 1) := by decide +kernel
theorem dX4_begin_52 : decode cX4_begin 52 = .ok (.getfield 15, 3) := by decide +kernel
theorem dX4_begin_55 : decode cX4_begin 55 = .ok (.iload_n 2, 1) := by decide +kernel
theorem dX4_begin_56 : decode cX4_begin 56 = .ok (.aload_n 1, 1) := by decide +kernel
theorem dX4_begin_57 : decode cX4_begin 57 = .ok (.iload_n 2, 1) := by decide +kernel
theorem dX4_begin_58 : decode cX4_begin 58 = .ok (.invokevirtual 26, 3) := by decide +kernel
theorem dX4_begin_61 : decode cX4_begin 61 = .ok (.ifCond .eq 12, 3) := by decide +kernel
theorem dX4_begin_64 : decode cX4_begin 64 = .ok (.aload_n 1, 1) := by decide +kernel
theorem dX4_begin_65 : decode cX4_begin 65 = .ok (.iload_n 2, 1) := by decide +kernel
theorem dX4_begin_66 : decode cX4_begin 66 = .ok (.iconst 0, 1) := by decide +kernel
theorem dX4_begin_67 : decode cX4_begin 67 = .ok (.invokevirtual 32, 3) := by decide +kernel
theorem dX4_begin_70 : decode cX4_begin 70 = .ok (.goto 4, 3) := by decide +kernel
theorem dX4_begin_73 : decode cX4_begin 73 = .ok (.iconst 0, 1) := by decide +kernel
theorem dX4_begin_74 : decode cX4_begin 74 = .ok (.iastore, 1) := by decide +kernel
theorem dX4_begin_75 : decode cX4_begin 75 = .ok (.iinc 2 1, 3) := by decide +kernel
theorem dX4_begin_78 : decode cX4_begin 78 = .ok (.goto (-33), 3) := by decide +kernel
theorem dX4_begin_81 : decode cX4_begin 81 = .ok (.aload_n 0, 1) := by decide +kernel
theorem dX4_begin_82 : decode cX4_begin 82 = .ok (.aload_n 1, 1) := by decide +kernel
theorem dX4_begin_83 : decode cX4_begin 83 = .ok (.getfield 36, 3) := by decide +kernel
theorem dX4_begin_86 : decode cX4_begin 86 = .ok (.putfield 40, 3) := by decide +kernel
theorem dX4_begin_89 : decode cX4_begin 89 = .ok (.aload_n 0, 1) := by decide +kernel
theorem dX4_begin_90 : decode cX4_begin 90 = .ok (.iconst 0, 1) := by decide +kernel
theorem dX4_begin_91 : decode cX4_begin 91 = .ok (.putfield 43, 3) := by decide +kernel
theorem dX4_begin_94 : decode cX4_begin 94 = .ok (.return_, 1) := by decide +kernel
theorem dX4_take_0 : decode cX4_take 0 = .ok (.aload_n 1, 1) := by decide +kernel
theorem dX4_take_1 : decode cX4_take 1 = .ok (.getfield 11, 3) := by decide +kernel
theorem dX4_take_4 : decode cX4_take 4 = .ok (.iconst 0, 1) := by decide +kernel
theorem dX4_take_5 : decode cX4_take 5 = .ok (.aload_n 0, 1) := by decide +kernel
theorem dX4_take_6 : decode cX4_take 6 = .ok (.getfield 11, 3) := by decide +kernel
theorem dX4_take_9 : decode cX4_take 9 = .ok (.iconst 0, 1) := by decide +kernel
theorem dX4_take_10 : decode cX4_take 10 = .ok (.bipush 32, 2) := by decide +kernel
theorem dX4_take_12 : decode cX4_take 12 = .ok (.invokestatic 46, 3) := by decide +kernel
theorem dX4_take_15 : decode cX4_take 15 = .ok (.aload_n 1, 1) := by decide +kernel
theorem dX4_take_16 : decode cX4_take 16 = .ok (.getfield 15, 3) := by decide +kernel
theorem dX4_take_19 : decode cX4_take 19 = .ok (.iconst 0, 1) := by decide +kernel
theorem dX4_take_20 : decode cX4_take 20 = .ok (.aload_n 0, 1) := by decide +kernel
theorem dX4_take_21 : decode cX4_take 21 = .ok (.getfield 15, 3) := by decide +kernel
theorem dX4_take_24 : decode cX4_take 24 = .ok (.iconst 0, 1) := by decide +kernel
theorem dX4_take_25 : decode cX4_take 25 = .ok (.bipush 6, 2) := by decide +kernel
theorem dX4_take_27 : decode cX4_take 27 = .ok (.invokestatic 46, 3) := by decide +kernel
theorem dX4_take_30 : decode cX4_take 30 = .ok (.aload_n 0, 1) := by decide +kernel
theorem dX4_take_31 : decode cX4_take 31 = .ok (.aload_n 1, 1) := by decide +kernel
theorem dX4_take_32 : decode cX4_take 32 = .ok (.getfield 40, 3) := by decide +kernel
theorem dX4_take_35 : decode cX4_take 35 = .ok (.putfield 40, 3) := by decide +kernel
theorem dX4_take_38 : decode cX4_take 38 = .ok (.aload_n 0, 1) := by decide +kernel
theorem dX4_take_39 : decode cX4_take 39 = .ok (.aload_n 1, 1) := by decide +kernel
theorem dX4_take_40 : decode cX4_take 40 = .ok (.getfield 43, 3) := by decide +kernel
theorem dX4_take_43 : decode cX4_take 43 = .ok (.putfield 43, 3) := by decide +kernel
theorem dX4_take_46 : decode cX4_take 46 = .ok (.return_, 1) := by decide +kernel
theorem dX4_get_0 : decode cX4_get 0 = .ok (.iload_n 1, 1) := by decide +kernel
theorem dX4_get_1 : decode cX4_get 1 = .ok (.ifCond .lt 19, 3) := by decide +kernel
theorem dX4_get_4 : decode cX4_get 4 = .ok (.iload_n 1, 1) := by decide +kernel
theorem dX4_get_5 : decode cX4_get 5 = .ok (.iconst 4, 1) := by decide +kernel
theorem dX4_get_6 : decode cX4_get 6 = .ok (.if_icmp .ge 14, 3) := by decide +kernel
theorem dX4_get_9 : decode cX4_get 9 = .ok (.iload_n 2, 1) := by decide +kernel
theorem dX4_get_10 : decode cX4_get 10 = .ok (.iconst 1, 1) := by decide +kernel
theorem dX4_get_11 : decode cX4_get 11 = .ok (.if_icmp .lt 9, 3) := by decide +kernel
theorem dX4_get_14 : decode cX4_get 14 = .ok (.iload_n 2, 1) := by decide +kernel
theorem dX4_get_15 : decode cX4_get 15 = .ok (.bipush 8, 2) := by decide +kernel
theorem dX4_get_17 : decode cX4_get 17 = .ok (.if_icmp .le 6, 3) := by decide +kernel
theorem dX4_get_20 : decode cX4_get 20 = .ok (.bipush (-9), 2) := by decide +kernel
theorem dX4_get_22 : decode cX4_get 22 = .ok (.ireturn, 1) := by decide +kernel
theorem dX4_get_23 : decode cX4_get 23 = .ok (.aload_n 0, 1) := by decide +kernel
theorem dX4_get_24 : decode cX4_get 24 = .ok (.getfield 11, 3) := by decide +kernel
theorem dX4_get_27 : decode cX4_get 27 = .ok (.iload_n 1, 1) := by decide +kernel
theorem dX4_get_28 : decode cX4_get 28 = .ok (.bipush 8, 2) := by decide +kernel
theorem dX4_get_30 : decode cX4_get 30 = .ok (.imul, 1) := by decide +kernel
theorem dX4_get_31 : decode cX4_get 31 = .ok (.iload_n 2, 1) := by decide +kernel
theorem dX4_get_32 : decode cX4_get 32 = .ok (.iadd, 1) := by decide +kernel
theorem dX4_get_33 : decode cX4_get 33 = .ok (.iconst 1, 1) := by decide +kernel
theorem dX4_get_34 : decode cX4_get 34 = .ok (.isub, 1) := by decide +kernel
theorem dX4_get_35 : decode cX4_get 35 = .ok (.iaload, 1) := by decide +kernel
theorem dX4_get_36 : decode cX4_get 36 = .ok (.ireturn, 1) := by decide +kernel
theorem dX4_set_0 : decode cX4_set 0 = .ok (.iload_n 1, 1) := by decide +kernel
theorem dX4_set_1 : decode cX4_set 1 = .ok (.ifCond .lt 33, 3) := by decide +kernel
theorem dX4_set_4 : decode cX4_set 4 = .ok (.iload_n 1, 1) := by decide +kernel
theorem dX4_set_5 : decode cX4_set 5 = .ok (.iconst 4, 1) := by decide +kernel
theorem dX4_set_6 : decode cX4_set 6 = .ok (.if_icmp .ge 28, 3) := by decide +kernel
theorem dX4_set_9 : decode cX4_set 9 = .ok (.iload_n 2, 1) := by decide +kernel
theorem dX4_set_10 : decode cX4_set 10 = .ok (.iconst 1, 1) := by decide +kernel
theorem dX4_set_11 : decode cX4_set 11 = .ok (.if_icmp .lt 23, 3) := by decide +kernel
theorem dX4_set_14 : decode cX4_set 14 = .ok (.iload_n 2, 1) := by decide +kernel
theorem dX4_set_15 : decode cX4_set 15 = .ok (.bipush 8, 2) := by decide +kernel
theorem dX4_set_17 : decode cX4_set 17 = .ok (.if_icmp .gt 17, 3) := by decide +kernel
theorem dX4_set_20 : decode cX4_set 20 = .ok (.aload_n 0, 1) := by decide +kernel
theorem dX4_set_21 : decode cX4_set 21 = .ok (.getfield 11, 3) := by decide +kernel
theorem dX4_set_24 : decode cX4_set 24 = .ok (.iload_n 1, 1) := by decide +kernel
theorem dX4_set_25 : decode cX4_set 25 = .ok (.bipush 8, 2) := by decide +kernel
theorem dX4_set_27 : decode cX4_set 27 = .ok (.imul, 1) := by decide +kernel
theorem dX4_set_28 : decode cX4_set 28 = .ok (.iload_n 2, 1) := by decide +kernel
theorem dX4_set_29 : decode cX4_set 29 = .ok (.iadd, 1) := by decide +kernel
theorem dX4_set_30 : decode cX4_set 30 = .ok (.iconst 1, 1) := by decide +kernel
theorem dX4_set_31 : decode cX4_set 31 = .ok (.isub, 1) := by decide +kernel
theorem dX4_set_32 : decode cX4_set 32 = .ok (.iload_n 3, 1) := by decide +kernel
theorem dX4_set_33 : decode cX4_set 33 = .ok (.iastore, 1) := by decide +kernel
theorem dX4_set_34 : decode cX4_set 34 = .ok (.return_, 1) := by decide +kernel
theorem dX4_restOf_0 : decode cX4_restOf 0 = .ok (.iload_n 1, 1) := by decide +kernel
theorem dX4_restOf_1 : decode cX4_restOf 1 = .ok (.ifCond .lt 9, 3) := by decide +kernel
theorem dX4_restOf_4 : decode cX4_restOf 4 = .ok (.iload_n 1, 1) := by decide +kernel
theorem dX4_restOf_5 : decode cX4_restOf 5 = .ok (.bipush 6, 2) := by decide +kernel
theorem dX4_restOf_7 : decode cX4_restOf 7 = .ok (.if_icmp .lt 7, 3) := by decide +kernel
theorem dX4_restOf_10 : decode cX4_restOf 10 = .ok (.iconst 0, 1) := by decide +kernel
theorem dX4_restOf_11 : decode cX4_restOf 11 = .ok (.goto 9, 3) := by decide +kernel
theorem dX4_restOf_14 : decode cX4_restOf 14 = .ok (.aload_n 0, 1) := by decide +kernel
theorem dX4_restOf_15 : decode cX4_restOf 15 = .ok (.getfield 15, 3) := by decide +kernel
theorem dX4_restOf_18 : decode cX4_restOf 18 = .ok (.iload_n 1, 1) := by decide +kernel
theorem dX4_restOf_19 : decode cX4_restOf 19 = .ok (.iaload, 1) := by decide +kernel
theorem dX4_restOf_20 : decode cX4_restOf 20 = .ok (.ireturn, 1) := by decide +kernel
theorem dX4_setRest_0 : decode cX4_setRest 0 = .ok (.iload_n 1, 1) := by decide +kernel
theorem dX4_setRest_1 : decode cX4_setRest 1 = .ok (.ifCond .lt 16, 3) := by decide +kernel
theorem dX4_setRest_4 : decode cX4_setRest 4 = .ok (.iload_n 1, 1) := by decide +kernel
theorem dX4_setRest_5 : decode cX4_setRest 5 = .ok (.bipush 6, 2) := by decide +kernel
theorem dX4_setRest_7 : decode cX4_setRest 7 = .ok (.if_icmp .ge 10, 3) := by decide +kernel
theorem dX4_setRest_10 : decode cX4_setRest 10 = .ok (.aload_n 0, 1) := by decide +kernel
theorem dX4_setRest_11 : decode cX4_setRest 11 = .ok (.getfield 15, 3) := by decide +kernel
theorem dX4_setRest_14 : decode cX4_setRest 14 = .ok (.iload_n 1, 1) := by decide +kernel
theorem dX4_setRest_15 : decode cX4_setRest 15 = .ok (.iload_n 2, 1) := by decide +kernel
theorem dX4_setRest_16 : decode cX4_setRest 16 = .ok (.iastore, 1) := by decide +kernel
theorem dX4_setRest_17 : decode cX4_setRest 17 = .ok (.return_, 1) := by decide +kernel
theorem dX4_restart_0 : decode cX4_restart 0 = .ok (.aload_n 0, 1) := by decide +kernel
theorem dX4_restart_1 : decode cX4_restart 1 = .ok (.iload_n 1, 1) := by decide +kernel
theorem dX4_restart_2 : decode cX4_restart 2 = .ok (.iconst 2, 1) := by decide +kernel
theorem dX4_restart_3 : decode cX4_restart 3 = .ok (.iload_n 2, 1) := by decide +kernel
theorem dX4_restart_4 : decode cX4_restart 4 = .ok (.invokevirtual 18, 3) := by decide +kernel
theorem dX4_restart_7 : decode cX4_restart 7 = .ok (.aload_n 0, 1) := by decide +kernel
theorem dX4_restart_8 : decode cX4_restart 8 = .ok (.iload_n 1, 1) := by decide +kernel
theorem dX4_restart_9 : decode cX4_restart 9 = .ok (.iconst 3, 1) := by decide +kernel
theorem dX4_restart_10 : decode cX4_restart 10 = .ok (.iconst 0, 1) := by decide +kernel
theorem dX4_restart_11 : decode cX4_restart 11 = .ok (.invokevirtual 18, 3) := by decide +kernel
theorem dX4_restart_14 : decode cX4_restart 14 = .ok (.aload_n 0, 1) := by decide +kernel
theorem dX4_restart_15 : decode cX4_restart 15 = .ok (.iload_n 1, 1) := by decide +kernel
theorem dX4_restart_16 : decode cX4_restart 16 = .ok (.iconst 4, 1) := by decide +kernel
theorem dX4_restart_17 : decode cX4_restart 17 = .ok (.iconst 0, 1) := by decide +kernel
theorem dX4_restart_18 : decode cX4_restart 18 = .ok (.invokevirtual 18, 3) := by decide +kernel
theorem dX4_restart_21 : decode cX4_restart 21 = .ok (.aload_n 0, 1) := by decide +kernel
theorem dX4_restart_22 : decode cX4_restart 22 = .ok (.iload_n 1, 1) := by decide +kernel
theorem dX4_restart_23 : decode cX4_restart 23 = .ok (.iconst 5, 1) := by decide +kernel
theorem dX4_restart_24 : decode cX4_restart 24 = .ok (.iconst 0, 1) := by decide +kernel
theorem dX4_restart_25 : decode cX4_restart 25 = .ok (.invokevirtual 18, 3) := by decide +kernel
theorem dX4_restart_28 : decode cX4_restart 28 = .ok (.aload_n 0, 1) := by decide +kernel
theorem dX4_restart_29 : decode cX4_restart 29 = .ok (.iload_n 1, 1) := by decide +kernel
theorem dX4_restart_30 : decode cX4_restart 30 = .ok (.bipush 6, 2) := by decide +kernel
theorem dX4_restart_32 : decode cX4_restart 32 = .ok (.iconst 0, 1) := by decide +kernel
theorem dX4_restart_33 : decode cX4_restart 33 = .ok (.invokevirtual 18, 3) := by decide +kernel
theorem dX4_restart_36 : decode cX4_restart 36 = .ok (.return_, 1) := by decide +kernel
theorem dX4_isLive_0 : decode cX4_isLive 0 = .ok (.aload_n 0, 1) := by decide +kernel
theorem dX4_isLive_1 : decode cX4_isLive 1 = .ok (.iload_n 1, 1) := by decide +kernel
theorem dX4_isLive_2 : decode cX4_isLive 2 = .ok (.iconst 2, 1) := by decide +kernel
theorem dX4_isLive_3 : decode cX4_isLive 3 = .ok (.invokevirtual 52, 3) := by decide +kernel
theorem dX4_isLive_6 : decode cX4_isLive 6 = .ok (.istore_n 2, 1) := by decide +kernel
theorem dX4_isLive_7 : decode cX4_isLive 7 = .ok (.iload_n 2, 1) := by decide +kernel
theorem dX4_isLive_8 : decode cX4_isLive 8 = .ok (.iconst 1, 1) := by decide +kernel
theorem dX4_isLive_9 : decode cX4_isLive 9 = .ok (.if_icmp .eq 13, 3) := by decide +kernel
theorem dX4_isLive_12 : decode cX4_isLive 12 = .ok (.iload_n 2, 1) := by decide +kernel
theorem dX4_isLive_13 : decode cX4_isLive 13 = .ok (.iconst 2, 1) := by decide +kernel
theorem dX4_isLive_14 : decode cX4_isLive 14 = .ok (.if_icmp .eq 8, 3) := by decide +kernel
theorem dX4_isLive_17 : decode cX4_isLive 17 = .ok (.iload_n 2, 1) := by decide +kernel
theorem dX4_isLive_18 : decode cX4_isLive 18 = .ok (.iconst 3, 1) := by decide +kernel
theorem dX4_isLive_19 : decode cX4_isLive 19 = .ok (.if_icmp .ne 7, 3) := by decide +kernel
theorem dX4_isLive_22 : decode cX4_isLive 22 = .ok (.iconst 1, 1) := by decide +kernel
theorem dX4_isLive_23 : decode cX4_isLive 23 = .ok (.goto 4, 3) := by decide +kernel
theorem dX4_isLive_26 : decode cX4_isLive 26 = .ok (.iconst 0, 1) := by decide +kernel
theorem dX4_isLive_27 : decode cX4_isLive 27 = .ok (.ireturn, 1) := by decide +kernel
theorem dX4_postOf_0 : decode cX4_postOf 0 = .ok (.iconst 0, 1) := by decide +kernel
theorem dX4_postOf_1 : decode cX4_postOf 1 = .ok (.istore_n 2, 1) := by decide +kernel
theorem dX4_postOf_2 : decode cX4_postOf 2 = .ok (.iload_n 2, 1) := by decide +kernel
theorem dX4_postOf_3 : decode cX4_postOf 3 = .ok (.iconst 4, 1) := by decide +kernel
theorem dX4_postOf_4 : decode cX4_postOf 4 = .ok (.if_icmp .ge 21, 3) := by decide +kernel
theorem dX4_postOf_7 : decode cX4_postOf 7 = .ok (.aload_n 0, 1) := by decide +kernel
theorem dX4_postOf_8 : decode cX4_postOf 8 = .ok (.iload_n 2, 1) := by decide +kernel
theorem dX4_postOf_9 : decode cX4_postOf 9 = .ok (.iconst 1, 1) := by decide +kernel
theorem dX4_postOf_10 : decode cX4_postOf 10 = .ok (.invokevirtual 52, 3) := by decide +kernel
theorem dX4_postOf_13 : decode cX4_postOf 13 = .ok (.iload_n 1, 1) := by decide +kernel
theorem dX4_postOf_14 : decode cX4_postOf 14 = .ok (.if_icmp .ne 5, 3) := by decide +kernel
theorem dX4_postOf_17 : decode cX4_postOf 17 = .ok (.iload_n 2, 1) := by decide +kernel
theorem dX4_postOf_18 : decode cX4_postOf 18 = .ok (.ireturn, 1) := by decide +kernel
theorem dX4_postOf_19 : decode cX4_postOf 19 = .ok (.iinc 2 1, 3) := by decide +kernel
theorem dX4_postOf_22 : decode cX4_postOf 22 = .ok (.goto (-20), 3) := by decide +kernel
theorem dX4_postOf_25 : decode cX4_postOf 25 = .ok (.bipush (-9), 2) := by decide +kernel
theorem dX4_postOf_27 : decode cX4_postOf 27 = .ok (.ireturn, 1) := by decide +kernel
theorem dX4_carsAtPosts_0 : decode cX4_carsAtPosts 0 = .ok (.iconst 0, 1) := by decide +kernel
theorem dX4_carsAtPosts_1 : decode cX4_carsAtPosts 1 = .ok (.istore_n 1, 1) := by decide +kernel
theorem dX4_carsAtPosts_2 : decode cX4_carsAtPosts 2 = .ok (.iconst 0, 1) := by decide +kernel
theorem dX4_carsAtPosts_3 : decode cX4_carsAtPosts 3 = .ok (.istore_n 2, 1) := by decide +kernel
theorem dX4_carsAtPosts_4 : decode cX4_carsAtPosts 4 = .ok (.iload_n 2, 1) := by decide +kernel
theorem dX4_carsAtPosts_5 : decode cX4_carsAtPosts 5 = .ok (.iconst 4, 1) := by decide +kernel
theorem dX4_carsAtPosts_6 : decode cX4_carsAtPosts 6 = .ok (.if_icmp .ge 23, 3) := by decide +kernel
theorem dX4_carsAtPosts_9 : decode cX4_carsAtPosts 9 = .ok (.aload_n 0, 1) := by decide +kernel
theorem dX4_carsAtPosts_10 : decode cX4_carsAtPosts 10 = .ok (.iload_n 2, 1) := by decide +kernel
theorem dX4_carsAtPosts_11 : decode cX4_carsAtPosts 11 = .ok (.iconst 1, 1) := by decide +kernel
theorem dX4_carsAtPosts_12 : decode cX4_carsAtPosts 12 = .ok (.invokevirtual 52, 3) := by decide +kernel
theorem dX4_carsAtPosts_15 : decode cX4_carsAtPosts 15 = .ok (.bipush (-9), 2) := by decide +kernel
theorem dX4_carsAtPosts_17 : decode cX4_carsAtPosts 17 = .ok (.if_icmp .eq 6, 3) := by decide +kernel
theorem dX4_carsAtPosts_20 : decode cX4_carsAtPosts 20 = .ok (.iinc 1 1, 3) := by decide +kernel
theorem dX4_carsAtPosts_23 : decode cX4_carsAtPosts 23 = .ok (.iinc 2 1, 3) := by decide +kernel
theorem dX4_carsAtPosts_26 : decode cX4_carsAtPosts 26 = .ok (.goto (-22), 3) := by decide +kernel
theorem dX4_carsAtPosts_29 : decode cX4_carsAtPosts 29 = .ok (.iload_n 1, 1) := by decide +kernel
theorem dX4_carsAtPosts_30 : decode cX4_carsAtPosts 30 = .ok (.ireturn, 1) := by decide +kernel
theorem dX4_allCharged_0 : decode cX4_allCharged 0 = .ok (.iconst 0, 1) := by decide +kernel
theorem dX4_allCharged_1 : decode cX4_allCharged 1 = .ok (.istore_n 1, 1) := by decide +kernel
theorem dX4_allCharged_2 : decode cX4_allCharged 2 = .ok (.iload_n 1, 1) := by decide +kernel
theorem dX4_allCharged_3 : decode cX4_allCharged 3 = .ok (.iconst 4, 1) := by decide +kernel
theorem dX4_allCharged_4 : decode cX4_allCharged 4 = .ok (.if_icmp .ge 24, 3) := by decide +kernel
theorem dX4_allCharged_7 : decode cX4_allCharged 7 = .ok (.aload_n 0, 1) := by decide +kernel
theorem dX4_allCharged_8 : decode cX4_allCharged 8 = .ok (.aload_n 0, 1) := by decide +kernel
theorem dX4_allCharged_9 : decode cX4_allCharged 9 = .ok (.iload_n 1, 1) := by decide +kernel
theorem dX4_allCharged_10 : decode cX4_allCharged 10 = .ok (.iconst 1, 1) := by decide +kernel
theorem dX4_allCharged_11 : decode cX4_allCharged 11 = .ok (.invokevirtual 52, 3) := by decide +kernel
theorem dX4_allCharged_14 : decode cX4_allCharged 14 = .ok (.invokevirtual 55, 3) := by decide +kernel
theorem dX4_allCharged_17 : decode cX4_allCharged 17 = .ok (.ifCond .le 5, 3) := by decide +kernel
theorem dX4_allCharged_20 : decode cX4_allCharged 20 = .ok (.iconst 0, 1) := by decide +kernel
theorem dX4_allCharged_21 : decode cX4_allCharged 21 = .ok (.ireturn, 1) := by decide +kernel
theorem dX4_allCharged_22 : decode cX4_allCharged 22 = .ok (.iinc 1 1, 3) := by decide +kernel
theorem dX4_allCharged_25 : decode cX4_allCharged 25 = .ok (.goto (-23), 3) := by decide +kernel
theorem dX4_allCharged_28 : decode cX4_allCharged 28 = .ok (.iconst 1, 1) := by decide +kernel
theorem dX4_allCharged_29 : decode cX4_allCharged 29 = .ok (.ireturn, 1) := by decide +kernel
theorem dX4_postsIn_0 : decode cX4_postsIn 0 = .ok (.iconst 0, 1) := by decide +kernel
theorem dX4_postsIn_1 : decode cX4_postsIn 1 = .ok (.istore_n 2, 1) := by decide +kernel
theorem dX4_postsIn_2 : decode cX4_postsIn 2 = .ok (.iconst 0, 1) := by decide +kernel
theorem dX4_postsIn_3 : decode cX4_postsIn 3 = .ok (.istore_n 3, 1) := by decide +kernel
theorem dX4_postsIn_4 : decode cX4_postsIn 4 = .ok (.iload_n 3, 1) := by decide +kernel
theorem dX4_postsIn_5 : decode cX4_postsIn 5 = .ok (.iconst 4, 1) := by decide +kernel
theorem dX4_postsIn_6 : decode cX4_postsIn 6 = .ok (.if_icmp .ge 25, 3) := by decide +kernel
theorem dX4_postsIn_9 : decode cX4_postsIn 9 = .ok (.aload_n 0, 1) := by decide +kernel
theorem dX4_postsIn_10 : decode cX4_postsIn 10 = .ok (.iload_n 3, 1) := by decide +kernel
theorem dX4_postsIn_11 : decode cX4_postsIn 11 = .ok (.iconst 2, 1) := by decide +kernel
theorem dX4_postsIn_12 : decode cX4_postsIn 12 = .ok (.invokevirtual 52, 3) := by decide +kernel
theorem dX4_postsIn_15 : decode cX4_postsIn 15 = .ok (.iload_n 1, 1) := by decide +kernel
theorem dX4_postsIn_16 : decode cX4_postsIn 16 = .ok (.if_icmp .ne 9, 3) := by decide +kernel
theorem dX4_postsIn_19 : decode cX4_postsIn 19 = .ok (.iload_n 2, 1) := by decide +kernel
theorem dX4_postsIn_20 : decode cX4_postsIn 20 = .ok (.iconst 1, 1) := by decide +kernel
theorem dX4_postsIn_21 : decode cX4_postsIn 21 = .ok (.iload_n 3, 1) := by decide +kernel
theorem dX4_postsIn_22 : decode cX4_postsIn 22 = .ok (.ishl, 1) := by decide +kernel
theorem dX4_postsIn_23 : decode cX4_postsIn 23 = .ok (.ior, 1) := by decide +kernel
theorem dX4_postsIn_24 : decode cX4_postsIn 24 = .ok (.istore_n 2, 1) := by decide +kernel
theorem dX4_postsIn_25 : decode cX4_postsIn 25 = .ok (.iinc 3 1, 3) := by decide +kernel
theorem dX4_postsIn_28 : decode cX4_postsIn 28 = .ok (.goto (-24), 3) := by decide +kernel
theorem dX4_postsIn_31 : decode cX4_postsIn 31 = .ok (.iload_n 2, 1) := by decide +kernel
theorem dX4_postsIn_32 : decode cX4_postsIn 32 = .ok (.ireturn, 1) := by decide +kernel
theorem dX4_meters_0 : decode cX4_meters 0 = .ok (.iconst 0, 1) := by decide +kernel
theorem dX4_meters_1 : decode cX4_meters 1 = .ok (.istore_n 1, 1) := by decide +kernel
theorem dX4_meters_2 : decode cX4_meters 2 = .ok (.iconst 0, 1) := by decide +kernel
theorem dX4_meters_3 : decode cX4_meters 3 = .ok (.istore_n 2, 1) := by decide +kernel
theorem dX4_meters_4 : decode cX4_meters 4 = .ok (.iload_n 2, 1) := by decide +kernel
theorem dX4_meters_5 : decode cX4_meters 5 = .ok (.iconst 4, 1) := by decide +kernel
theorem dX4_meters_6 : decode cX4_meters 6 = .ok (.if_icmp .ge 19, 3) := by decide +kernel
theorem dX4_meters_9 : decode cX4_meters 9 = .ok (.iload_n 1, 1) := by decide +kernel
theorem dX4_meters_10 : decode cX4_meters 10 = .ok (.aload_n 0, 1) := by decide +kernel
theorem dX4_meters_11 : decode cX4_meters 11 = .ok (.iload_n 2, 1) := by decide +kernel
theorem dX4_meters_12 : decode cX4_meters 12 = .ok (.bipush 7, 2) := by decide +kernel
theorem dX4_meters_14 : decode cX4_meters 14 = .ok (.invokevirtual 52, 3) := by decide +kernel
theorem dX4_meters_17 : decode cX4_meters 17 = .ok (.iadd, 1) := by decide +kernel
theorem dX4_meters_18 : decode cX4_meters 18 = .ok (.istore_n 1, 1) := by decide +kernel
theorem dX4_meters_19 : decode cX4_meters 19 = .ok (.iinc 2 1, 3) := by decide +kernel
theorem dX4_meters_22 : decode cX4_meters 22 = .ok (.goto (-18), 3) := by decide +kernel
theorem dX4_meters_25 : decode cX4_meters 25 = .ok (.iload_n 1, 1) := by decide +kernel
theorem dX4_meters_26 : decode cX4_meters 26 = .ok (.ireturn, 1) := by decide +kernel
theorem dX4_rests_0 : decode cX4_rests 0 = .ok (.iconst 0, 1) := by decide +kernel
theorem dX4_rests_1 : decode cX4_rests 1 = .ok (.istore_n 1, 1) := by decide +kernel
theorem dX4_rests_2 : decode cX4_rests 2 = .ok (.iconst 0, 1) := by decide +kernel
theorem dX4_rests_3 : decode cX4_rests 3 = .ok (.istore_n 2, 1) := by decide +kernel
theorem dX4_rests_4 : decode cX4_rests 4 = .ok (.iload_n 2, 1) := by decide +kernel
theorem dX4_rests_5 : decode cX4_rests 5 = .ok (.bipush 6, 2) := by decide +kernel
theorem dX4_rests_7 : decode cX4_rests 7 = .ok (.if_icmp .ge 17, 3) := by decide +kernel
theorem dX4_rests_10 : decode cX4_rests 10 = .ok (.iload_n 1, 1) := by decide +kernel
theorem dX4_rests_11 : decode cX4_rests 11 = .ok (.aload_n 0, 1) := by decide +kernel
theorem dX4_rests_12 : decode cX4_rests 12 = .ok (.iload_n 2, 1) := by decide +kernel
theorem dX4_rests_13 : decode cX4_rests 13 = .ok (.invokevirtual 55, 3) := by decide +kernel
theorem dX4_rests_16 : decode cX4_rests 16 = .ok (.iadd, 1) := by decide +kernel
theorem dX4_rests_17 : decode cX4_rests 17 = .ok (.istore_n 1, 1) := by decide +kernel
theorem dX4_rests_18 : decode cX4_rests 18 = .ok (.iinc 2 1, 3) := by decide +kernel
theorem dX4_rests_21 : decode cX4_rests 21 = .ok (.goto (-17), 3) := by decide +kernel
theorem dX4_rests_24 : decode cX4_rests 24 = .ok (.iload_n 1, 1) := by decide +kernel
theorem dX4_rests_25 : decode cX4_rests 25 = .ok (.ireturn, 1) := by decide +kernel
theorem dX5_init_0 : decode cX5_init 0 = .ok (.aload_n 0, 1) := by decide +kernel
theorem dX5_init_1 : decode cX5_init 1 = .ok (.invokespecial 3, 3) := by decide +kernel
theorem dX5_init_4 : decode cX5_init 4 = .ok (.aload_n 0, 1) := by decide +kernel
theorem dX5_init_5 : decode cX5_init 5 = .ok (.bipush 70, 2) := by decide +kernel
theorem dX5_init_7 : decode cX5_init 7 = .ok (.newarray .int, 2) := by decide +kernel
theorem dX5_init_9 : decode cX5_init 9 = .ok (.putfield 9, 3) := by decide +kernel
theorem dX5_init_12 : decode cX5_init 12 = .ok (.return_, 1) := by decide +kernel
theorem dX5_append_0 : decode cX5_append 0 = .ok (.aload_n 0, 1) := by decide +kernel
theorem dX5_append_1 : decode cX5_append 1 = .ok (.getfield 15, 3) := by decide +kernel
theorem dX5_append_4 : decode cX5_append 4 = .ok (.ifCond .lt 12, 3) := by decide +kernel
theorem dX5_append_7 : decode cX5_append 7 = .ok (.aload_n 0, 1) := by decide +kernel
theorem dX5_append_8 : decode cX5_append 8 = .ok (.getfield 15, 3) := by decide +kernel
theorem dX5_append_11 : decode cX5_append 11 = .ok (.bipush 70, 2) := by decide +kernel
theorem dX5_append_13 : decode cX5_append 13 = .ok (.if_icmp .lt 5, 3) := by decide +kernel
theorem dX5_append_16 : decode cX5_append 16 = .ok (.iconst 0, 1) := by decide +kernel
theorem dX5_append_17 : decode cX5_append 17 = .ok (.ireturn, 1) := by decide +kernel
theorem dX5_append_18 : decode cX5_append 18 = .ok (.aload_n 0, 1) := by decide +kernel
theorem dX5_append_19 : decode cX5_append 19 = .ok (.getfield 9, 3) := by decide +kernel
theorem dX5_append_22 : decode cX5_append 22 = .ok (.aload_n 0, 1) := by decide +kernel
theorem dX5_append_23 : decode cX5_append 23 = .ok (.getfield 15, 3) := by decide +kernel
theorem dX5_append_26 : decode cX5_append 26 = .ok (.iload_n 1, 1) := by decide +kernel
theorem dX5_append_27 : decode cX5_append 27 = .ok (.iastore, 1) := by decide +kernel
theorem dX5_append_28 : decode cX5_append 28 = .ok (.aload_n 0, 1) := by decide +kernel
theorem dX5_append_29 : decode cX5_append 29 = .ok (.dup, 1) := by decide +kernel
theorem dX5_append_30 : decode cX5_append 30 = .ok (.getfield 15, 3) := by decide +kernel
theorem dX5_append_33 : decode cX5_append 33 = .ok (.iconst 1, 1) := by decide +kernel
theorem dX5_append_34 : decode cX5_append 34 = .ok (.iadd, 1) := by decide +kernel
theorem dX5_append_35 : decode cX5_append 35 = .ok (.putfield 15, 3) := by decide +kernel
theorem dX5_append_38 : decode cX5_append 38 = .ok (.iconst 1, 1) := by decide +kernel
theorem dX5_append_39 : decode cX5_append 39 = .ok (.ireturn, 1) := by decide +kernel
theorem dX5_byteAt_0 : decode cX5_byteAt 0 = .ok (.iload_n 1, 1) := by decide +kernel
theorem dX5_byteAt_1 : decode cX5_byteAt 1 = .ok (.ifCond .lt 17, 3) := by decide +kernel
theorem dX5_byteAt_4 : decode cX5_byteAt 4 = .ok (.iload_n 1, 1) := by decide +kernel
theorem dX5_byteAt_5 : decode cX5_byteAt 5 = .ok (.aload_n 0, 1) := by decide +kernel
theorem dX5_byteAt_6 : decode cX5_byteAt 6 = .ok (.getfield 15, 3) := by decide +kernel
theorem dX5_byteAt_9 : decode cX5_byteAt 9 = .ok (.if_icmp .ge 9, 3) := by decide +kernel
theorem dX5_byteAt_12 : decode cX5_byteAt 12 = .ok (.iload_n 1, 1) := by decide +kernel
theorem dX5_byteAt_13 : decode cX5_byteAt 13 = .ok (.bipush 70, 2) := by decide +kernel
theorem dX5_byteAt_15 : decode cX5_byteAt 15 = .ok (.if_icmp .lt 7, 3) := by decide +kernel
theorem dX5_byteAt_18 : decode cX5_byteAt 18 = .ok (.iconst (-1), 1) := by decide +kernel
theorem dX5_byteAt_19 : decode cX5_byteAt 19 = .ok (.goto 9, 3) := by decide +kernel
theorem dX5_byteAt_22 : decode cX5_byteAt 22 = .ok (.aload_n 0, 1) := by decide +kernel
theorem dX5_byteAt_23 : decode cX5_byteAt 23 = .ok (.getfield 9, 3) := by decide +kernel
theorem dX5_byteAt_26 : decode cX5_byteAt 26 = .ok (.iload_n 1, 1) := by decide +kernel
theorem dX5_byteAt_27 : decode cX5_byteAt 27 = .ok (.iaload, 1) := by decide +kernel
theorem dX5_byteAt_28 : decode cX5_byteAt 28 = .ok (.ireturn, 1) := by decide +kernel
theorem dX5_digitAt_0 : decode cX5_digitAt 0 = .ok (.aload_n 0, 1) := by decide +kernel
theorem dX5_digitAt_1 : decode cX5_digitAt 1 = .ok (.iload_n 1, 1) := by decide +kernel
theorem dX5_digitAt_2 : decode cX5_digitAt 2 = .ok (.invokevirtual 19, 3) := by decide +kernel
theorem dX5_digitAt_5 : decode cX5_digitAt 5 = .ok (.bipush 48, 2) := by decide +kernel
theorem dX5_digitAt_7 : decode cX5_digitAt 7 = .ok (.isub, 1) := by decide +kernel
theorem dX5_digitAt_8 : decode cX5_digitAt 8 = .ok (.ireturn, 1) := by decide +kernel
theorem dX5_isDigit_0 : decode cX5_isDigit 0 = .ok (.aload_n 0, 1) := by decide +kernel
theorem dX5_isDigit_1 : decode cX5_isDigit 1 = .ok (.iload_n 1, 1) := by decide +kernel
theorem dX5_isDigit_2 : decode cX5_isDigit 2 = .ok (.invokevirtual 23, 3) := by decide +kernel
theorem dX5_isDigit_5 : decode cX5_isDigit 5 = .ok (.istore 4, 2) := by decide +kernel
theorem dX5_isDigit_7 : decode cX5_isDigit 7 = .ok (.iload 4, 2) := by decide +kernel
theorem dX5_isDigit_9 : decode cX5_isDigit 9 = .ok (.iload_n 2, 1) := by decide +kernel
theorem dX5_isDigit_10 : decode cX5_isDigit 10 = .ok (.if_icmp .lt 13, 3) := by decide +kernel
theorem dX5_isDigit_13 : decode cX5_isDigit 13 = .ok (.iload 4, 2) := by decide +kernel
theorem dX5_isDigit_15 : decode cX5_isDigit 15 = .ok (.iload_n 3, 1) := by decide +kernel
theorem dX5_isDigit_16 : decode cX5_isDigit 16 = .ok (.if_icmp .gt 7, 3) := by decide +kernel
theorem dX5_isDigit_19 : decode cX5_isDigit 19 = .ok (.iconst 1, 1) := by decide +kernel
theorem dX5_isDigit_20 : decode cX5_isDigit 20 = .ok (.goto 4, 3) := by decide +kernel
theorem dX5_isDigit_23 : decode cX5_isDigit 23 = .ok (.iconst 0, 1) := by decide +kernel
theorem dX5_isDigit_24 : decode cX5_isDigit 24 = .ok (.ireturn, 1) := by decide +kernel
theorem dX5_firstFault_0 : decode cX5_firstFault 0 = .ok (.aload_n 0, 1) := by decide +kernel
theorem dX5_firstFault_1 : decode cX5_firstFault 1 = .ok (.invokevirtual 26, 3) := by decide +kernel
theorem dX5_firstFault_4 : decode cX5_firstFault 4 = .ok (.istore_n 1, 1) := by decide +kernel
theorem dX5_firstFault_5 : decode cX5_firstFault 5 = .ok (.iconst 0, 1) := by decide +kernel
theorem dX5_firstFault_6 : decode cX5_firstFault 6 = .ok (.istore_n 2, 1) := by decide +kernel
theorem dX5_firstFault_7 : decode cX5_firstFault 7 = .ok (.iconst 0, 1) := by decide +kernel
theorem dX5_firstFault_8 : decode cX5_firstFault 8 = .ok (.istore_n 3, 1) := by decide +kernel
theorem dX5_firstFault_9 : decode cX5_firstFault 9 = .ok (.iconst 4, 1) := by decide +kernel
theorem dX5_firstFault_10 : decode cX5_firstFault 10 = .ok (.istore 4, 2) := by decide +kernel
theorem dX5_firstFault_12 : decode cX5_firstFault 12 = .ok (.iconst 0, 1) := by decide +kernel
theorem dX5_firstFault_13 : decode cX5_firstFault 13 = .ok (.istore 5, 2) := by decide +kernel
theorem dX5_firstFault_15 : decode cX5_firstFault 15 = .ok (.iload 5, 2) := by decide +kernel
theorem dX5_firstFault_17 : decode cX5_firstFault 17 = .ok (.bipush 70, 2) := by decide +kernel
theorem dX5_firstFault_19 : decode cX5_firstFault 19 = .ok (.if_icmp .ge 109, 3) := by decide +kernel
theorem dX5_firstFault_22 : decode cX5_firstFault 22 = .ok (.iload_n 1, 1) := by decide +kernel
theorem dX5_firstFault_23 : decode cX5_firstFault 23 = .ok (.bipush (-9), 2) := by decide +kernel
theorem dX5_firstFault_25 : decode cX5_firstFault 25 = .ok (.if_icmp .ne 103, 3) := by decide +kernel
theorem dX5_firstFault_28 : decode cX5_firstFault 28 = .ok (.iload 4, 2) := by decide +kernel
theorem dX5_firstFault_30 : decode cX5_firstFault 30 = .ok (.aload_n 0, 1) := by decide +kernel
theorem dX5_firstFault_31 : decode cX5_firstFault 31 = .ok (.getfield 15, 3) := by decide +kernel
theorem dX5_firstFault_34 : decode cX5_firstFault 34 = .ok (.if_icmp .ge 94, 3) := by decide +kernel
theorem dX5_firstFault_37 : decode cX5_firstFault 37 = .ok (.aload_n 0, 1) := by decide +kernel
theorem dX5_firstFault_38 : decode cX5_firstFault 38 = .ok (.iload 4, 2) := by decide +kernel
theorem dX5_firstFault_40 : decode cX5_firstFault 40 = .ok (.invokevirtual 19, 3) := by decide +kernel
theorem dX5_firstFault_43 : decode cX5_firstFault 43 = .ok (.bipush 112, 2) := by decide +kernel
theorem dX5_firstFault_45 : decode cX5_firstFault 45 = .ok (.if_icmp .ne 41, 3) := by decide +kernel
theorem dX5_firstFault_48 : decode cX5_firstFault 48 = .ok (.iload_n 2, 1) := by decide +kernel
theorem dX5_firstFault_49 : decode cX5_firstFault 49 = .ok (.iconst 4, 1) := by decide +kernel
theorem dX5_firstFault_50 : decode cX5_firstFault 50 = .ok (.if_icmp .ge 36, 3) := by decide +kernel
theorem dX5_firstFault_53 : decode cX5_firstFault 53 = .ok (.aload_n 0, 1) := by decide +kernel
theorem dX5_firstFault_54 : decode cX5_firstFault 54 = .ok (.iload 4, 2) := by decide +kernel
theorem dX5_firstFault_56 : decode cX5_firstFault 56 = .ok (.iconst 1, 1) := by decide +kernel
theorem dX5_firstFault_57 : decode cX5_firstFault 57 = .ok (.iadd, 1) := by decide +kernel
theorem dX5_firstFault_58 : decode cX5_firstFault 58 = .ok (.iconst 1, 1) := by decide +kernel
theorem dX5_firstFault_59 : decode cX5_firstFault 59 = .ok (.bipush 9, 2) := by decide +kernel
theorem dX5_firstFault_61 : decode cX5_firstFault 61 = .ok (.invokevirtual 30, 3) := by decide +kernel
theorem dX5_firstFault_64 : decode cX5_firstFault 64 = .ok (.ifCond .eq 8, 3) := by decide +kernel
theorem dX5_firstFault_67 : decode cX5_firstFault 67 = .ok (.bipush (-9), 2) := by decide +kernel
theorem dX5_firstFault_69 : decode cX5_firstFault 69 = .ok (.goto 7, 3) := by decide +kernel
theorem dX5_firstFault_72 : decode cX5_firstFault 72 = .ok (.iload 4, 2) := by decide +kernel
theorem dX5_firstFault_74 : decode cX5_firstFault 74 = .ok (.iconst 1, 1) := by decide +kernel
theorem dX5_firstFault_75 : decode cX5_firstFault 75 = .ok (.iadd, 1) := by decide +kernel
theorem dX5_firstFault_76 : decode cX5_firstFault 76 = .ok (.istore_n 1, 1) := by decide +kernel
theorem dX5_firstFault_77 : decode cX5_firstFault 77 = .ok (.iinc 2 1, 3) := by decide +kernel
theorem dX5_firstFault_80 : decode cX5_firstFault 80 = .ok (.iinc 4 2, 3) := by decide +kernel
theorem dX5_firstFault_83 : decode cX5_firstFault 83 = .ok (.goto 39, 3) := by decide +kernel
theorem dX5_firstFault_86 : decode cX5_firstFault 86 = .ok (.aload_n 0, 1) := by decide +kernel
theorem dX5_firstFault_87 : decode cX5_firstFault 87 = .ok (.iload 4, 2) := by decide +kernel
theorem dX5_firstFault_89 : decode cX5_firstFault 89 = .ok (.invokevirtual 19, 3) := by decide +kernel
theorem dX5_firstFault_92 : decode cX5_firstFault 92 = .ok (.bipush 99, 2) := by decide +kernel
theorem dX5_firstFault_94 : decode cX5_firstFault 94 = .ok (.if_icmp .ne 25, 3) := by decide +kernel
theorem dX5_firstFault_97 : decode cX5_firstFault 97 = .ok (.iload_n 3, 1) := by decide +kernel
theorem dX5_firstFault_98 : decode cX5_firstFault 98 = .ok (.bipush 6, 2) := by decide +kernel
theorem dX5_firstFault_100 : decode cX5_firstFault 100 = .ok (.if_icmp .ge 19, 3) := by decide +kernel
theorem dX5_firstFault_103 : decode cX5_firstFault 103 = .ok (.aload_n 0, 1) := by decide +kernel
theorem dX5_firstFault_104 : decode cX5_firstFault 104 = .ok (.iload 4, 2) := by decide +kernel
theorem dX5_firstFault_106 : decode cX5_firstFault 106 = .ok (.invokevirtual 34, 3) := by decide +kernel
theorem dX5_firstFault_109 : decode cX5_firstFault 109 = .ok (.istore_n 1, 1) := by decide +kernel
theorem dX5_firstFault_110 : decode cX5_firstFault 110 = .ok (.iinc 3 1, 3) := by decide +kernel
theorem dX5_firstFault_113 : decode cX5_firstFault 113 = .ok (.iinc 4 6, 3) := by decide +kernel
theorem dX5_firstFault_116 : decode cX5_firstFault 116 = .ok (.goto 6, 3) := by decide +kernel
theorem dX5_firstFault_119 : decode cX5_firstFault 119 = .ok (.iload 4, 2) := by decide +kernel
theorem dX5_firstFault_121 : decode cX5_firstFault 121 = .ok (.istore_n 1, 1) := by decide +kernel
theorem dX5_firstFault_122 : decode cX5_firstFault 122 = .ok (.iinc 5 1, 3) := by decide +kernel
theorem dX5_firstFault_125 : decode cX5_firstFault 125 = .ok (.goto (-110), 3) := by decide +kernel
theorem dX5_firstFault_128 : decode cX5_firstFault 128 = .ok (.iload_n 1, 1) := by decide +kernel
theorem dX5_firstFault_129 : decode cX5_firstFault 129 = .ok (.ireturn, 1) := by decide +kernel
theorem dX5_faultOfHead_0 : decode cX5_faultOfHead 0 = .ok (.aload_n 0, 1) := by decide +kernel
theorem dX5_faultOfHead_1 : decode cX5_faultOfHead 1 = .ok (.iconst 0, 1) := by decide +kernel
theorem dX5_faultOfHead_2 : decode cX5_faultOfHead 2 = .ok (.invokevirtual 19, 3) := by decide +kernel
theorem dX5_faultOfHead_5 : decode cX5_faultOfHead 5 = .ok (.bipush 70, 2) := by decide +kernel
theorem dX5_faultOfHead_7 : decode cX5_faultOfHead 7 = .ok (.if_icmp .eq 5, 3) := by decide +kernel
theorem dX5_faultOfHead_10 : decode cX5_faultOfHead 10 = .ok (.iconst 0, 1) := by decide +kernel
theorem dX5_faultOfHead_11 : decode cX5_faultOfHead 11 = .ok (.ireturn, 1) := by decide +kernel
theorem dX5_faultOfHead_12 : decode cX5_faultOfHead 12 = .ok (.aload_n 0, 1) := by decide +kernel
theorem dX5_faultOfHead_13 : decode cX5_faultOfHead 13 = .ok (.iconst 1, 1) := by decide +kernel
theorem dX5_faultOfHead_14 : decode cX5_faultOfHead 14 = .ok (.iconst 0, 1) := by decide +kernel
theorem dX5_faultOfHead_15 : decode cX5_faultOfHead 15 = .ok (.bipush 9, 2) := by decide +kernel
theorem dX5_faultOfHead_17 : decode cX5_faultOfHead 17 = .ok (.invokevirtual 30, 3) := by decide +kernel
theorem dX5_faultOfHead_20 : decode cX5_faultOfHead 20 = .ok (.ifCond .ne 5, 3) := by decide +kernel
theorem dX5_faultOfHead_23 : decode cX5_faultOfHead 23 = .ok (.iconst 1, 1) := by decide +kernel
theorem dX5_faultOfHead_24 : decode cX5_faultOfHead 24 = .ok (.ireturn, 1) := by decide +kernel
theorem dX5_faultOfHead_25 : decode cX5_faultOfHead 25 = .ok (.aload_n 0, 1) := by decide +kernel
theorem dX5_faultOfHead_26 : decode cX5_faultOfHead 26 = .ok (.iconst 2, 1) := by decide +kernel
theorem dX5_faultOfHead_27 : decode cX5_faultOfHead 27 = .ok (.iconst 0, 1) := by decide +kernel
theorem dX5_faultOfHead_28 : decode cX5_faultOfHead 28 = .ok (.bipush 9, 2) := by decide +kernel
theorem dX5_faultOfHead_30 : decode cX5_faultOfHead 30 = .ok (.invokevirtual 30, 3) := by decide +kernel
theorem dX5_faultOfHead_33 : decode cX5_faultOfHead 33 = .ok (.ifCond .ne 5, 3) := by decide +kernel
theorem dX5_faultOfHead_36 : decode cX5_faultOfHead 36 = .ok (.iconst 2, 1) := by decide +kernel
theorem dX5_faultOfHead_37 : decode cX5_faultOfHead 37 = .ok (.ireturn, 1) := by decide +kernel
theorem dX5_faultOfHead_38 : decode cX5_faultOfHead 38 = .ok (.aload_n 0, 1) := by decide +kernel
theorem dX5_faultOfHead_39 : decode cX5_faultOfHead 39 = .ok (.iconst 3, 1) := by decide +kernel
theorem dX5_faultOfHead_40 : decode cX5_faultOfHead 40 = .ok (.iconst 1, 1) := by decide +kernel
theorem dX5_faultOfHead_41 : decode cX5_faultOfHead 41 = .ok (.bipush 9, 2) := by decide +kernel
theorem dX5_faultOfHead_43 : decode cX5_faultOfHead 43 = .ok (.invokevirtual 30, 3) := by decide +kernel
theorem dX5_faultOfHead_46 : decode cX5_faultOfHead 46 = .ok (.ifCond .eq 8, 3) := by decide +kernel
theorem dX5_faultOfHead_49 : decode cX5_faultOfHead 49 = .ok (.bipush (-9), 2) := by decide +kernel
theorem dX5_faultOfHead_51 : decode cX5_faultOfHead 51 = .ok (.goto 4, 3) := by decide +kernel
theorem dX5_faultOfHead_54 : decode cX5_faultOfHead 54 = .ok (.iconst 3, 1) := by decide +kernel
theorem dX5_faultOfHead_55 : decode cX5_faultOfHead 55 = .ok (.ireturn, 1) := by decide +kernel
theorem dX5_faultOfCar_0 : decode cX5_faultOfCar 0 = .ok (.aload_n 0, 1) := by decide +kernel
theorem dX5_faultOfCar_1 : decode cX5_faultOfCar 1 = .ok (.iload_n 1, 1) := by decide +kernel
theorem dX5_faultOfCar_2 : decode cX5_faultOfCar 2 = .ok (.iconst 1, 1) := by decide +kernel
theorem dX5_faultOfCar_3 : decode cX5_faultOfCar 3 = .ok (.iadd, 1) := by decide +kernel
theorem dX5_faultOfCar_4 : decode cX5_faultOfCar 4 = .ok (.iconst 0, 1) := by decide +kernel
theorem dX5_faultOfCar_5 : decode cX5_faultOfCar 5 = .ok (.bipush 9, 2) := by decide +kernel
theorem dX5_faultOfCar_7 : decode cX5_faultOfCar 7 = .ok (.invokevirtual 30, 3) := by decide +kernel
theorem dX5_faultOfCar_10 : decode cX5_faultOfCar 10 = .ok (.ifCond .ne 7, 3) := by decide +kernel
theorem dX5_faultOfCar_13 : decode cX5_faultOfCar 13 = .ok (.iload_n 1, 1) := by decide +kernel
theorem dX5_faultOfCar_14 : decode cX5_faultOfCar 14 = .ok (.iconst 1, 1) := by decide +kernel
theorem dX5_faultOfCar_15 : decode cX5_faultOfCar 15 = .ok (.iadd, 1) := by decide +kernel
theorem dX5_faultOfCar_16 : decode cX5_faultOfCar 16 = .ok (.ireturn, 1) := by decide +kernel
theorem dX5_faultOfCar_17 : decode cX5_faultOfCar 17 = .ok (.aload_n 0, 1) := by decide +kernel
theorem dX5_faultOfCar_18 : decode cX5_faultOfCar 18 = .ok (.iload_n 1, 1) := by decide +kernel
theorem dX5_faultOfCar_19 : decode cX5_faultOfCar 19 = .ok (.iconst 2, 1) := by decide +kernel
theorem dX5_faultOfCar_20 : decode cX5_faultOfCar 20 = .ok (.iadd, 1) := by decide +kernel
theorem dX5_faultOfCar_21 : decode cX5_faultOfCar 21 = .ok (.aload_n 0, 1) := by decide +kernel
theorem dX5_faultOfCar_22 : decode cX5_faultOfCar 22 = .ok (.iload_n 1, 1) := by decide +kernel
theorem dX5_faultOfCar_23 : decode cX5_faultOfCar 23 = .ok (.iconst 1, 1) := by decide +kernel
theorem dX5_faultOfCar_24 : decode cX5_faultOfCar 24 = .ok (.iadd, 1) := by decide +kernel
theorem dX5_faultOfCar_25 : decode cX5_faultOfCar 25 = .ok (.invokevirtual 23, 3) := by decide +kernel
theorem dX5_faultOfCar_28 : decode cX5_faultOfCar 28 = .ok (.ifCond .ne 7, 3) := by decide +kernel
theorem dX5_faultOfCar_31 : decode cX5_faultOfCar 31 = .ok (.iconst 1, 1) := by decide +kernel
theorem dX5_faultOfCar_32 : decode cX5_faultOfCar 32 = .ok (.goto 4, 3) := by decide +kernel
theorem dX5_faultOfCar_35 : decode cX5_faultOfCar 35 = .ok (.iconst 0, 1) := by decide +kernel
theorem dX5_faultOfCar_36 : decode cX5_faultOfCar 36 = .ok (.bipush 9, 2) := by decide +kernel
theorem dX5_faultOfCar_38 : decode cX5_faultOfCar 38 = .ok (.invokevirtual 30, 3) := by decide +kernel
theorem dX5_faultOfCar_41 : decode cX5_faultOfCar 41 = .ok (.ifCond .ne 7, 3) := by decide +kernel
theorem dX5_faultOfCar_44 : decode cX5_faultOfCar 44 = .ok (.iload_n 1, 1) := by decide +kernel
theorem dX5_faultOfCar_45 : decode cX5_faultOfCar 45 = .ok (.iconst 2, 1) := by decide +kernel
theorem dX5_faultOfCar_46 : decode cX5_faultOfCar 46 = .ok (.iadd, 1) := by decide +kernel
theorem dX5_faultOfCar_47 : decode cX5_faultOfCar 47 = .ok (.ireturn, 1) := by decide +kernel
theorem dX5_faultOfCar_48 : decode cX5_faultOfCar 48 = .ok (.aload_n 0, 1) := by decide +kernel
theorem dX5_faultOfCar_49 : decode cX5_faultOfCar 49 = .ok (.iload_n 1, 1) := by decide +kernel
theorem dX5_faultOfCar_50 : decode cX5_faultOfCar 50 = .ok (.iconst 3, 1) := by decide +kernel
theorem dX5_faultOfCar_51 : decode cX5_faultOfCar 51 = .ok (.iadd, 1) := by decide +kernel
theorem dX5_faultOfCar_52 : decode cX5_faultOfCar 52 = .ok (.iconst 1, 1) := by decide +kernel
theorem dX5_faultOfCar_53 : decode cX5_faultOfCar 53 = .ok (.bipush 9, 2) := by decide +kernel
theorem dX5_faultOfCar_55 : decode cX5_faultOfCar 55 = .ok (.invokevirtual 30, 3) := by decide +kernel
theorem dX5_faultOfCar_58 : decode cX5_faultOfCar 58 = .ok (.ifCond .ne 7, 3) := by decide +kernel
theorem dX5_faultOfCar_61 : decode cX5_faultOfCar 61 = .ok (.iload_n 1, 1) := by decide +kernel
theorem dX5_faultOfCar_62 : decode cX5_faultOfCar 62 = .ok (.iconst 3, 1) := by decide +kernel
theorem dX5_faultOfCar_63 : decode cX5_faultOfCar 63 = .ok (.iadd, 1) := by decide +kernel
theorem dX5_faultOfCar_64 : decode cX5_faultOfCar 64 = .ok (.ireturn, 1) := by decide +kernel
theorem dX5_faultOfCar_65 : decode cX5_faultOfCar 65 = .ok (.aload_n 0, 1) := by decide +kernel
theorem dX5_faultOfCar_66 : decode cX5_faultOfCar 66 = .ok (.iload_n 1, 1) := by decide +kernel
theorem dX5_faultOfCar_67 : decode cX5_faultOfCar 67 = .ok (.iconst 4, 1) := by decide +kernel
theorem dX5_faultOfCar_68 : decode cX5_faultOfCar 68 = .ok (.iadd, 1) := by decide +kernel
theorem dX5_faultOfCar_69 : decode cX5_faultOfCar 69 = .ok (.iconst 0, 1) := by decide +kernel
theorem dX5_faultOfCar_70 : decode cX5_faultOfCar 70 = .ok (.bipush 9, 2) := by decide +kernel
theorem dX5_faultOfCar_72 : decode cX5_faultOfCar 72 = .ok (.invokevirtual 30, 3) := by decide +kernel
theorem dX5_faultOfCar_75 : decode cX5_faultOfCar 75 = .ok (.ifCond .ne 7, 3) := by decide +kernel
theorem dX5_faultOfCar_78 : decode cX5_faultOfCar 78 = .ok (.iload_n 1, 1) := by decide +kernel
theorem dX5_faultOfCar_79 : decode cX5_faultOfCar 79 = .ok (.iconst 4, 1) := by decide +kernel
theorem dX5_faultOfCar_80 : decode cX5_faultOfCar 80 = .ok (.iadd, 1) := by decide +kernel
theorem dX5_faultOfCar_81 : decode cX5_faultOfCar 81 = .ok (.ireturn, 1) := by decide +kernel
theorem dX5_faultOfCar_82 : decode cX5_faultOfCar 82 = .ok (.aload_n 0, 1) := by decide +kernel
theorem dX5_faultOfCar_83 : decode cX5_faultOfCar 83 = .ok (.iload_n 1, 1) := by decide +kernel
theorem dX5_faultOfCar_84 : decode cX5_faultOfCar 84 = .ok (.iconst 5, 1) := by decide +kernel
theorem dX5_faultOfCar_85 : decode cX5_faultOfCar 85 = .ok (.iadd, 1) := by decide +kernel
theorem dX5_faultOfCar_86 : decode cX5_faultOfCar 86 = .ok (.iconst 0, 1) := by decide +kernel
theorem dX5_faultOfCar_87 : decode cX5_faultOfCar 87 = .ok (.iconst 2, 1) := by decide +kernel
theorem dX5_faultOfCar_88 : decode cX5_faultOfCar 88 = .ok (.invokevirtual 30, 3) := by decide +kernel
theorem dX5_faultOfCar_91 : decode cX5_faultOfCar 91 = .ok (.ifCond .eq 8, 3) := by decide +kernel
theorem dX5_faultOfCar_94 : decode cX5_faultOfCar 94 = .ok (.bipush (-9), 2) := by decide +kernel
theorem dX5_faultOfCar_96 : decode cX5_faultOfCar 96 = .ok (.goto 6, 3) := by decide +kernel
theorem dX5_faultOfCar_99 : decode cX5_faultOfCar 99 = .ok (.iload_n 1, 1) := by decide +kernel
theorem dX5_faultOfCar_100 : decode cX5_faultOfCar 100 = .ok (.iconst 5, 1) := by decide +kernel
theorem dX5_faultOfCar_101 : decode cX5_faultOfCar 101 = .ok (.iadd, 1) := by decide +kernel
theorem dX5_faultOfCar_102 : decode cX5_faultOfCar 102 = .ok (.ireturn, 1) := by decide +kernel
theorem dX6_init_0 : decode cX6_init 0 = .ok (.aload_n 0, 1) := by decide +kernel
theorem dX6_init_1 : decode cX6_init 1 = .ok (.invokespecial 3, 3) := by decide +kernel
theorem dX6_init_4 : decode cX6_init 4 = .ok (.aload_n 0, 1) := by decide +kernel
theorem dX6_init_5 : decode cX6_init 5 = .ok (.new 9, 3) := by decide +kernel
theorem dX6_init_8 : decode cX6_init 8 = .ok (.dup, 1) := by decide +kernel
theorem dX6_init_9 : decode cX6_init 9 = .ok (.invokespecial 11, 3) := by decide +kernel
theorem dX6_init_12 : decode cX6_init 12 = .ok (.putfield 12, 3) := by decide +kernel
theorem dX6_init_15 : decode cX6_init 15 = .ok (.aload_n 0, 1) := by decide +kernel
theorem dX6_init_16 : decode cX6_init 16 = .ok (.new 16, 3) := by decide +kernel
theorem dX6_init_19 : decode cX6_init 19 = .ok (.dup, 1) := by decide +kernel
theorem dX6_init_20 : decode cX6_init 20 = .ok (.invokespecial 18, 3) := by decide +kernel
theorem dX6_init_23 : decode cX6_init 23 = .ok (.putfield 19, 3) := by decide +kernel
theorem dX6_init_26 : decode cX6_init 26 = .ok (.aload_n 0, 1) := by decide +kernel
theorem dX6_init_27 : decode cX6_init 27 = .ok (.new 23, 3) := by decide +kernel
theorem dX6_init_30 : decode cX6_init 30 = .ok (.dup, 1) := by decide +kernel
theorem dX6_init_31 : decode cX6_init 31 = .ok (.aload_n 0, 1) := by decide +kernel
theorem dX6_init_32 : decode cX6_init 32 = .ok (.getfield 19, 3) := by decide +kernel
theorem dX6_init_35 : decode cX6_init 35 = .ok (.invokespecial 25, 3) := by decide +kernel
theorem dX6_init_38 : decode cX6_init 38 = .ok (.putfield 28, 3) := by decide +kernel
theorem dX6_init_41 : decode cX6_init 41 = .ok (.aload_n 0, 1) := by decide +kernel
theorem dX6_init_42 : decode cX6_init 42 = .ok (.new 32, 3) := by decide +kernel
theorem dX6_init_45 : decode cX6_init 45 = .ok (.dup, 1) := by decide +kernel
theorem dX6_init_46 : decode cX6_init 46 = .ok (.invokespecial 34, 3) := by decide +kernel
theorem dX6_init_49 : decode cX6_init 49 = .ok (.putfield 35, 3) := by decide +kernel
theorem dX6_init_52 : decode cX6_init 52 = .ok (.aload_n 0, 1) := by decide +kernel
theorem dX6_init_53 : decode cX6_init 53 = .ok (.new 32, 3) := by decide +kernel
theorem dX6_init_56 : decode cX6_init 56 = .ok (.dup, 1) := by decide +kernel
theorem dX6_init_57 : decode cX6_init 57 = .ok (.invokespecial 34, 3) := by decide +kernel
theorem dX6_init_60 : decode cX6_init 60 = .ok (.putfield 39, 3) := by decide +kernel
theorem dX6_init_63 : decode cX6_init 63 = .ok (.aload_n 0, 1) := by decide +kernel
theorem dX6_init_64 : decode cX6_init 64 = .ok (.new 42, 3) := by decide +kernel
theorem dX6_init_67 : decode cX6_init 67 = .ok (.dup, 1) := by decide +kernel
theorem dX6_init_68 : decode cX6_init 68 = .ok (.invokespecial 44, 3) := by decide +kernel
theorem dX6_init_71 : decode cX6_init 71 = .ok (.putfield 45, 3) := by decide +kernel
theorem dX6_init_74 : decode cX6_init 74 = .ok (.aload_n 0, 1) := by decide +kernel
theorem dX6_init_75 : decode cX6_init 75 = .ok (.iconst 2, 1) := by decide +kernel
theorem dX6_init_76 : decode cX6_init 76 = .ok (.anewarray 32, 3) := by decide +kernel
theorem dX6_init_79 : decode cX6_init 79 = .ok (.putfield 49, 3) := by decide +kernel
theorem dX6_init_82 : decode cX6_init 82 = .ok (.aload_n 0, 1) := by decide +kernel
theorem dX6_init_83 : decode cX6_init 83 = .ok (.new 53, 3) := by decide +kernel
theorem dX6_init_86 : decode cX6_init 86 = .ok (.dup, 1) := by decide +kernel
theorem dX6_init_87 : decode cX6_init 87 = .ok (.invokespecial 55, 3) := by decide +kernel
theorem dX6_init_90 : decode cX6_init 90 = .ok (.putfield 56, 3) := by decide +kernel
theorem dX6_init_93 : decode cX6_init 93 = .ok (.aload_n 0, 1) := by decide +kernel
theorem dX6_init_94 : decode cX6_init 94 = .ok (.bipush 9, 2) := by decide +kernel
theorem dX6_init_96 : decode cX6_init 96 = .ok (.newarray .int, 2) := by decide +kernel
theorem dX6_init_98 : decode cX6_init 98 = .ok (.putfield 60, 3) := by decide +kernel
theorem dX6_init_101 : decode cX6_init 101 = .ok (.aload_n 0, 1) := by decide +kernel
theorem dX6_init_102 : decode cX6_init 102 = .ok (.getfield 35, 3) := by decide +kernel
theorem dX6_init_105 : decode cX6_init 105 = .ok (.aload_n 0, 1) := by decide +kernel
theorem dX6_init_106 : decode cX6_init 106 = .ok (.getfield 19, 3) := by decide +kernel
theorem dX6_init_109 : decode cX6_init 109 = .ok (.invokevirtual 64, 3) := by decide +kernel
theorem dX6_init_112 : decode cX6_init 112 = .ok (.iconst 0, 1) := by decide +kernel
theorem dX6_init_113 : decode cX6_init 113 = .ok (.istore_n 1, 1) := by decide +kernel
theorem dX6_init_114 : decode cX6_init 114 = .ok (.iload_n 1, 1) := by decide +kernel
theorem dX6_init_115 : decode cX6_init 115 = .ok (.iconst 2, 1) := by decide +kernel
theorem dX6_init_116 : decode cX6_init 116 = .ok (.if_icmp .ge 22, 3) := by decide +kernel
theorem dX6_init_119 : decode cX6_init 119 = .ok (.aload_n 0, 1) := by decide +kernel
theorem dX6_init_120 : decode cX6_init 120 = .ok (.getfield 49, 3) := by decide +kernel
theorem dX6_init_123 : decode cX6_init 123 = .ok (.iload_n 1, 1) := by decide +kernel
theorem dX6_init_124 : decode cX6_init 124 = .ok (.new 32, 3) := by decide +kernel
theorem dX6_init_127 : decode cX6_init 127 = .ok (.dup, 1) := by decide +kernel
theorem dX6_init_128 : decode cX6_init 128 = .ok (.invokespecial 34, 3) := by decide +kernel
theorem dX6_init_131 : decode cX6_init 131 = .ok (.aastore, 1) := by decide +kernel
theorem dX6_init_132 : decode cX6_init 132 = .ok (.iinc 1 1, 3) := by decide +kernel
theorem dX6_init_135 : decode cX6_init 135 = .ok (.goto (-21), 3) := by decide +kernel
theorem dX6_init_138 : decode cX6_init 138 = .ok (.return_, 1) := by decide +kernel
theorem dX6_write_0 : decode cX6_write 0 = .ok (.iload_n 1, 1) := by decide +kernel
theorem dX6_write_1 : decode cX6_write 1 = .ok (.ifCond .lt 10, 3) := by decide +kernel
theorem dX6_write_4 : decode cX6_write 4 = .ok (.iload_n 1, 1) := by decide +kernel
theorem dX6_write_5 : decode cX6_write 5 = .ok (.sipush 255, 3) := by decide +kernel
theorem dX6_write_8 : decode cX6_write 8 = .ok (.if_icmp .le 6, 3) := by decide +kernel
theorem dX6_write_11 : decode cX6_write 11 = .ok (.bipush (-2), 2) := by decide +kernel
theorem dX6_write_13 : decode cX6_write 13 = .ok (.ireturn, 1) := by decide +kernel
theorem dX6_write_14 : decode cX6_write 14 = .ok (.aload_n 0, 1) := by decide +kernel
theorem dX6_write_15 : decode cX6_write 15 = .ok (.getfield 12, 3) := by decide +kernel
theorem dX6_write_18 : decode cX6_write 18 = .ok (.iload_n 1, 1) := by decide +kernel
theorem dX6_write_19 : decode cX6_write 19 = .ok (.invokevirtual 67, 3) := by decide +kernel
theorem dX6_write_22 : decode cX6_write 22 = .ok (.ifCond .eq 13, 3) := by decide +kernel
theorem dX6_write_25 : decode cX6_write 25 = .ok (.aload_n 0, 1) := by decide +kernel
theorem dX6_write_26 : decode cX6_write 26 = .ok (.getfield 12, 3) := by decide +kernel
theorem dX6_write_29 : decode cX6_write 29 = .ok (.getfield 71, 3) := by decide +kernel
theorem dX6_write_32 : decode cX6_write 32 = .ok (.goto 5, 3) := by decide +kernel
theorem dX6_write_35 : decode cX6_write 35 = .ok (.bipush (-4), 2) := by decide +kernel
theorem dX6_write_37 : decode cX6_write 37 = .ok (.ireturn, 1) := by decide +kernel
theorem dX6_wipe_0 : decode cX6_wipe 0 = .ok (.aload_n 0, 1) := by decide +kernel
theorem dX6_wipe_1 : decode cX6_wipe 1 = .ok (.getfield 12, 3) := by decide +kernel
theorem dX6_wipe_4 : decode cX6_wipe 4 = .ok (.getfield 71, 3) := by decide +kernel
theorem dX6_wipe_7 : decode cX6_wipe 7 = .ok (.istore_n 1, 1) := by decide +kernel
theorem dX6_wipe_8 : decode cX6_wipe 8 = .ok (.aload_n 0, 1) := by decide +kernel
theorem dX6_wipe_9 : decode cX6_wipe 9 = .ok (.getfield 12, 3) := by decide +kernel
theorem dX6_wipe_12 : decode cX6_wipe 12 = .ok (.iconst 0, 1) := by decide +kernel
theorem dX6_wipe_13 : decode cX6_wipe 13 = .ok (.putfield 71, 3) := by decide +kernel
theorem dX6_wipe_16 : decode cX6_wipe 16 = .ok (.iload_n 1, 1) := by decide +kernel
theorem dX6_wipe_17 : decode cX6_wipe 17 = .ok (.ireturn, 1) := by decide +kernel
theorem dX6_fault_0 : decode cX6_fault 0 = .ok (.aload_n 0, 1) := by decide +kernel
theorem dX6_fault_1 : decode cX6_fault 1 = .ok (.getfield 12, 3) := by decide +kernel
theorem dX6_fault_4 : decode cX6_fault 4 = .ok (.invokevirtual 75, 3) := by decide +kernel
theorem dX6_fault_7 : decode cX6_fault 7 = .ok (.ireturn, 1) := by decide +kernel
theorem dX6_site_0 : decode cX6_site 0 = .ok (.aload_n 0, 1) := by decide +kernel
theorem dX6_site_1 : decode cX6_site 1 = .ok (.getfield 12, 3) := by decide +kernel
theorem dX6_site_4 : decode cX6_site 4 = .ok (.invokevirtual 75, 3) := by decide +kernel
theorem dX6_site_7 : decode cX6_site 7 = .ok (.bipush (-9), 2) := by decide +kernel
theorem dX6_site_9 : decode cX6_site 9 = .ok (.if_icmp .eq 6, 3) := by decide +kernel
theorem dX6_site_12 : decode cX6_site 12 = .ok (.bipush (-3), 2) := by decide +kernel
theorem dX6_site_14 : decode cX6_site 14 = .ok (.ireturn, 1) := by decide +kernel
theorem dX6_site_15 : decode cX6_site 15 = .ok (.aload_n 0, 1) := by decide +kernel
theorem dX6_site_16 : decode cX6_site 16 = .ok (.getfield 19, 3) := by decide +kernel
theorem dX6_site_19 : decode cX6_site 19 = .ok (.aload_n 0, 1) := by decide +kernel
theorem dX6_site_20 : decode cX6_site 20 = .ok (.getfield 12, 3) := by decide +kernel
theorem dX6_site_23 : decode cX6_site 23 = .ok (.invokevirtual 79, 3) := by decide +kernel
theorem dX6_site_26 : decode cX6_site 26 = .ok (.aload_n 0, 1) := by decide +kernel
theorem dX6_site_27 : decode cX6_site 27 = .ok (.getfield 35, 3) := by decide +kernel
theorem dX6_site_30 : decode cX6_site 30 = .ok (.aload_n 0, 1) := by decide +kernel
theorem dX6_site_31 : decode cX6_site 31 = .ok (.getfield 19, 3) := by decide +kernel
theorem dX6_site_34 : decode cX6_site 34 = .ok (.invokevirtual 64, 3) := by decide +kernel
theorem dX6_site_37 : decode cX6_site 37 = .ok (.aload_n 0, 1) := by decide +kernel
theorem dX6_site_38 : decode cX6_site 38 = .ok (.getfield 45, 3) := by decide +kernel
theorem dX6_site_41 : decode cX6_site 41 = .ok (.iconst 0, 1) := by decide +kernel
theorem dX6_site_42 : decode cX6_site 42 = .ok (.putfield 83, 3) := by decide +kernel
theorem dX6_site_45 : decode cX6_site 45 = .ok (.aload_n 0, 1) := by decide +kernel
theorem dX6_site_46 : decode cX6_site 46 = .ok (.iconst 0, 1) := by decide +kernel
theorem dX6_site_47 : decode cX6_site 47 = .ok (.putfield 86, 3) := by decide +kernel
theorem dX6_site_50 : decode cX6_site 50 = .ok (.aload_n 0, 1) := by decide +kernel
theorem dX6_site_51 : decode cX6_site 51 = .ok (.getfield 19, 3) := by decide +kernel
theorem dX6_site_54 : decode cX6_site 54 = .ok (.getfield 89, 3) := by decide +kernel
theorem dX6_site_57 : decode cX6_site 57 = .ok (.ireturn, 1) := by decide +kernel
theorem dX6_about_0 : decode cX6_about 0 = .ok (.iload_n 1, 1) := by decide +kernel
theorem dX6_about_1 : decode cX6_about 1 = .ok (.tableswitch 161 0 11 #[63, 71, 79, 87, 95, 103, 112, 121, 129, 137, 145, 153], 63) := by decide +kernel
theorem dX6_about_64 : decode cX6_about 64 = .ok (.aload_n 0, 1) := by decide +kernel
theorem dX6_about_65 : decode cX6_about 65 = .ok (.getfield 19, 3) := by decide +kernel
theorem dX6_about_68 : decode cX6_about 68 = .ok (.getfield 89, 3) := by decide +kernel
theorem dX6_about_71 : decode cX6_about 71 = .ok (.ireturn, 1) := by decide +kernel
theorem dX6_about_72 : decode cX6_about 72 = .ok (.aload_n 0, 1) := by decide +kernel
theorem dX6_about_73 : decode cX6_about 73 = .ok (.getfield 19, 3) := by decide +kernel
theorem dX6_about_76 : decode cX6_about 76 = .ok (.getfield 92, 3) := by decide +kernel
theorem dX6_about_79 : decode cX6_about 79 = .ok (.ireturn, 1) := by decide +kernel
theorem dX6_about_80 : decode cX6_about 80 = .ok (.aload_n 0, 1) := by decide +kernel
theorem dX6_about_81 : decode cX6_about 81 = .ok (.getfield 35, 3) := by decide +kernel
theorem dX6_about_84 : decode cX6_about 84 = .ok (.getfield 95, 3) := by decide +kernel
theorem dX6_about_87 : decode cX6_about 87 = .ok (.ireturn, 1) := by decide +kernel
theorem dX6_about_88 : decode cX6_about 88 = .ok (.aload_n 0, 1) := by decide +kernel
theorem dX6_about_89 : decode cX6_about 89 = .ok (.getfield 19, 3) := by decide +kernel
theorem dX6_about_92 : decode cX6_about 92 = .ok (.getfield 98, 3) := by decide +kernel
theorem dX6_about_95 : decode cX6_about 95 = .ok (.ireturn, 1) := by decide +kernel
theorem dX6_about_96 : decode cX6_about 96 = .ok (.aload_n 0, 1) := by decide +kernel
theorem dX6_about_97 : decode cX6_about 97 = .ok (.getfield 35, 3) := by decide +kernel
theorem dX6_about_100 : decode cX6_about 100 = .ok (.getfield 101, 3) := by decide +kernel
theorem dX6_about_103 : decode cX6_about 103 = .ok (.ireturn, 1) := by decide +kernel
theorem dX6_about_104 : decode cX6_about 104 = .ok (.aload_n 0, 1) := by decide +kernel
theorem dX6_about_105 : decode cX6_about 105 = .ok (.getfield 35, 3) := by decide +kernel
theorem dX6_about_108 : decode cX6_about 108 = .ok (.iconst 3, 1) := by decide +kernel
theorem dX6_about_109 : decode cX6_about 109 = .ok (.invokevirtual 104, 3) := by decide +kernel
theorem dX6_about_112 : decode cX6_about 112 = .ok (.ireturn, 1) := by decide +kernel
theorem dX6_about_113 : decode cX6_about 113 = .ok (.aload_n 0, 1) := by decide +kernel
theorem dX6_about_114 : decode cX6_about 114 = .ok (.getfield 35, 3) := by decide +kernel
theorem dX6_about_117 : decode cX6_about 117 = .ok (.iconst 4, 1) := by decide +kernel
theorem dX6_about_118 : decode cX6_about 118 = .ok (.invokevirtual 104, 3) := by decide +kernel
theorem dX6_about_121 : decode cX6_about 121 = .ok (.ireturn, 1) := by decide +kernel
theorem dX6_about_122 : decode cX6_about 122 = .ok (.aload_n 0, 1) := by decide +kernel
theorem dX6_about_123 : decode cX6_about 123 = .ok (.getfield 35, 3) := by decide +kernel
theorem dX6_about_126 : decode cX6_about 126 = .ok (.invokevirtual 108, 3) := by decide +kernel
theorem dX6_about_129 : decode cX6_about 129 = .ok (.ireturn, 1) := by decide +kernel
theorem dX6_about_130 : decode cX6_about 130 = .ok (.aload_n 0, 1) := by decide +kernel
theorem dX6_about_131 : decode cX6_about 131 = .ok (.getfield 35, 3) := by decide +kernel
theorem dX6_about_134 : decode cX6_about 134 = .ok (.invokevirtual 111, 3) := by decide +kernel
theorem dX6_about_137 : decode cX6_about 137 = .ok (.ireturn, 1) := by decide +kernel
theorem dX6_about_138 : decode cX6_about 138 = .ok (.aload_n 0, 1) := by decide +kernel
theorem dX6_about_139 : decode cX6_about 139 = .ok (.getfield 45, 3) := by decide +kernel
theorem dX6_about_142 : decode cX6_about 142 = .ok (.getfield 83, 3) := by decide +kernel
theorem dX6_about_145 : decode cX6_about 145 = .ok (.ireturn, 1) := by decide +kernel
theorem dX6_about_146 : decode cX6_about 146 = .ok (.aload_n 0, 1) := by decide +kernel
theorem dX6_about_147 : decode cX6_about 147 = .ok (.getfield 56, 3) := by decide +kernel
theorem dX6_about_150 : decode cX6_about 150 = .ok (.getfield 114, 3) := by decide +kernel
theorem dX6_about_153 : decode cX6_about 153 = .ok (.ireturn, 1) := by decide +kernel
theorem dX6_about_154 : decode cX6_about 154 = .ok (.aload_n 0, 1) := by decide +kernel
theorem dX6_about_155 : decode cX6_about 155 = .ok (.getfield 12, 3) := by decide +kernel
theorem dX6_about_158 : decode cX6_about 158 = .ok (.getfield 71, 3) := by decide +kernel
theorem dX6_about_161 : decode cX6_about 161 = .ok (.ireturn, 1) := by decide +kernel
theorem dX6_about_162 : decode cX6_about 162 = .ok (.bipush (-2), 2) := by decide +kernel
theorem dX6_about_164 : decode cX6_about 164 = .ok (.ireturn, 1) := by decide +kernel
theorem dX6_post_0 : decode cX6_post 0 = .ok (.aload_n 0, 1) := by decide +kernel
theorem dX6_post_1 : decode cX6_post 1 = .ok (.getfield 19, 3) := by decide +kernel
theorem dX6_post_4 : decode cX6_post 4 = .ok (.iload_n 1, 1) := by decide +kernel
theorem dX6_post_5 : decode cX6_post 5 = .ok (.invokevirtual 115, 3) := by decide +kernel
theorem dX6_post_8 : decode cX6_post 8 = .ok (.ifCond .ne 5, 3) := by decide +kernel
theorem dX6_post_11 : decode cX6_post 11 = .ok (.iconst (-1), 1) := by decide +kernel
theorem dX6_post_12 : decode cX6_post 12 = .ok (.ireturn, 1) := by decide +kernel
theorem dX6_post_13 : decode cX6_post 13 = .ok (.iload_n 2, 1) := by decide +kernel
theorem dX6_post_14 : decode cX6_post 14 = .ok (.ifCond .lt 9, 3) := by decide +kernel
theorem dX6_post_17 : decode cX6_post 17 = .ok (.iload_n 2, 1) := by decide +kernel
theorem dX6_post_18 : decode cX6_post 18 = .ok (.bipush 9, 2) := by decide +kernel
theorem dX6_post_20 : decode cX6_post 20 = .ok (.if_icmp .le 6, 3) := by decide +kernel
theorem dX6_post_23 : decode cX6_post 23 = .ok (.bipush (-2), 2) := by decide +kernel
theorem dX6_post_25 : decode cX6_post 25 = .ok (.ireturn, 1) := by decide +kernel
theorem dX6_post_26 : decode cX6_post 26 = .ok (.iload_n 2, 1) := by decide +kernel
theorem dX6_post_27 : decode cX6_post 27 = .ok (.ifCond .ne 14, 3) := by decide +kernel
theorem dX6_post_30 : decode cX6_post 30 = .ok (.aload_n 0, 1) := by decide +kernel
theorem dX6_post_31 : decode cX6_post 31 = .ok (.getfield 19, 3) := by decide +kernel
theorem dX6_post_34 : decode cX6_post 34 = .ok (.iload_n 1, 1) := by decide +kernel
theorem dX6_post_35 : decode cX6_post 35 = .ok (.invokevirtual 118, 3) := by decide +kernel
theorem dX6_post_38 : decode cX6_post 38 = .ok (.goto 16, 3) := by decide +kernel
theorem dX6_post_41 : decode cX6_post 41 = .ok (.aload_n 0, 1) := by decide +kernel
theorem dX6_post_42 : decode cX6_post 42 = .ok (.getfield 28, 3) := by decide +kernel
theorem dX6_post_45 : decode cX6_post 45 = .ok (.aload_n 0, 1) := by decide +kernel
theorem dX6_post_46 : decode cX6_post 46 = .ok (.getfield 35, 3) := by decide +kernel
theorem dX6_post_49 : decode cX6_post 49 = .ok (.iload_n 1, 1) := by decide +kernel
theorem dX6_post_50 : decode cX6_post 50 = .ok (.iload_n 2, 1) := by decide +kernel
theorem dX6_post_51 : decode cX6_post 51 = .ok (.invokevirtual 121, 3) := by decide +kernel
theorem dX6_post_54 : decode cX6_post 54 = .ok (.ireturn, 1) := by decide +kernel
theorem dX6_car_0 : decode cX6_car 0 = .ok (.aload_n 0, 1) := by decide +kernel
theorem dX6_car_1 : decode cX6_car 1 = .ok (.getfield 19, 3) := by decide +kernel
theorem dX6_car_4 : decode cX6_car 4 = .ok (.iload_n 1, 1) := by decide +kernel
theorem dX6_car_5 : decode cX6_car 5 = .ok (.invokevirtual 125, 3) := by decide +kernel
theorem dX6_car_8 : decode cX6_car 8 = .ok (.ifCond .ne 5, 3) := by decide +kernel
theorem dX6_car_11 : decode cX6_car 11 = .ok (.iconst (-1), 1) := by decide +kernel
theorem dX6_car_12 : decode cX6_car 12 = .ok (.ireturn, 1) := by decide +kernel
theorem dX6_car_13 : decode cX6_car 13 = .ok (.iload_n 2, 1) := by decide +kernel
theorem dX6_car_14 : decode cX6_car 14 = .ok (.ifCond .lt 8, 3) := by decide +kernel
theorem dX6_car_17 : decode cX6_car 17 = .ok (.iload_n 2, 1) := by decide +kernel
theorem dX6_car_18 : decode cX6_car 18 = .ok (.iconst 5, 1) := by decide +kernel
theorem dX6_car_19 : decode cX6_car 19 = .ok (.if_icmp .le 6, 3) := by decide +kernel
theorem dX6_car_22 : decode cX6_car 22 = .ok (.bipush (-2), 2) := by decide +kernel
theorem dX6_car_24 : decode cX6_car 24 = .ok (.ireturn, 1) := by decide +kernel
theorem dX6_car_25 : decode cX6_car 25 = .ok (.iload_n 2, 1) := by decide +kernel
theorem dX6_car_26 : decode cX6_car 26 = .ok (.iconst 4, 1) := by decide +kernel
theorem dX6_car_27 : decode cX6_car 27 = .ok (.if_icmp .ne 12, 3) := by decide +kernel
theorem dX6_car_30 : decode cX6_car 30 = .ok (.aload_n 0, 1) := by decide +kernel
theorem dX6_car_31 : decode cX6_car 31 = .ok (.getfield 35, 3) := by decide +kernel
theorem dX6_car_34 : decode cX6_car 34 = .ok (.iload_n 1, 1) := by decide +kernel
theorem dX6_car_35 : decode cX6_car 35 = .ok (.invokevirtual 128, 3) := by decide +kernel
theorem dX6_car_38 : decode cX6_car 38 = .ok (.ireturn, 1) := by decide +kernel
theorem dX6_car_39 : decode cX6_car 39 = .ok (.iload_n 2, 1) := by decide +kernel
theorem dX6_car_40 : decode cX6_car 40 = .ok (.iconst 5, 1) := by decide +kernel
theorem dX6_car_41 : decode cX6_car 41 = .ok (.if_icmp .ne 14, 3) := by decide +kernel
theorem dX6_car_44 : decode cX6_car 44 = .ok (.aload_n 0, 1) := by decide +kernel
theorem dX6_car_45 : decode cX6_car 45 = .ok (.getfield 35, 3) := by decide +kernel
theorem dX6_car_48 : decode cX6_car 48 = .ok (.iload_n 1, 1) := by decide +kernel
theorem dX6_car_49 : decode cX6_car 49 = .ok (.invokevirtual 131, 3) := by decide +kernel
theorem dX6_car_52 : decode cX6_car 52 = .ok (.goto 12, 3) := by decide +kernel
theorem dX6_car_55 : decode cX6_car 55 = .ok (.aload_n 0, 1) := by decide +kernel
theorem dX6_car_56 : decode cX6_car 56 = .ok (.getfield 19, 3) := by decide +kernel
theorem dX6_car_59 : decode cX6_car 59 = .ok (.iload_n 1, 1) := by decide +kernel
theorem dX6_car_60 : decode cX6_car 60 = .ok (.iload_n 2, 1) := by decide +kernel
theorem dX6_car_61 : decode cX6_car 61 = .ok (.invokevirtual 134, 3) := by decide +kernel
theorem dX6_car_64 : decode cX6_car 64 = .ok (.ireturn, 1) := by decide +kernel
theorem dX6_minute_0 : decode cX6_minute 0 = .ok (.aload_n 0, 1) := by decide +kernel
theorem dX6_minute_1 : decode cX6_minute 1 = .ok (.getfield 39, 3) := by decide +kernel
theorem dX6_minute_4 : decode cX6_minute 4 = .ok (.aload_n 0, 1) := by decide +kernel
theorem dX6_minute_5 : decode cX6_minute 5 = .ok (.getfield 35, 3) := by decide +kernel
theorem dX6_minute_8 : decode cX6_minute 8 = .ok (.invokevirtual 138, 3) := by decide +kernel
theorem dX6_minute_11 : decode cX6_minute 11 = .ok (.aload_n 0, 1) := by decide +kernel
theorem dX6_minute_12 : decode cX6_minute 12 = .ok (.aload_n 0, 1) := by decide +kernel
theorem dX6_minute_13 : decode cX6_minute 13 = .ok (.getfield 28, 3) := by decide +kernel
theorem dX6_minute_16 : decode cX6_minute 16 = .ok (.aload_n 0, 1) := by decide +kernel
theorem dX6_minute_17 : decode cX6_minute 17 = .ok (.getfield 39, 3) := by decide +kernel
theorem dX6_minute_20 : decode cX6_minute 20 = .ok (.iload_n 1, 1) := by decide +kernel
theorem dX6_minute_21 : decode cX6_minute 21 = .ok (.invokevirtual 142, 3) := by decide +kernel
theorem dX6_minute_24 : decode cX6_minute 24 = .ok (.invokevirtual 146, 3) := by decide +kernel
theorem dX6_minute_27 : decode cX6_minute 27 = .ok (.ireturn, 1) := by decide +kernel
theorem dX6_plug_0 : decode cX6_plug 0 = .ok (.aload_n 0, 1) := by decide +kernel
theorem dX6_plug_1 : decode cX6_plug 1 = .ok (.getfield 39, 3) := by decide +kernel
theorem dX6_plug_4 : decode cX6_plug 4 = .ok (.aload_n 0, 1) := by decide +kernel
theorem dX6_plug_5 : decode cX6_plug 5 = .ok (.getfield 35, 3) := by decide +kernel
theorem dX6_plug_8 : decode cX6_plug 8 = .ok (.invokevirtual 138, 3) := by decide +kernel
theorem dX6_plug_11 : decode cX6_plug 11 = .ok (.aload_n 0, 1) := by decide +kernel
theorem dX6_plug_12 : decode cX6_plug 12 = .ok (.aload_n 0, 1) := by decide +kernel
theorem dX6_plug_13 : decode cX6_plug 13 = .ok (.getfield 28, 3) := by decide +kernel
theorem dX6_plug_16 : decode cX6_plug 16 = .ok (.aload_n 0, 1) := by decide +kernel
theorem dX6_plug_17 : decode cX6_plug 17 = .ok (.getfield 39, 3) := by decide +kernel
theorem dX6_plug_20 : decode cX6_plug 20 = .ok (.iload_n 1, 1) := by decide +kernel
theorem dX6_plug_21 : decode cX6_plug 21 = .ok (.iload_n 2, 1) := by decide +kernel
theorem dX6_plug_22 : decode cX6_plug 22 = .ok (.invokevirtual 149, 3) := by decide +kernel
theorem dX6_plug_25 : decode cX6_plug 25 = .ok (.invokevirtual 146, 3) := by decide +kernel
theorem dX6_plug_28 : decode cX6_plug 28 = .ok (.ireturn, 1) := by decide +kernel
theorem dX6_pull_0 : decode cX6_pull 0 = .ok (.aload_n 0, 1) := by decide +kernel
theorem dX6_pull_1 : decode cX6_pull 1 = .ok (.getfield 39, 3) := by decide +kernel
theorem dX6_pull_4 : decode cX6_pull 4 = .ok (.aload_n 0, 1) := by decide +kernel
theorem dX6_pull_5 : decode cX6_pull 5 = .ok (.getfield 35, 3) := by decide +kernel
theorem dX6_pull_8 : decode cX6_pull 8 = .ok (.invokevirtual 138, 3) := by decide +kernel
theorem dX6_pull_11 : decode cX6_pull 11 = .ok (.aload_n 0, 1) := by decide +kernel
theorem dX6_pull_12 : decode cX6_pull 12 = .ok (.aload_n 0, 1) := by decide +kernel
theorem dX6_pull_13 : decode cX6_pull 13 = .ok (.getfield 28, 3) := by decide +kernel
theorem dX6_pull_16 : decode cX6_pull 16 = .ok (.aload_n 0, 1) := by decide +kernel
theorem dX6_pull_17 : decode cX6_pull 17 = .ok (.getfield 39, 3) := by decide +kernel
theorem dX6_pull_20 : decode cX6_pull 20 = .ok (.iload_n 1, 1) := by decide +kernel
theorem dX6_pull_21 : decode cX6_pull 21 = .ok (.invokevirtual 152, 3) := by decide +kernel
theorem dX6_pull_24 : decode cX6_pull 24 = .ok (.invokevirtual 146, 3) := by decide +kernel
theorem dX6_pull_27 : decode cX6_pull 27 = .ok (.ireturn, 1) := by decide +kernel
theorem dX6_say_0 : decode cX6_say 0 = .ok (.aload_n 0, 1) := by decide +kernel
theorem dX6_say_1 : decode cX6_say 1 = .ok (.getfield 39, 3) := by decide +kernel
theorem dX6_say_4 : decode cX6_say 4 = .ok (.aload_n 0, 1) := by decide +kernel
theorem dX6_say_5 : decode cX6_say 5 = .ok (.getfield 35, 3) := by decide +kernel
theorem dX6_say_8 : decode cX6_say 8 = .ok (.invokevirtual 138, 3) := by decide +kernel
theorem dX6_say_11 : decode cX6_say 11 = .ok (.aload_n 0, 1) := by decide +kernel
theorem dX6_say_12 : decode cX6_say 12 = .ok (.aload_n 0, 1) := by decide +kernel
theorem dX6_say_13 : decode cX6_say 13 = .ok (.getfield 28, 3) := by decide +kernel
theorem dX6_say_16 : decode cX6_say 16 = .ok (.aload_n 0, 1) := by decide +kernel
theorem dX6_say_17 : decode cX6_say 17 = .ok (.getfield 39, 3) := by decide +kernel
theorem dX6_say_20 : decode cX6_say 20 = .ok (.iload_n 1, 1) := by decide +kernel
theorem dX6_say_21 : decode cX6_say 21 = .ok (.iload_n 2, 1) := by decide +kernel
theorem dX6_say_22 : decode cX6_say 22 = .ok (.invokevirtual 155, 3) := by decide +kernel
theorem dX6_say_25 : decode cX6_say 25 = .ok (.invokevirtual 146, 3) := by decide +kernel
theorem dX6_say_28 : decode cX6_say 28 = .ok (.ireturn, 1) := by decide +kernel
theorem dX6_reset_0 : decode cX6_reset 0 = .ok (.aload_n 0, 1) := by decide +kernel
theorem dX6_reset_1 : decode cX6_reset 1 = .ok (.getfield 39, 3) := by decide +kernel
theorem dX6_reset_4 : decode cX6_reset 4 = .ok (.aload_n 0, 1) := by decide +kernel
theorem dX6_reset_5 : decode cX6_reset 5 = .ok (.getfield 35, 3) := by decide +kernel
theorem dX6_reset_8 : decode cX6_reset 8 = .ok (.invokevirtual 138, 3) := by decide +kernel
theorem dX6_reset_11 : decode cX6_reset 11 = .ok (.aload_n 0, 1) := by decide +kernel
theorem dX6_reset_12 : decode cX6_reset 12 = .ok (.aload_n 0, 1) := by decide +kernel
theorem dX6_reset_13 : decode cX6_reset 13 = .ok (.getfield 28, 3) := by decide +kernel
theorem dX6_reset_16 : decode cX6_reset 16 = .ok (.aload_n 0, 1) := by decide +kernel
theorem dX6_reset_17 : decode cX6_reset 17 = .ok (.getfield 39, 3) := by decide +kernel
theorem dX6_reset_20 : decode cX6_reset 20 = .ok (.iload_n 1, 1) := by decide +kernel
theorem dX6_reset_21 : decode cX6_reset 21 = .ok (.invokevirtual 158, 3) := by decide +kernel
theorem dX6_reset_24 : decode cX6_reset 24 = .ok (.invokevirtual 146, 3) := by decide +kernel
theorem dX6_reset_27 : decode cX6_reset 27 = .ok (.ireturn, 1) := by decide +kernel
theorem dX6_limit_0 : decode cX6_limit 0 = .ok (.aload_n 0, 1) := by decide +kernel
theorem dX6_limit_1 : decode cX6_limit 1 = .ok (.getfield 39, 3) := by decide +kernel
theorem dX6_limit_4 : decode cX6_limit 4 = .ok (.aload_n 0, 1) := by decide +kernel
theorem dX6_limit_5 : decode cX6_limit 5 = .ok (.getfield 35, 3) := by decide +kernel
theorem dX6_limit_8 : decode cX6_limit 8 = .ok (.invokevirtual 138, 3) := by decide +kernel
theorem dX6_limit_11 : decode cX6_limit 11 = .ok (.aload_n 0, 1) := by decide +kernel
theorem dX6_limit_12 : decode cX6_limit 12 = .ok (.aload_n 0, 1) := by decide +kernel
theorem dX6_limit_13 : decode cX6_limit 13 = .ok (.getfield 28, 3) := by decide +kernel
theorem dX6_limit_16 : decode cX6_limit 16 = .ok (.aload_n 0, 1) := by decide +kernel
theorem dX6_limit_17 : decode cX6_limit 17 = .ok (.getfield 39, 3) := by decide +kernel
theorem dX6_limit_20 : decode cX6_limit 20 = .ok (.iload_n 1, 1) := by decide +kernel
theorem dX6_limit_21 : decode cX6_limit 21 = .ok (.invokevirtual 161, 3) := by decide +kernel
theorem dX6_limit_24 : decode cX6_limit 24 = .ok (.invokevirtual 146, 3) := by decide +kernel
theorem dX6_limit_27 : decode cX6_limit 27 = .ok (.ireturn, 1) := by decide +kernel
theorem dX6_undo_0 : decode cX6_undo 0 = .ok (.aload_n 0, 1) := by decide +kernel
theorem dX6_undo_1 : decode cX6_undo 1 = .ok (.getfield 45, 3) := by decide +kernel
theorem dX6_undo_4 : decode cX6_undo 4 = .ok (.aload_n 0, 1) := by decide +kernel
theorem dX6_undo_5 : decode cX6_undo 5 = .ok (.getfield 35, 3) := by decide +kernel
theorem dX6_undo_8 : decode cX6_undo 8 = .ok (.invokevirtual 164, 3) := by decide +kernel
theorem dX6_undo_11 : decode cX6_undo 11 = .ok (.ireturn, 1) := by decide +kernel
theorem dX6_settle_0 : decode cX6_settle 0 = .ok (.iload_n 1, 1) := by decide +kernel
theorem dX6_settle_1 : decode cX6_settle 1 = .ok (.ifCond .lt 25, 3) := by decide +kernel
theorem dX6_settle_4 : decode cX6_settle 4 = .ok (.aload_n 0, 1) := by decide +kernel
theorem dX6_settle_5 : decode cX6_settle 5 = .ok (.getfield 45, 3) := by decide +kernel
theorem dX6_settle_8 : decode cX6_settle 8 = .ok (.aload_n 0, 1) := by decide +kernel
theorem dX6_settle_9 : decode cX6_settle 9 = .ok (.getfield 35, 3) := by decide +kernel
theorem dX6_settle_12 : decode cX6_settle 12 = .ok (.invokevirtual 168, 3) := by decide +kernel
theorem dX6_settle_15 : decode cX6_settle 15 = .ok (.aload_n 0, 1) := by decide +kernel
theorem dX6_settle_16 : decode cX6_settle 16 = .ok (.getfield 35, 3) := by decide +kernel
theorem dX6_settle_19 : decode cX6_settle 19 = .ok (.aload_n 0, 1) := by decide +kernel
theorem dX6_settle_20 : decode cX6_settle 20 = .ok (.getfield 39, 3) := by decide +kernel
theorem dX6_settle_23 : decode cX6_settle 23 = .ok (.invokevirtual 138, 3) := by decide +kernel
theorem dX6_settle_26 : decode cX6_settle 26 = .ok (.iload_n 1, 1) := by decide +kernel
theorem dX6_settle_27 : decode cX6_settle 27 = .ok (.ireturn, 1) := by decide +kernel
theorem dX6_ahead_0 : decode cX6_ahead 0 = .ok (.aload_n 0, 1) := by decide +kernel
theorem dX6_ahead_1 : decode cX6_ahead 1 = .ok (.getfield 19, 3) := by decide +kernel
theorem dX6_ahead_4 : decode cX6_ahead 4 = .ok (.iload_n 3, 1) := by decide +kernel
theorem dX6_ahead_5 : decode cX6_ahead 5 = .ok (.invokevirtual 115, 3) := by decide +kernel
theorem dX6_ahead_8 : decode cX6_ahead 8 = .ok (.ifCond .ne 5, 3) := by decide +kernel
theorem dX6_ahead_11 : decode cX6_ahead 11 = .ok (.iconst (-1), 1) := by decide +kernel
theorem dX6_ahead_12 : decode cX6_ahead 12 = .ok (.ireturn, 1) := by decide +kernel
theorem dX6_ahead_13 : decode cX6_ahead 13 = .ok (.iload_n 1, 1) := by decide +kernel
theorem dX6_ahead_14 : decode cX6_ahead 14 = .ok (.ifCond .lt 22, 3) := by decide +kernel
theorem dX6_ahead_17 : decode cX6_ahead 17 = .ok (.iload_n 1, 1) := by decide +kernel
theorem dX6_ahead_18 : decode cX6_ahead 18 = .ok (.bipush 99, 2) := by decide +kernel
theorem dX6_ahead_20 : decode cX6_ahead 20 = .ok (.if_icmp .gt 16, 3) := by decide +kernel
theorem dX6_ahead_23 : decode cX6_ahead 23 = .ok (.iload 4, 2) := by decide +kernel
theorem dX6_ahead_25 : decode cX6_ahead 25 = .ok (.iconst 1, 1) := by decide +kernel
theorem dX6_ahead_26 : decode cX6_ahead 26 = .ok (.if_icmp .lt 10, 3) := by decide +kernel
theorem dX6_ahead_29 : decode cX6_ahead 29 = .ok (.iload 4, 2) := by decide +kernel
theorem dX6_ahead_31 : decode cX6_ahead 31 = .ok (.bipush 9, 2) := by decide +kernel
theorem dX6_ahead_33 : decode cX6_ahead 33 = .ok (.if_icmp .le 6, 3) := by decide +kernel
theorem dX6_ahead_36 : decode cX6_ahead 36 = .ok (.bipush (-2), 2) := by decide +kernel
theorem dX6_ahead_38 : decode cX6_ahead 38 = .ok (.ireturn, 1) := by decide +kernel
theorem dX6_ahead_39 : decode cX6_ahead 39 = .ok (.aload_n 0, 1) := by decide +kernel
theorem dX6_ahead_40 : decode cX6_ahead 40 = .ok (.getfield 39, 3) := by decide +kernel
theorem dX6_ahead_43 : decode cX6_ahead 43 = .ok (.aload_n 0, 1) := by decide +kernel
theorem dX6_ahead_44 : decode cX6_ahead 44 = .ok (.getfield 35, 3) := by decide +kernel
theorem dX6_ahead_47 : decode cX6_ahead 47 = .ok (.invokevirtual 138, 3) := by decide +kernel
theorem dX6_ahead_50 : decode cX6_ahead 50 = .ok (.aload_n 0, 1) := by decide +kernel
theorem dX6_ahead_51 : decode cX6_ahead 51 = .ok (.getfield 28, 3) := by decide +kernel
theorem dX6_ahead_54 : decode cX6_ahead 54 = .ok (.aload_n 0, 1) := by decide +kernel
theorem dX6_ahead_55 : decode cX6_ahead 55 = .ok (.getfield 39, 3) := by decide +kernel
theorem dX6_ahead_58 : decode cX6_ahead 58 = .ok (.iload_n 1, 1) := by decide +kernel
theorem dX6_ahead_59 : decode cX6_ahead 59 = .ok (.iload_n 2, 1) := by decide +kernel
theorem dX6_ahead_60 : decode cX6_ahead 60 = .ok (.ifCond .eq 7, 3) := by decide +kernel
theorem dX6_ahead_63 : decode cX6_ahead 63 = .ok (.iconst 0, 1) := by decide +kernel
theorem dX6_ahead_64 : decode cX6_ahead 64 = .ok (.goto 5, 3) := by decide +kernel
theorem dX6_ahead_67 : decode cX6_ahead 67 = .ok (.bipush 15, 2) := by decide +kernel
theorem dX6_ahead_69 : decode cX6_ahead 69 = .ok (.bipush 15, 2) := by decide +kernel
theorem dX6_ahead_71 : decode cX6_ahead 71 = .ok (.iconst (-1), 1) := by decide +kernel
theorem dX6_ahead_72 : decode cX6_ahead 72 = .ok (.invokevirtual 171, 3) := by decide +kernel
theorem dX6_ahead_75 : decode cX6_ahead 75 = .ok (.aload_n 0, 1) := by decide +kernel
theorem dX6_ahead_76 : decode cX6_ahead 76 = .ok (.getfield 28, 3) := by decide +kernel
theorem dX6_ahead_79 : decode cX6_ahead 79 = .ok (.aload_n 0, 1) := by decide +kernel
theorem dX6_ahead_80 : decode cX6_ahead 80 = .ok (.getfield 39, 3) := by decide +kernel
theorem dX6_ahead_83 : decode cX6_ahead 83 = .ok (.iload_n 3, 1) := by decide +kernel
theorem dX6_ahead_84 : decode cX6_ahead 84 = .ok (.iload 4, 2) := by decide +kernel
theorem dX6_ahead_86 : decode cX6_ahead 86 = .ok (.invokevirtual 121, 3) := by decide +kernel
theorem dX6_ahead_89 : decode cX6_ahead 89 = .ok (.ireturn, 1) := by decide +kernel
theorem dX6_done_0 : decode cX6_done 0 = .ok (.aload_n 0, 1) := by decide +kernel
theorem dX6_done_1 : decode cX6_done 1 = .ok (.getfield 19, 3) := by decide +kernel
theorem dX6_done_4 : decode cX6_done 4 = .ok (.iload_n 1, 1) := by decide +kernel
theorem dX6_done_5 : decode cX6_done 5 = .ok (.invokevirtual 125, 3) := by decide +kernel
theorem dX6_done_8 : decode cX6_done 8 = .ok (.ifCond .ne 5, 3) := by decide +kernel
theorem dX6_done_11 : decode cX6_done 11 = .ok (.iconst (-1), 1) := by decide +kernel
theorem dX6_done_12 : decode cX6_done 12 = .ok (.ireturn, 1) := by decide +kernel
theorem dX6_done_13 : decode cX6_done 13 = .ok (.aload_n 0, 1) := by decide +kernel
theorem dX6_done_14 : decode cX6_done 14 = .ok (.getfield 39, 3) := by decide +kernel
theorem dX6_done_17 : decode cX6_done 17 = .ok (.aload_n 0, 1) := by decide +kernel
theorem dX6_done_18 : decode cX6_done 18 = .ok (.getfield 35, 3) := by decide +kernel
theorem dX6_done_21 : decode cX6_done 21 = .ok (.invokevirtual 138, 3) := by decide +kernel
theorem dX6_done_24 : decode cX6_done 24 = .ok (.iconst 0, 1) := by decide +kernel
theorem dX6_done_25 : decode cX6_done 25 = .ok (.istore_n 2, 1) := by decide +kernel
theorem dX6_done_26 : decode cX6_done 26 = .ok (.iload_n 2, 1) := by decide +kernel
theorem dX6_done_27 : decode cX6_done 27 = .ok (.bipush 99, 2) := by decide +kernel
theorem dX6_done_29 : decode cX6_done 29 = .ok (.if_icmp .gt 38, 3) := by decide +kernel
theorem dX6_done_32 : decode cX6_done 32 = .ok (.aload_n 0, 1) := by decide +kernel
theorem dX6_done_33 : decode cX6_done 33 = .ok (.getfield 39, 3) := by decide +kernel
theorem dX6_done_36 : decode cX6_done 36 = .ok (.iload_n 1, 1) := by decide +kernel
theorem dX6_done_37 : decode cX6_done 37 = .ok (.invokevirtual 128, 3) := by decide +kernel
theorem dX6_done_40 : decode cX6_done 40 = .ok (.ifCond .ne 5, 3) := by decide +kernel
theorem dX6_done_43 : decode cX6_done 43 = .ok (.iload_n 2, 1) := by decide +kernel
theorem dX6_done_44 : decode cX6_done 44 = .ok (.ireturn, 1) := by decide +kernel
theorem dX6_done_45 : decode cX6_done 45 = .ok (.aload_n 0, 1) := by decide +kernel
theorem dX6_done_46 : decode cX6_done 46 = .ok (.getfield 28, 3) := by decide +kernel
theorem dX6_done_49 : decode cX6_done 49 = .ok (.aload_n 0, 1) := by decide +kernel
theorem dX6_done_50 : decode cX6_done 50 = .ok (.getfield 39, 3) := by decide +kernel
theorem dX6_done_53 : decode cX6_done 53 = .ok (.iconst 1, 1) := by decide +kernel
theorem dX6_done_54 : decode cX6_done 54 = .ok (.iconst 0, 1) := by decide +kernel
theorem dX6_done_55 : decode cX6_done 55 = .ok (.bipush 15, 2) := by decide +kernel
theorem dX6_done_57 : decode cX6_done 57 = .ok (.iconst (-1), 1) := by decide +kernel
theorem dX6_done_58 : decode cX6_done 58 = .ok (.invokevirtual 171, 3) := by decide +kernel
theorem dX6_done_61 : decode cX6_done 61 = .ok (.iinc 2 1, 3) := by decide +kernel
theorem dX6_done_64 : decode cX6_done 64 = .ok (.goto (-38), 3) := by decide +kernel
theorem dX6_done_67 : decode cX6_done 67 = .ok (.bipush (-9), 2) := by decide +kernel
theorem dX6_done_69 : decode cX6_done 69 = .ok (.ireturn, 1) := by decide +kernel
theorem dX6_least_0 : decode cX6_least 0 = .ok (.iload_n 1, 1) := by decide +kernel
theorem dX6_least_1 : decode cX6_least 1 = .ok (.ifCond .lt 9, 3) := by decide +kernel
theorem dX6_least_4 : decode cX6_least 4 = .ok (.iload_n 1, 1) := by decide +kernel
theorem dX6_least_5 : decode cX6_least 5 = .ok (.bipush 40, 2) := by decide +kernel
theorem dX6_least_7 : decode cX6_least 7 = .ok (.if_icmp .le 6, 3) := by decide +kernel
theorem dX6_least_10 : decode cX6_least 10 = .ok (.bipush (-2), 2) := by decide +kernel
theorem dX6_least_12 : decode cX6_least 12 = .ok (.ireturn, 1) := by decide +kernel
theorem dX6_least_13 : decode cX6_least 13 = .ok (.aload_n 0, 1) := by decide +kernel
theorem dX6_least_14 : decode cX6_least 14 = .ok (.getfield 19, 3) := by decide +kernel
theorem dX6_least_17 : decode cX6_least 17 = .ok (.invokevirtual 175, 3) := by decide +kernel
theorem dX6_least_20 : decode cX6_least 20 = .ok (.istore_n 2, 1) := by decide +kernel
theorem dX6_least_21 : decode cX6_least 21 = .ok (.iconst 0, 1) := by decide +kernel
theorem dX6_least_22 : decode cX6_least 22 = .ok (.istore_n 3, 1) := by decide +kernel
theorem dX6_least_23 : decode cX6_least 23 = .ok (.iload_n 3, 1) := by decide +kernel
theorem dX6_least_24 : decode cX6_least 24 = .ok (.iload_n 2, 1) := by decide +kernel
theorem dX6_least_25 : decode cX6_least 25 = .ok (.if_icmp .gt 56, 3) := by decide +kernel
theorem dX6_least_28 : decode cX6_least 28 = .ok (.aload_n 0, 1) := by decide +kernel
theorem dX6_least_29 : decode cX6_least 29 = .ok (.getfield 39, 3) := by decide +kernel
theorem dX6_least_32 : decode cX6_least 32 = .ok (.aload_n 0, 1) := by decide +kernel
theorem dX6_least_33 : decode cX6_least 33 = .ok (.getfield 35, 3) := by decide +kernel
theorem dX6_least_36 : decode cX6_least 36 = .ok (.invokevirtual 138, 3) := by decide +kernel
theorem dX6_least_39 : decode cX6_least 39 = .ok (.aload_n 0, 1) := by decide +kernel
theorem dX6_least_40 : decode cX6_least 40 = .ok (.getfield 39, 3) := by decide +kernel
theorem dX6_least_43 : decode cX6_least 43 = .ok (.iload_n 3, 1) := by decide +kernel
theorem dX6_least_44 : decode cX6_least 44 = .ok (.putfield 95, 3) := by decide +kernel
theorem dX6_least_47 : decode cX6_least 47 = .ok (.aload_n 0, 1) := by decide +kernel
theorem dX6_least_48 : decode cX6_least 48 = .ok (.getfield 28, 3) := by decide +kernel
theorem dX6_least_51 : decode cX6_least 51 = .ok (.aload_n 0, 1) := by decide +kernel
theorem dX6_least_52 : decode cX6_least 52 = .ok (.getfield 39, 3) := by decide +kernel
theorem dX6_least_55 : decode cX6_least 55 = .ok (.iload_n 1, 1) := by decide +kernel
theorem dX6_least_56 : decode cX6_least 56 = .ok (.iconst 0, 1) := by decide +kernel
theorem dX6_least_57 : decode cX6_least 57 = .ok (.bipush 15, 2) := by decide +kernel
theorem dX6_least_59 : decode cX6_least 59 = .ok (.iconst (-1), 1) := by decide +kernel
theorem dX6_least_60 : decode cX6_least 60 = .ok (.invokevirtual 171, 3) := by decide +kernel
theorem dX6_least_63 : decode cX6_least 63 = .ok (.aload_n 0, 1) := by decide +kernel
theorem dX6_least_64 : decode cX6_least 64 = .ok (.getfield 39, 3) := by decide +kernel
theorem dX6_least_67 : decode cX6_least 67 = .ok (.invokevirtual 178, 3) := by decide +kernel
theorem dX6_least_70 : decode cX6_least 70 = .ok (.ifCond .eq 5, 3) := by decide +kernel
theorem dX6_least_73 : decode cX6_least 73 = .ok (.iload_n 3, 1) := by decide +kernel
theorem dX6_least_74 : decode cX6_least 74 = .ok (.ireturn, 1) := by decide +kernel
theorem dX6_least_75 : decode cX6_least 75 = .ok (.iinc 3 1, 3) := by decide +kernel
theorem dX6_least_78 : decode cX6_least 78 = .ok (.goto (-55), 3) := by decide +kernel
theorem dX6_least_81 : decode cX6_least 81 = .ok (.bipush (-9), 2) := by decide +kernel
theorem dX6_least_83 : decode cX6_least 83 = .ok (.ireturn, 1) := by decide +kernel
theorem dX6_signed_0 : decode cX6_signed 0 = .ok (.aload_n 0, 1) := by decide +kernel
theorem dX6_signed_1 : decode cX6_signed 1 = .ok (.getfield 19, 3) := by decide +kernel
theorem dX6_signed_4 : decode cX6_signed 4 = .ok (.iload_n 1, 1) := by decide +kernel
theorem dX6_signed_5 : decode cX6_signed 5 = .ok (.invokevirtual 115, 3) := by decide +kernel
theorem dX6_signed_8 : decode cX6_signed 8 = .ok (.ifCond .ne 5, 3) := by decide +kernel
theorem dX6_signed_11 : decode cX6_signed 11 = .ok (.iconst (-1), 1) := by decide +kernel
theorem dX6_signed_12 : decode cX6_signed 12 = .ok (.ireturn, 1) := by decide +kernel
theorem dX6_signed_13 : decode cX6_signed 13 = .ok (.iload_n 2, 1) := by decide +kernel
theorem dX6_signed_14 : decode cX6_signed 14 = .ok (.iconst 1, 1) := by decide +kernel
theorem dX6_signed_15 : decode cX6_signed 15 = .ok (.if_icmp .lt 23, 3) := by decide +kernel
theorem dX6_signed_18 : decode cX6_signed 18 = .ok (.iload_n 2, 1) := by decide +kernel
theorem dX6_signed_19 : decode cX6_signed 19 = .ok (.bipush 6, 2) := by decide +kernel
theorem dX6_signed_21 : decode cX6_signed 21 = .ok (.if_icmp .gt 17, 3) := by decide +kernel
theorem dX6_signed_24 : decode cX6_signed 24 = .ok (.iload_n 3, 1) := by decide +kernel
theorem dX6_signed_25 : decode cX6_signed 25 = .ok (.ifCond .lt 13, 3) := by decide +kernel
theorem dX6_signed_28 : decode cX6_signed 28 = .ok (.iload_n 3, 1) := by decide +kernel
theorem dX6_signed_29 : decode cX6_signed 29 = .ok (.bipush 10, 2) := by decide +kernel
theorem dX6_signed_31 : decode cX6_signed 31 = .ok (.iload_n 2, 1) := by decide +kernel
theorem dX6_signed_32 : decode cX6_signed 32 = .ok (.invokestatic 182, 3) := by decide +kernel
theorem dX6_signed_35 : decode cX6_signed 35 = .ok (.if_icmp .lt 6, 3) := by decide +kernel
theorem dX6_signed_38 : decode cX6_signed 38 = .ok (.bipush (-2), 2) := by decide +kernel
theorem dX6_signed_40 : decode cX6_signed 40 = .ok (.ireturn, 1) := by decide +kernel
theorem dX6_signed_41 : decode cX6_signed 41 = .ok (.aload_n 0, 1) := by decide +kernel
theorem dX6_signed_42 : decode cX6_signed 42 = .ok (.iload_n 1, 1) := by decide +kernel
theorem dX6_signed_43 : decode cX6_signed 43 = .ok (.iload_n 2, 1) := by decide +kernel
theorem dX6_signed_44 : decode cX6_signed 44 = .ok (.iload_n 3, 1) := by decide +kernel
theorem dX6_signed_45 : decode cX6_signed 45 = .ok (.invokevirtual 185, 3) := by decide +kernel
theorem dX6_signed_48 : decode cX6_signed 48 = .ok (.ireturn, 1) := by decide +kernel
theorem dX6_forged_0 : decode cX6_forged 0 = .ok (.aload_n 0, 1) := by decide +kernel
theorem dX6_forged_1 : decode cX6_forged 1 = .ok (.getfield 19, 3) := by decide +kernel
theorem dX6_forged_4 : decode cX6_forged 4 = .ok (.iload_n 1, 1) := by decide +kernel
theorem dX6_forged_5 : decode cX6_forged 5 = .ok (.invokevirtual 115, 3) := by decide +kernel
theorem dX6_forged_8 : decode cX6_forged 8 = .ok (.ifCond .ne 5, 3) := by decide +kernel
theorem dX6_forged_11 : decode cX6_forged 11 = .ok (.iconst (-1), 1) := by decide +kernel
theorem dX6_forged_12 : decode cX6_forged 12 = .ok (.ireturn, 1) := by decide +kernel
theorem dX6_forged_13 : decode cX6_forged 13 = .ok (.iload_n 2, 1) := by decide +kernel
theorem dX6_forged_14 : decode cX6_forged 14 = .ok (.iconst 1, 1) := by decide +kernel
theorem dX6_forged_15 : decode cX6_forged 15 = .ok (.if_icmp .lt 19, 3) := by decide +kernel
theorem dX6_forged_18 : decode cX6_forged 18 = .ok (.iload_n 2, 1) := by decide +kernel
theorem dX6_forged_19 : decode cX6_forged 19 = .ok (.iconst 3, 1) := by decide +kernel
theorem dX6_forged_20 : decode cX6_forged 20 = .ok (.if_icmp .gt 14, 3) := by decide +kernel
theorem dX6_forged_23 : decode cX6_forged 23 = .ok (.iload_n 3, 1) := by decide +kernel
theorem dX6_forged_24 : decode cX6_forged 24 = .ok (.ifCond .lt 10, 3) := by decide +kernel
theorem dX6_forged_27 : decode cX6_forged 27 = .ok (.iload_n 3, 1) := by decide +kernel
theorem dX6_forged_28 : decode cX6_forged 28 = .ok (.sipush 9973, 3) := by decide +kernel
theorem dX6_forged_31 : decode cX6_forged 31 = .ok (.if_icmp .lt 6, 3) := by decide +kernel
theorem dX6_forged_34 : decode cX6_forged 34 = .ok (.bipush (-2), 2) := by decide +kernel
theorem dX6_forged_36 : decode cX6_forged 36 = .ok (.ireturn, 1) := by decide +kernel
theorem dX6_forged_37 : decode cX6_forged 37 = .ok (.bipush 10, 2) := by decide +kernel
theorem dX6_forged_39 : decode cX6_forged 39 = .ok (.iload_n 2, 1) := by decide +kernel
theorem dX6_forged_40 : decode cX6_forged 40 = .ok (.invokestatic 182, 3) := by decide +kernel
theorem dX6_forged_43 : decode cX6_forged 43 = .ok (.istore 4, 2) := by decide +kernel
theorem dX6_forged_45 : decode cX6_forged 45 = .ok (.iconst 0, 1) := by decide +kernel
theorem dX6_forged_46 : decode cX6_forged 46 = .ok (.istore 5, 2) := by decide +kernel
theorem dX6_forged_48 : decode cX6_forged 48 = .ok (.iload 5, 2) := by decide +kernel
theorem dX6_forged_50 : decode cX6_forged 50 = .ok (.iload 4, 2) := by decide +kernel
theorem dX6_forged_52 : decode cX6_forged 52 = .ok (.if_icmp .ge 24, 3) := by decide +kernel
theorem dX6_forged_55 : decode cX6_forged 55 = .ok (.aload_n 0, 1) := by decide +kernel
theorem dX6_forged_56 : decode cX6_forged 56 = .ok (.iload_n 1, 1) := by decide +kernel
theorem dX6_forged_57 : decode cX6_forged 57 = .ok (.iload_n 2, 1) := by decide +kernel
theorem dX6_forged_58 : decode cX6_forged 58 = .ok (.iload 5, 2) := by decide +kernel
theorem dX6_forged_60 : decode cX6_forged 60 = .ok (.invokevirtual 185, 3) := by decide +kernel
theorem dX6_forged_63 : decode cX6_forged 63 = .ok (.iload_n 3, 1) := by decide +kernel
theorem dX6_forged_64 : decode cX6_forged 64 = .ok (.if_icmp .ne 6, 3) := by decide +kernel
theorem dX6_forged_67 : decode cX6_forged 67 = .ok (.iload 5, 2) := by decide +kernel
theorem dX6_forged_69 : decode cX6_forged 69 = .ok (.ireturn, 1) := by decide +kernel
theorem dX6_forged_70 : decode cX6_forged 70 = .ok (.iinc 5 1, 3) := by decide +kernel
theorem dX6_forged_73 : decode cX6_forged 73 = .ok (.goto (-25), 3) := by decide +kernel
theorem dX6_forged_76 : decode cX6_forged 76 = .ok (.bipush (-9), 2) := by decide +kernel
theorem dX6_forged_78 : decode cX6_forged 78 = .ok (.ireturn, 1) := by decide +kernel
theorem dX6_judge_0 : decode cX6_judge 0 = .ok (.iload_n 1, 1) := by decide +kernel
theorem dX6_judge_1 : decode cX6_judge 1 = .ok (.iconst 1, 1) := by decide +kernel
theorem dX6_judge_2 : decode cX6_judge 2 = .ok (.if_icmp .lt 23, 3) := by decide +kernel
theorem dX6_judge_5 : decode cX6_judge 5 = .ok (.iload_n 1, 1) := by decide +kernel
theorem dX6_judge_6 : decode cX6_judge 6 = .ok (.iconst 3, 1) := by decide +kernel
theorem dX6_judge_7 : decode cX6_judge 7 = .ok (.if_icmp .gt 18, 3) := by decide +kernel
theorem dX6_judge_10 : decode cX6_judge 10 = .ok (.iload_n 2, 1) := by decide +kernel
theorem dX6_judge_11 : decode cX6_judge 11 = .ok (.ifCond .lt 14, 3) := by decide +kernel
theorem dX6_judge_14 : decode cX6_judge 14 = .ok (.iload_n 2, 1) := by decide +kernel
theorem dX6_judge_15 : decode cX6_judge 15 = .ok (.sipush 1000, 3) := by decide +kernel
theorem dX6_judge_18 : decode cX6_judge 18 = .ok (.iload_n 1, 1) := by decide +kernel
theorem dX6_judge_19 : decode cX6_judge 19 = .ok (.invokestatic 182, 3) := by decide +kernel
theorem dX6_judge_22 : decode cX6_judge 22 = .ok (.if_icmp .lt 6, 3) := by decide +kernel
theorem dX6_judge_25 : decode cX6_judge 25 = .ok (.bipush (-2), 2) := by decide +kernel
theorem dX6_judge_27 : decode cX6_judge 27 = .ok (.ireturn, 1) := by decide +kernel
theorem dX6_judge_28 : decode cX6_judge 28 = .ok (.aload_n 0, 1) := by decide +kernel
theorem dX6_judge_29 : decode cX6_judge 29 = .ok (.iload_n 2, 1) := by decide +kernel
theorem dX6_judge_30 : decode cX6_judge 30 = .ok (.iconst 3, 1) := by decide +kernel
theorem dX6_judge_31 : decode cX6_judge 31 = .ok (.iload_n 1, 1) := by decide +kernel
theorem dX6_judge_32 : decode cX6_judge 32 = .ok (.imul, 1) := by decide +kernel
theorem dX6_judge_33 : decode cX6_judge 33 = .ok (.invokevirtual 189, 3) := by decide +kernel
theorem dX6_judge_36 : decode cX6_judge 36 = .ok (.aload_n 0, 1) := by decide +kernel
theorem dX6_judge_37 : decode cX6_judge 37 = .ok (.getfield 39, 3) := by decide +kernel
theorem dX6_judge_40 : decode cX6_judge 40 = .ok (.aload_n 0, 1) := by decide +kernel
theorem dX6_judge_41 : decode cX6_judge 41 = .ok (.getfield 35, 3) := by decide +kernel
theorem dX6_judge_44 : decode cX6_judge 44 = .ok (.invokevirtual 138, 3) := by decide +kernel
theorem dX6_judge_47 : decode cX6_judge 47 = .ok (.iconst 0, 1) := by decide +kernel
theorem dX6_judge_48 : decode cX6_judge 48 = .ok (.istore_n 3, 1) := by decide +kernel
theorem dX6_judge_49 : decode cX6_judge 49 = .ok (.iload_n 3, 1) := by decide +kernel
theorem dX6_judge_50 : decode cX6_judge 50 = .ok (.iload_n 1, 1) := by decide +kernel
theorem dX6_judge_51 : decode cX6_judge 51 = .ok (.if_icmp .ge 46, 3) := by decide +kernel
theorem dX6_judge_54 : decode cX6_judge 54 = .ok (.aload_n 0, 1) := by decide +kernel
theorem dX6_judge_55 : decode cX6_judge 55 = .ok (.aload_n 0, 1) := by decide +kernel
theorem dX6_judge_56 : decode cX6_judge 56 = .ok (.getfield 60, 3) := by decide +kernel
theorem dX6_judge_59 : decode cX6_judge 59 = .ok (.iconst 3, 1) := by decide +kernel
theorem dX6_judge_60 : decode cX6_judge 60 = .ok (.iload_n 3, 1) := by decide +kernel
theorem dX6_judge_61 : decode cX6_judge 61 = .ok (.imul, 1) := by decide +kernel
theorem dX6_judge_62 : decode cX6_judge 62 = .ok (.iaload, 1) := by decide +kernel
theorem dX6_judge_63 : decode cX6_judge 63 = .ok (.aload_n 0, 1) := by decide +kernel
theorem dX6_judge_64 : decode cX6_judge 64 = .ok (.getfield 60, 3) := by decide +kernel
theorem dX6_judge_67 : decode cX6_judge 67 = .ok (.iconst 3, 1) := by decide +kernel
theorem dX6_judge_68 : decode cX6_judge 68 = .ok (.iload_n 3, 1) := by decide +kernel
theorem dX6_judge_69 : decode cX6_judge 69 = .ok (.imul, 1) := by decide +kernel
theorem dX6_judge_70 : decode cX6_judge 70 = .ok (.iconst 1, 1) := by decide +kernel
theorem dX6_judge_71 : decode cX6_judge 71 = .ok (.iadd, 1) := by decide +kernel
theorem dX6_judge_72 : decode cX6_judge 72 = .ok (.iaload, 1) := by decide +kernel
theorem dX6_judge_73 : decode cX6_judge 73 = .ok (.aload_n 0, 1) := by decide +kernel
theorem dX6_judge_74 : decode cX6_judge 74 = .ok (.getfield 60, 3) := by decide +kernel
theorem dX6_judge_77 : decode cX6_judge 77 = .ok (.iconst 3, 1) := by decide +kernel
theorem dX6_judge_78 : decode cX6_judge 78 = .ok (.iload_n 3, 1) := by decide +kernel
theorem dX6_judge_79 : decode cX6_judge 79 = .ok (.imul, 1) := by decide +kernel
theorem dX6_judge_80 : decode cX6_judge 80 = .ok (.iconst 2, 1) := by decide +kernel
theorem dX6_judge_81 : decode cX6_judge 81 = .ok (.iadd, 1) := by decide +kernel
theorem dX6_judge_82 : decode cX6_judge 82 = .ok (.iaload, 1) := by decide +kernel
theorem dX6_judge_83 : decode cX6_judge 83 = .ok (.invokevirtual 193, 3) := by decide +kernel
theorem dX6_judge_86 : decode cX6_judge 86 = .ok (.ifCond .ne 5, 3) := by decide +kernel
theorem dX6_judge_89 : decode cX6_judge 89 = .ok (.iload_n 3, 1) := by decide +kernel
theorem dX6_judge_90 : decode cX6_judge 90 = .ok (.ireturn, 1) := by decide +kernel
theorem dX6_judge_91 : decode cX6_judge 91 = .ok (.iinc 3 1, 3) := by decide +kernel
theorem dX6_judge_94 : decode cX6_judge 94 = .ok (.goto (-45), 3) := by decide +kernel
theorem dX6_judge_97 : decode cX6_judge 97 = .ok (.bipush (-9), 2) := by decide +kernel
theorem dX6_judge_99 : decode cX6_judge 99 = .ok (.ireturn, 1) := by decide +kernel
theorem dX6_holds_0 : decode cX6_holds 0 = .ok (.iload_n 1, 1) := by decide +kernel
theorem dX6_holds_1 : decode cX6_holds 1 = .ok (.tableswitch 252 1 8 #[47, 73, 95, 120, 142, 167, 197, 226], 47) := by decide +kernel
theorem dX6_holds_48 : decode cX6_holds 48 = .ok (.aload_n 0, 1) := by decide +kernel
theorem dX6_holds_49 : decode cX6_holds 49 = .ok (.getfield 28, 3) := by decide +kernel
theorem dX6_holds_52 : decode cX6_holds 52 = .ok (.aload_n 0, 1) := by decide +kernel
theorem dX6_holds_53 : decode cX6_holds 53 = .ok (.getfield 39, 3) := by decide +kernel
theorem dX6_holds_56 : decode cX6_holds 56 = .ok (.bipush 10, 2) := by decide +kernel
theorem dX6_holds_58 : decode cX6_holds 58 = .ok (.iload_n 2, 1) := by decide +kernel
theorem dX6_holds_59 : decode cX6_holds 59 = .ok (.imul, 1) := by decide +kernel
theorem dX6_holds_60 : decode cX6_holds 60 = .ok (.iload_n 3, 1) := by decide +kernel
theorem dX6_holds_61 : decode cX6_holds 61 = .ok (.iadd, 1) := by decide +kernel
theorem dX6_holds_62 : decode cX6_holds 62 = .ok (.invokevirtual 142, 3) := by decide +kernel
theorem dX6_holds_65 : decode cX6_holds 65 = .ok (.ifCond .lt 7, 3) := by decide +kernel
theorem dX6_holds_68 : decode cX6_holds 68 = .ok (.iconst 1, 1) := by decide +kernel
theorem dX6_holds_69 : decode cX6_holds 69 = .ok (.goto 4, 3) := by decide +kernel
theorem dX6_holds_72 : decode cX6_holds 72 = .ok (.iconst 0, 1) := by decide +kernel
theorem dX6_holds_73 : decode cX6_holds 73 = .ok (.ireturn, 1) := by decide +kernel
theorem dX6_holds_74 : decode cX6_holds 74 = .ok (.aload_n 0, 1) := by decide +kernel
theorem dX6_holds_75 : decode cX6_holds 75 = .ok (.getfield 28, 3) := by decide +kernel
theorem dX6_holds_78 : decode cX6_holds 78 = .ok (.aload_n 0, 1) := by decide +kernel
theorem dX6_holds_79 : decode cX6_holds 79 = .ok (.getfield 39, 3) := by decide +kernel
theorem dX6_holds_82 : decode cX6_holds 82 = .ok (.iload_n 2, 1) := by decide +kernel
theorem dX6_holds_83 : decode cX6_holds 83 = .ok (.iload_n 3, 1) := by decide +kernel
theorem dX6_holds_84 : decode cX6_holds 84 = .ok (.invokevirtual 149, 3) := by decide +kernel
theorem dX6_holds_87 : decode cX6_holds 87 = .ok (.ifCond .lt 7, 3) := by decide +kernel
theorem dX6_holds_90 : decode cX6_holds 90 = .ok (.iconst 1, 1) := by decide +kernel
theorem dX6_holds_91 : decode cX6_holds 91 = .ok (.goto 4, 3) := by decide +kernel
theorem dX6_holds_94 : decode cX6_holds 94 = .ok (.iconst 0, 1) := by decide +kernel
theorem dX6_holds_95 : decode cX6_holds 95 = .ok (.ireturn, 1) := by decide +kernel
theorem dX6_holds_96 : decode cX6_holds 96 = .ok (.iload_n 2, 1) := by decide +kernel
theorem dX6_holds_97 : decode cX6_holds 97 = .ok (.ifCond .ne 22, 3) := by decide +kernel
theorem dX6_holds_100 : decode cX6_holds 100 = .ok (.aload_n 0, 1) := by decide +kernel
theorem dX6_holds_101 : decode cX6_holds 101 = .ok (.getfield 28, 3) := by decide +kernel
theorem dX6_holds_104 : decode cX6_holds 104 = .ok (.aload_n 0, 1) := by decide +kernel
theorem dX6_holds_105 : decode cX6_holds 105 = .ok (.getfield 39, 3) := by decide +kernel
theorem dX6_holds_108 : decode cX6_holds 108 = .ok (.iload_n 3, 1) := by decide +kernel
theorem dX6_holds_109 : decode cX6_holds 109 = .ok (.invokevirtual 152, 3) := by decide +kernel
theorem dX6_holds_112 : decode cX6_holds 112 = .ok (.ifCond .lt 7, 3) := by decide +kernel
theorem dX6_holds_115 : decode cX6_holds 115 = .ok (.iconst 1, 1) := by decide +kernel
theorem dX6_holds_116 : decode cX6_holds 116 = .ok (.goto 4, 3) := by decide +kernel
theorem dX6_holds_119 : decode cX6_holds 119 = .ok (.iconst 0, 1) := by decide +kernel
theorem dX6_holds_120 : decode cX6_holds 120 = .ok (.ireturn, 1) := by decide +kernel
theorem dX6_holds_121 : decode cX6_holds 121 = .ok (.aload_n 0, 1) := by decide +kernel
theorem dX6_holds_122 : decode cX6_holds 122 = .ok (.getfield 28, 3) := by decide +kernel
theorem dX6_holds_125 : decode cX6_holds 125 = .ok (.aload_n 0, 1) := by decide +kernel
theorem dX6_holds_126 : decode cX6_holds 126 = .ok (.getfield 39, 3) := by decide +kernel
theorem dX6_holds_129 : decode cX6_holds 129 = .ok (.iload_n 2, 1) := by decide +kernel
theorem dX6_holds_130 : decode cX6_holds 130 = .ok (.iload_n 3, 1) := by decide +kernel
theorem dX6_holds_131 : decode cX6_holds 131 = .ok (.invokevirtual 155, 3) := by decide +kernel
theorem dX6_holds_134 : decode cX6_holds 134 = .ok (.ifCond .lt 7, 3) := by decide +kernel
theorem dX6_holds_137 : decode cX6_holds 137 = .ok (.iconst 1, 1) := by decide +kernel
theorem dX6_holds_138 : decode cX6_holds 138 = .ok (.goto 4, 3) := by decide +kernel
theorem dX6_holds_141 : decode cX6_holds 141 = .ok (.iconst 0, 1) := by decide +kernel
theorem dX6_holds_142 : decode cX6_holds 142 = .ok (.ireturn, 1) := by decide +kernel
theorem dX6_holds_143 : decode cX6_holds 143 = .ok (.iload_n 2, 1) := by decide +kernel
theorem dX6_holds_144 : decode cX6_holds 144 = .ok (.ifCond .ne 22, 3) := by decide +kernel
theorem dX6_holds_147 : decode cX6_holds 147 = .ok (.aload_n 0, 1) := by decide +kernel
theorem dX6_holds_148 : decode cX6_holds 148 = .ok (.getfield 28, 3) := by decide +kernel
theorem dX6_holds_151 : decode cX6_holds 151 = .ok (.aload_n 0, 1) := by decide +kernel
theorem dX6_holds_152 : decode cX6_holds 152 = .ok (.getfield 39, 3) := by decide +kernel
theorem dX6_holds_155 : decode cX6_holds 155 = .ok (.iload_n 3, 1) := by decide +kernel
theorem dX6_holds_156 : decode cX6_holds 156 = .ok (.invokevirtual 158, 3) := by decide +kernel
theorem dX6_holds_159 : decode cX6_holds 159 = .ok (.ifCond .lt 7, 3) := by decide +kernel
theorem dX6_holds_162 : decode cX6_holds 162 = .ok (.iconst 1, 1) := by decide +kernel
theorem dX6_holds_163 : decode cX6_holds 163 = .ok (.goto 4, 3) := by decide +kernel
theorem dX6_holds_166 : decode cX6_holds 166 = .ok (.iconst 0, 1) := by decide +kernel
theorem dX6_holds_167 : decode cX6_holds 167 = .ok (.ireturn, 1) := by decide +kernel
theorem dX6_holds_168 : decode cX6_holds 168 = .ok (.aload_n 0, 1) := by decide +kernel
theorem dX6_holds_169 : decode cX6_holds 169 = .ok (.getfield 19, 3) := by decide +kernel
theorem dX6_holds_172 : decode cX6_holds 172 = .ok (.iload_n 2, 1) := by decide +kernel
theorem dX6_holds_173 : decode cX6_holds 173 = .ok (.invokevirtual 115, 3) := by decide +kernel
theorem dX6_holds_176 : decode cX6_holds 176 = .ok (.ifCond .eq 20, 3) := by decide +kernel
theorem dX6_holds_179 : decode cX6_holds 179 = .ok (.aload_n 0, 1) := by decide +kernel
theorem dX6_holds_180 : decode cX6_holds 180 = .ok (.getfield 39, 3) := by decide +kernel
theorem dX6_holds_183 : decode cX6_holds 183 = .ok (.iload_n 2, 1) := by decide +kernel
theorem dX6_holds_184 : decode cX6_holds 184 = .ok (.iconst 2, 1) := by decide +kernel
theorem dX6_holds_185 : decode cX6_holds 185 = .ok (.invokevirtual 197, 3) := by decide +kernel
theorem dX6_holds_188 : decode cX6_holds 188 = .ok (.iload_n 3, 1) := by decide +kernel
theorem dX6_holds_189 : decode cX6_holds 189 = .ok (.if_icmp .ne 7, 3) := by decide +kernel
theorem dX6_holds_192 : decode cX6_holds 192 = .ok (.iconst 1, 1) := by decide +kernel
theorem dX6_holds_193 : decode cX6_holds 193 = .ok (.goto 4, 3) := by decide +kernel
theorem dX6_holds_196 : decode cX6_holds 196 = .ok (.iconst 0, 1) := by decide +kernel
theorem dX6_holds_197 : decode cX6_holds 197 = .ok (.ireturn, 1) := by decide +kernel
theorem dX6_holds_198 : decode cX6_holds 198 = .ok (.aload_n 0, 1) := by decide +kernel
theorem dX6_holds_199 : decode cX6_holds 199 = .ok (.getfield 19, 3) := by decide +kernel
theorem dX6_holds_202 : decode cX6_holds 202 = .ok (.iload_n 2, 1) := by decide +kernel
theorem dX6_holds_203 : decode cX6_holds 203 = .ok (.invokevirtual 125, 3) := by decide +kernel
theorem dX6_holds_206 : decode cX6_holds 206 = .ok (.ifCond .eq 19, 3) := by decide +kernel
theorem dX6_holds_209 : decode cX6_holds 209 = .ok (.aload_n 0, 1) := by decide +kernel
theorem dX6_holds_210 : decode cX6_holds 210 = .ok (.getfield 39, 3) := by decide +kernel
theorem dX6_holds_213 : decode cX6_holds 213 = .ok (.iload_n 2, 1) := by decide +kernel
theorem dX6_holds_214 : decode cX6_holds 214 = .ok (.invokevirtual 128, 3) := by decide +kernel
theorem dX6_holds_217 : decode cX6_holds 217 = .ok (.iload_n 3, 1) := by decide +kernel
theorem dX6_holds_218 : decode cX6_holds 218 = .ok (.if_icmp .gt 7, 3) := by decide +kernel
theorem dX6_holds_221 : decode cX6_holds 221 = .ok (.iconst 1, 1) := by decide +kernel
theorem dX6_holds_222 : decode cX6_holds 222 = .ok (.goto 4, 3) := by decide +kernel
theorem dX6_holds_225 : decode cX6_holds 225 = .ok (.iconst 0, 1) := by decide +kernel
theorem dX6_holds_226 : decode cX6_holds 226 = .ok (.ireturn, 1) := by decide +kernel
theorem dX6_holds_227 : decode cX6_holds 227 = .ok (.aload_n 0, 1) := by decide +kernel
theorem dX6_holds_228 : decode cX6_holds 228 = .ok (.getfield 28, 3) := by decide +kernel
theorem dX6_holds_231 : decode cX6_holds 231 = .ok (.aload_n 0, 1) := by decide +kernel
theorem dX6_holds_232 : decode cX6_holds 232 = .ok (.getfield 39, 3) := by decide +kernel
theorem dX6_holds_235 : decode cX6_holds 235 = .ok (.bipush 10, 2) := by decide +kernel
theorem dX6_holds_237 : decode cX6_holds 237 = .ok (.iload_n 2, 1) := by decide +kernel
theorem dX6_holds_238 : decode cX6_holds 238 = .ok (.imul, 1) := by decide +kernel
theorem dX6_holds_239 : decode cX6_holds 239 = .ok (.iload_n 3, 1) := by decide +kernel
theorem dX6_holds_240 : decode cX6_holds 240 = .ok (.iadd, 1) := by decide +kernel
theorem dX6_holds_241 : decode cX6_holds 241 = .ok (.invokevirtual 161, 3) := by decide +kernel
theorem dX6_holds_244 : decode cX6_holds 244 = .ok (.ifCond .lt 7, 3) := by decide +kernel
theorem dX6_holds_247 : decode cX6_holds 247 = .ok (.iconst 1, 1) := by decide +kernel
theorem dX6_holds_248 : decode cX6_holds 248 = .ok (.goto 4, 3) := by decide +kernel
theorem dX6_holds_251 : decode cX6_holds 251 = .ok (.iconst 0, 1) := by decide +kernel
theorem dX6_holds_252 : decode cX6_holds 252 = .ok (.ireturn, 1) := by decide +kernel
theorem dX6_holds_253 : decode cX6_holds 253 = .ok (.iconst 0, 1) := by decide +kernel
theorem dX6_holds_254 : decode cX6_holds 254 = .ok (.ireturn, 1) := by decide +kernel
theorem dX6_signOfRow_0 : decode cX6_signOfRow 0 = .ok (.aload_n 0, 1) := by decide +kernel
theorem dX6_signOfRow_1 : decode cX6_signOfRow 1 = .ok (.iload_n 3, 1) := by decide +kernel
theorem dX6_signOfRow_2 : decode cX6_signOfRow 2 = .ok (.iload_n 2, 1) := by decide +kernel
theorem dX6_signOfRow_3 : decode cX6_signOfRow 3 = .ok (.invokevirtual 189, 3) := by decide +kernel
theorem dX6_signOfRow_6 : decode cX6_signOfRow 6 = .ok (.iconst 0, 1) := by decide +kernel
theorem dX6_signOfRow_7 : decode cX6_signOfRow 7 = .ok (.istore 4, 2) := by decide +kernel
theorem dX6_signOfRow_9 : decode cX6_signOfRow 9 = .ok (.iconst 0, 1) := by decide +kernel
theorem dX6_signOfRow_10 : decode cX6_signOfRow 10 = .ok (.istore 5, 2) := by decide +kernel
theorem dX6_signOfRow_12 : decode cX6_signOfRow 12 = .ok (.iload 5, 2) := by decide +kernel
theorem dX6_signOfRow_14 : decode cX6_signOfRow 14 = .ok (.iload_n 2, 1) := by decide +kernel
theorem dX6_signOfRow_15 : decode cX6_signOfRow 15 = .ok (.if_icmp .ge 41, 3) := by decide +kernel
theorem dX6_signOfRow_18 : decode cX6_signOfRow 18 = .ok (.iload 5, 2) := by decide +kernel
theorem dX6_signOfRow_20 : decode cX6_signOfRow 20 = .ok (.bipush 9, 2) := by decide +kernel
theorem dX6_signOfRow_22 : decode cX6_signOfRow 22 = .ok (.if_icmp .ge 34, 3) := by decide +kernel
theorem dX6_signOfRow_25 : decode cX6_signOfRow 25 = .ok (.aload_n 0, 1) := by decide +kernel
theorem dX6_signOfRow_26 : decode cX6_signOfRow 26 = .ok (.getfield 60, 3) := by decide +kernel
theorem dX6_signOfRow_29 : decode cX6_signOfRow 29 = .ok (.iload 5, 2) := by decide +kernel
theorem dX6_signOfRow_31 : decode cX6_signOfRow 31 = .ok (.iaload, 1) := by decide +kernel
theorem dX6_signOfRow_32 : decode cX6_signOfRow 32 = .ok (.ifCond .eq 18, 3) := by decide +kernel
theorem dX6_signOfRow_35 : decode cX6_signOfRow 35 = .ok (.iload 4, 2) := by decide +kernel
theorem dX6_signOfRow_37 : decode cX6_signOfRow 37 = .ok (.iload_n 1, 1) := by decide +kernel
theorem dX6_signOfRow_38 : decode cX6_signOfRow 38 = .ok (.aload_n 0, 1) := by decide +kernel
theorem dX6_signOfRow_39 : decode cX6_signOfRow 39 = .ok (.getfield 60, 3) := by decide +kernel
theorem dX6_signOfRow_42 : decode cX6_signOfRow 42 = .ok (.iload 5, 2) := by decide +kernel
theorem dX6_signOfRow_44 : decode cX6_signOfRow 44 = .ok (.iaload, 1) := by decide +kernel
theorem dX6_signOfRow_45 : decode cX6_signOfRow 45 = .ok (.invokestatic 200, 3) := by decide +kernel
theorem dX6_signOfRow_48 : decode cX6_signOfRow 48 = .ok (.istore 4, 2) := by decide +kernel
theorem dX6_signOfRow_50 : decode cX6_signOfRow 50 = .ok (.iinc 5 1, 3) := by decide +kernel
theorem dX6_signOfRow_53 : decode cX6_signOfRow 53 = .ok (.goto (-41), 3) := by decide +kernel
theorem dX6_signOfRow_56 : decode cX6_signOfRow 56 = .ok (.iload 4, 2) := by decide +kernel
theorem dX6_signOfRow_58 : decode cX6_signOfRow 58 = .ok (.ireturn, 1) := by decide +kernel
theorem dX6_spread_0 : decode cX6_spread 0 = .ok (.iload_n 1, 1) := by decide +kernel
theorem dX6_spread_1 : decode cX6_spread 1 = .ok (.istore_n 3, 1) := by decide +kernel
theorem dX6_spread_2 : decode cX6_spread 2 = .ok (.iload_n 2, 1) := by decide +kernel
theorem dX6_spread_3 : decode cX6_spread 3 = .ok (.bipush 9, 2) := by decide +kernel
theorem dX6_spread_5 : decode cX6_spread 5 = .ok (.invokestatic 203, 3) := by decide +kernel
theorem dX6_spread_8 : decode cX6_spread 8 = .ok (.iconst 1, 1) := by decide +kernel
theorem dX6_spread_9 : decode cX6_spread 9 = .ok (.isub, 1) := by decide +kernel
theorem dX6_spread_10 : decode cX6_spread 10 = .ok (.istore 4, 2) := by decide +kernel
theorem dX6_spread_12 : decode cX6_spread 12 = .ok (.iload 4, 2) := by decide +kernel
theorem dX6_spread_14 : decode cX6_spread 14 = .ok (.ifCond .lt 25, 3) := by decide +kernel
theorem dX6_spread_17 : decode cX6_spread 17 = .ok (.aload_n 0, 1) := by decide +kernel
theorem dX6_spread_18 : decode cX6_spread 18 = .ok (.getfield 60, 3) := by decide +kernel
theorem dX6_spread_21 : decode cX6_spread 21 = .ok (.iload 4, 2) := by decide +kernel
theorem dX6_spread_23 : decode cX6_spread 23 = .ok (.iload_n 3, 1) := by decide +kernel
theorem dX6_spread_24 : decode cX6_spread 24 = .ok (.bipush 10, 2) := by decide +kernel
theorem dX6_spread_26 : decode cX6_spread 26 = .ok (.irem, 1) := by decide +kernel
theorem dX6_spread_27 : decode cX6_spread 27 = .ok (.iastore, 1) := by decide +kernel
theorem dX6_spread_28 : decode cX6_spread 28 = .ok (.iload_n 3, 1) := by decide +kernel
theorem dX6_spread_29 : decode cX6_spread 29 = .ok (.bipush 10, 2) := by decide +kernel
theorem dX6_spread_31 : decode cX6_spread 31 = .ok (.idiv, 1) := by decide +kernel
theorem dX6_spread_32 : decode cX6_spread 32 = .ok (.istore_n 3, 1) := by decide +kernel
theorem dX6_spread_33 : decode cX6_spread 33 = .ok (.iinc 4 (-1), 3) := by decide +kernel
theorem dX6_spread_36 : decode cX6_spread 36 = .ok (.goto (-24), 3) := by decide +kernel
theorem dX6_spread_39 : decode cX6_spread 39 = .ok (.return_, 1) := by decide +kernel
theorem dX6_see_0 : decode cX6_see 0 = .ok (.aload_n 0, 1) := by decide +kernel
theorem dX6_see_1 : decode cX6_see 1 = .ok (.getfield 19, 3) := by decide +kernel
theorem dX6_see_4 : decode cX6_see 4 = .ok (.iload_n 1, 1) := by decide +kernel
theorem dX6_see_5 : decode cX6_see 5 = .ok (.invokevirtual 115, 3) := by decide +kernel
theorem dX6_see_8 : decode cX6_see 8 = .ok (.ifCond .ne 5, 3) := by decide +kernel
theorem dX6_see_11 : decode cX6_see 11 = .ok (.iconst (-1), 1) := by decide +kernel
theorem dX6_see_12 : decode cX6_see 12 = .ok (.ireturn, 1) := by decide +kernel
theorem dX6_see_13 : decode cX6_see 13 = .ok (.iload_n 2, 1) := by decide +kernel
theorem dX6_see_14 : decode cX6_see 14 = .ok (.ifCond .lt 20, 3) := by decide +kernel
theorem dX6_see_17 : decode cX6_see 17 = .ok (.iload_n 2, 1) := by decide +kernel
theorem dX6_see_18 : decode cX6_see 18 = .ok (.bipush 20, 2) := by decide +kernel
theorem dX6_see_20 : decode cX6_see 20 = .ok (.if_icmp .gt 14, 3) := by decide +kernel
theorem dX6_see_23 : decode cX6_see 23 = .ok (.iload_n 3, 1) := by decide +kernel
theorem dX6_see_24 : decode cX6_see 24 = .ok (.ifCond .lt 10, 3) := by decide +kernel
theorem dX6_see_27 : decode cX6_see 27 = .ok (.iload_n 3, 1) := by decide +kernel
theorem dX6_see_28 : decode cX6_see 28 = .ok (.sipush 999, 3) := by decide +kernel
theorem dX6_see_31 : decode cX6_see 31 = .ok (.if_icmp .le 6, 3) := by decide +kernel
theorem dX6_see_34 : decode cX6_see 34 = .ok (.bipush (-2), 2) := by decide +kernel
theorem dX6_see_36 : decode cX6_see 36 = .ok (.ireturn, 1) := by decide +kernel
theorem dX6_see_37 : decode cX6_see 37 = .ok (.aload_n 0, 1) := by decide +kernel
theorem dX6_see_38 : decode cX6_see 38 = .ok (.getfield 56, 3) := by decide +kernel
theorem dX6_see_41 : decode cX6_see 41 = .ok (.iload_n 1, 1) := by decide +kernel
theorem dX6_see_42 : decode cX6_see 42 = .ok (.iload_n 2, 1) := by decide +kernel
theorem dX6_see_43 : decode cX6_see 43 = .ok (.iload_n 3, 1) := by decide +kernel
theorem dX6_see_44 : decode cX6_see 44 = .ok (.invokevirtual 208, 3) := by decide +kernel
theorem dX6_see_47 : decode cX6_see 47 = .ok (.ifCond .eq 13, 3) := by decide +kernel
theorem dX6_see_50 : decode cX6_see 50 = .ok (.aload_n 0, 1) := by decide +kernel
theorem dX6_see_51 : decode cX6_see 51 = .ok (.getfield 56, 3) := by decide +kernel
theorem dX6_see_54 : decode cX6_see 54 = .ok (.getfield 114, 3) := by decide +kernel
theorem dX6_see_57 : decode cX6_see 57 = .ok (.goto 5, 3) := by decide +kernel
theorem dX6_see_60 : decode cX6_see 60 = .ok (.bipush (-4), 2) := by decide +kernel
theorem dX6_see_62 : decode cX6_see 62 = .ok (.ireturn, 1) := by decide +kernel
theorem dX6_unsee_0 : decode cX6_unsee 0 = .ok (.aload_n 0, 1) := by decide +kernel
theorem dX6_unsee_1 : decode cX6_unsee 1 = .ok (.getfield 56, 3) := by decide +kernel
theorem dX6_unsee_4 : decode cX6_unsee 4 = .ok (.getfield 114, 3) := by decide +kernel
theorem dX6_unsee_7 : decode cX6_unsee 7 = .ok (.istore_n 1, 1) := by decide +kernel
theorem dX6_unsee_8 : decode cX6_unsee 8 = .ok (.aload_n 0, 1) := by decide +kernel
theorem dX6_unsee_9 : decode cX6_unsee 9 = .ok (.getfield 56, 3) := by decide +kernel
theorem dX6_unsee_12 : decode cX6_unsee 12 = .ok (.iconst 0, 1) := by decide +kernel
theorem dX6_unsee_13 : decode cX6_unsee 13 = .ok (.putfield 114, 3) := by decide +kernel
theorem dX6_unsee_16 : decode cX6_unsee 16 = .ok (.iload_n 1, 1) := by decide +kernel
theorem dX6_unsee_17 : decode cX6_unsee 17 = .ok (.ireturn, 1) := by decide +kernel
theorem dX6_which_0 : decode cX6_which 0 = .ok (.iconst 0, 1) := by decide +kernel
theorem dX6_which_1 : decode cX6_which 1 = .ok (.istore_n 1, 1) := by decide +kernel
theorem dX6_which_2 : decode cX6_which 2 = .ok (.iconst 0, 1) := by decide +kernel
theorem dX6_which_3 : decode cX6_which 3 = .ok (.istore_n 2, 1) := by decide +kernel
theorem dX6_which_4 : decode cX6_which 4 = .ok (.iload_n 2, 1) := by decide +kernel
theorem dX6_which_5 : decode cX6_which 5 = .ok (.aload_n 0, 1) := by decide +kernel
theorem dX6_which_6 : decode cX6_which 6 = .ok (.getfield 19, 3) := by decide +kernel
theorem dX6_which_9 : decode cX6_which 9 = .ok (.getfield 92, 3) := by decide +kernel
theorem dX6_which_12 : decode cX6_which 12 = .ok (.if_icmp .ge 23, 3) := by decide +kernel
theorem dX6_which_15 : decode cX6_which 15 = .ok (.aload_n 0, 1) := by decide +kernel
theorem dX6_which_16 : decode cX6_which 16 = .ok (.iload_n 2, 1) := by decide +kernel
theorem dX6_which_17 : decode cX6_which 17 = .ok (.invokevirtual 211, 3) := by decide +kernel
theorem dX6_which_20 : decode cX6_which 20 = .ok (.ifCond .eq 9, 3) := by decide +kernel
theorem dX6_which_23 : decode cX6_which 23 = .ok (.iload_n 1, 1) := by decide +kernel
theorem dX6_which_24 : decode cX6_which 24 = .ok (.iconst 1, 1) := by decide +kernel
theorem dX6_which_25 : decode cX6_which 25 = .ok (.iload_n 2, 1) := by decide +kernel
theorem dX6_which_26 : decode cX6_which 26 = .ok (.ishl, 1) := by decide +kernel
theorem dX6_which_27 : decode cX6_which 27 = .ok (.ior, 1) := by decide +kernel
theorem dX6_which_28 : decode cX6_which 28 = .ok (.istore_n 1, 1) := by decide +kernel
theorem dX6_which_29 : decode cX6_which 29 = .ok (.iinc 2 1, 3) := by decide +kernel
theorem dX6_which_32 : decode cX6_which 32 = .ok (.goto (-28), 3) := by decide +kernel
theorem dX6_which_35 : decode cX6_which 35 = .ok (.iload_n 1, 1) := by decide +kernel
theorem dX6_which_36 : decode cX6_which 36 = .ok (.ireturn, 1) := by decide +kernel
theorem dX6_mayLie_0 : decode cX6_mayLie 0 = .ok (.aload_n 0, 1) := by decide +kernel
theorem dX6_mayLie_1 : decode cX6_mayLie 1 = .ok (.getfield 39, 3) := by decide +kernel
theorem dX6_mayLie_4 : decode cX6_mayLie 4 = .ok (.aload_n 0, 1) := by decide +kernel
theorem dX6_mayLie_5 : decode cX6_mayLie 5 = .ok (.getfield 35, 3) := by decide +kernel
theorem dX6_mayLie_8 : decode cX6_mayLie 8 = .ok (.invokevirtual 138, 3) := by decide +kernel
theorem dX6_mayLie_11 : decode cX6_mayLie 11 = .ok (.iconst 0, 1) := by decide +kernel
theorem dX6_mayLie_12 : decode cX6_mayLie 12 = .ok (.istore_n 2, 1) := by decide +kernel
theorem dX6_mayLie_13 : decode cX6_mayLie 13 = .ok (.iload_n 2, 1) := by decide +kernel
theorem dX6_mayLie_14 : decode cX6_mayLie 14 = .ok (.bipush 20, 2) := by decide +kernel
theorem dX6_mayLie_16 : decode cX6_mayLie 16 = .ok (.if_icmp .gt 49, 3) := by decide +kernel
theorem dX6_mayLie_19 : decode cX6_mayLie 19 = .ok (.aload_n 0, 1) := by decide +kernel
theorem dX6_mayLie_20 : decode cX6_mayLie 20 = .ok (.getfield 56, 3) := by decide +kernel
theorem dX6_mayLie_23 : decode cX6_mayLie 23 = .ok (.aload_n 0, 1) := by decide +kernel
theorem dX6_mayLie_24 : decode cX6_mayLie 24 = .ok (.getfield 39, 3) := by decide +kernel
theorem dX6_mayLie_27 : decode cX6_mayLie 27 = .ok (.iload_n 2, 1) := by decide +kernel
theorem dX6_mayLie_28 : decode cX6_mayLie 28 = .ok (.aload_n 0, 1) := by decide +kernel
theorem dX6_mayLie_29 : decode cX6_mayLie 29 = .ok (.getfield 19, 3) := by decide +kernel
theorem dX6_mayLie_32 : decode cX6_mayLie 32 = .ok (.getfield 89, 3) := by decide +kernel
theorem dX6_mayLie_35 : decode cX6_mayLie 35 = .ok (.invokevirtual 214, 3) := by decide +kernel
theorem dX6_mayLie_38 : decode cX6_mayLie 38 = .ok (.ifCond .eq 5, 3) := by decide +kernel
theorem dX6_mayLie_41 : decode cX6_mayLie 41 = .ok (.iconst 0, 1) := by decide +kernel
theorem dX6_mayLie_42 : decode cX6_mayLie 42 = .ok (.ireturn, 1) := by decide +kernel
theorem dX6_mayLie_43 : decode cX6_mayLie 43 = .ok (.aload_n 0, 1) := by decide +kernel
theorem dX6_mayLie_44 : decode cX6_mayLie 44 = .ok (.getfield 28, 3) := by decide +kernel
theorem dX6_mayLie_47 : decode cX6_mayLie 47 = .ok (.aload_n 0, 1) := by decide +kernel
theorem dX6_mayLie_48 : decode cX6_mayLie 48 = .ok (.getfield 39, 3) := by decide +kernel
theorem dX6_mayLie_51 : decode cX6_mayLie 51 = .ok (.iconst 1, 1) := by decide +kernel
theorem dX6_mayLie_52 : decode cX6_mayLie 52 = .ok (.iconst 0, 1) := by decide +kernel
theorem dX6_mayLie_53 : decode cX6_mayLie 53 = .ok (.bipush 15, 2) := by decide +kernel
theorem dX6_mayLie_55 : decode cX6_mayLie 55 = .ok (.iload_n 1, 1) := by decide +kernel
theorem dX6_mayLie_56 : decode cX6_mayLie 56 = .ok (.invokevirtual 171, 3) := by decide +kernel
theorem dX6_mayLie_59 : decode cX6_mayLie 59 = .ok (.iinc 2 1, 3) := by decide +kernel
theorem dX6_mayLie_62 : decode cX6_mayLie 62 = .ok (.goto (-49), 3) := by decide +kernel
theorem dX6_mayLie_65 : decode cX6_mayLie 65 = .ok (.iconst 1, 1) := by decide +kernel
theorem dX6_mayLie_66 : decode cX6_mayLie 66 = .ok (.ireturn, 1) := by decide +kernel
theorem dX6_share_0 : decode cX6_share 0 = .ok (.aload_n 0, 1) := by decide +kernel
theorem dX6_share_1 : decode cX6_share 1 = .ok (.getfield 19, 3) := by decide +kernel
theorem dX6_share_4 : decode cX6_share 4 = .ok (.iload_n 1, 1) := by decide +kernel
theorem dX6_share_5 : decode cX6_share 5 = .ok (.invokevirtual 115, 3) := by decide +kernel
theorem dX6_share_8 : decode cX6_share 8 = .ok (.ifCond .ne 5, 3) := by decide +kernel
theorem dX6_share_11 : decode cX6_share 11 = .ok (.iconst (-1), 1) := by decide +kernel
theorem dX6_share_12 : decode cX6_share 12 = .ok (.ireturn, 1) := by decide +kernel
theorem dX6_share_13 : decode cX6_share 13 = .ok (.aload_n 0, 1) := by decide +kernel
theorem dX6_share_14 : decode cX6_share 14 = .ok (.getfield 19, 3) := by decide +kernel
theorem dX6_share_17 : decode cX6_share 17 = .ok (.getfield 89, 3) := by decide +kernel
theorem dX6_share_20 : decode cX6_share 20 = .ok (.iconst 1, 1) := by decide +kernel
theorem dX6_share_21 : decode cX6_share 21 = .ok (.isub, 1) := by decide +kernel
theorem dX6_share_22 : decode cX6_share 22 = .ok (.istore_n 3, 1) := by decide +kernel
theorem dX6_share_23 : decode cX6_share 23 = .ok (.iconst 0, 1) := by decide +kernel
theorem dX6_share_24 : decode cX6_share 24 = .ok (.istore 4, 2) := by decide +kernel
theorem dX6_share_26 : decode cX6_share 26 = .ok (.iconst 0, 1) := by decide +kernel
theorem dX6_share_27 : decode cX6_share 27 = .ok (.istore 5, 2) := by decide +kernel
theorem dX6_share_29 : decode cX6_share 29 = .ok (.iload 5, 2) := by decide +kernel
theorem dX6_share_31 : decode cX6_share 31 = .ok (.iconst 1, 1) := by decide +kernel
theorem dX6_share_32 : decode cX6_share 32 = .ok (.aload_n 0, 1) := by decide +kernel
theorem dX6_share_33 : decode cX6_share 33 = .ok (.getfield 19, 3) := by decide +kernel
theorem dX6_share_36 : decode cX6_share 36 = .ok (.getfield 89, 3) := by decide +kernel
theorem dX6_share_39 : decode cX6_share 39 = .ok (.ishl, 1) := by decide +kernel
theorem dX6_share_40 : decode cX6_share 40 = .ok (.if_icmp .ge 73, 3) := by decide +kernel
theorem dX6_share_43 : decode cX6_share 43 = .ok (.iload 5, 2) := by decide +kernel
theorem dX6_share_45 : decode cX6_share 45 = .ok (.iconst 1, 1) := by decide +kernel
theorem dX6_share_46 : decode cX6_share 46 = .ok (.iload_n 1, 1) := by decide +kernel
theorem dX6_share_47 : decode cX6_share 47 = .ok (.ishl, 1) := by decide +kernel
theorem dX6_share_48 : decode cX6_share 48 = .ok (.iconst (-1), 1) := by decide +kernel
theorem dX6_share_49 : decode cX6_share 49 = .ok (.ixor, 1) := by decide +kernel
theorem dX6_share_50 : decode cX6_share 50 = .ok (.iand, 1) := by decide +kernel
theorem dX6_share_51 : decode cX6_share 51 = .ok (.invokestatic 218, 3) := by decide +kernel
theorem dX6_share_54 : decode cX6_share 54 = .ok (.istore 6, 2) := by decide +kernel
theorem dX6_share_56 : decode cX6_share 56 = .ok (.iload 6, 2) := by decide +kernel
theorem dX6_share_58 : decode cX6_share 58 = .ok (.invokestatic 223, 3) := by decide +kernel
theorem dX6_share_61 : decode cX6_share 61 = .ok (.iload_n 3, 1) := by decide +kernel
theorem dX6_share_62 : decode cX6_share 62 = .ok (.iload 6, 2) := by decide +kernel
theorem dX6_share_64 : decode cX6_share 64 = .ok (.isub, 1) := by decide +kernel
theorem dX6_share_65 : decode cX6_share 65 = .ok (.invokestatic 223, 3) := by decide +kernel
theorem dX6_share_68 : decode cX6_share 68 = .ok (.imul, 1) := by decide +kernel
theorem dX6_share_69 : decode cX6_share 69 = .ok (.istore 7, 2) := by decide +kernel
theorem dX6_share_71 : decode cX6_share 71 = .ok (.iload 4, 2) := by decide +kernel
theorem dX6_share_73 : decode cX6_share 73 = .ok (.iload 5, 2) := by decide +kernel
theorem dX6_share_75 : decode cX6_share 75 = .ok (.iload_n 1, 1) := by decide +kernel
theorem dX6_share_76 : decode cX6_share 76 = .ok (.invokestatic 226, 3) := by decide +kernel
theorem dX6_share_79 : decode cX6_share 79 = .ok (.ifCond .eq 15, 3) := by decide +kernel
theorem dX6_share_82 : decode cX6_share 82 = .ok (.iload 7, 2) := by decide +kernel
theorem dX6_share_84 : decode cX6_share 84 = .ok (.aload_n 0, 1) := by decide +kernel
theorem dX6_share_85 : decode cX6_share 85 = .ok (.iload 5, 2) := by decide +kernel
theorem dX6_share_87 : decode cX6_share 87 = .ok (.invokevirtual 230, 3) := by decide +kernel
theorem dX6_share_90 : decode cX6_share 90 = .ok (.imul, 1) := by decide +kernel
theorem dX6_share_91 : decode cX6_share 91 = .ok (.goto 13, 3) := by decide +kernel
theorem dX6_share_94 : decode cX6_share 94 = .ok (.iload 7, 2) := by decide +kernel
theorem dX6_share_96 : decode cX6_share 96 = .ok (.ineg, 1) := by decide +kernel
theorem dX6_share_97 : decode cX6_share 97 = .ok (.aload_n 0, 1) := by decide +kernel
theorem dX6_share_98 : decode cX6_share 98 = .ok (.iload 5, 2) := by decide +kernel
theorem dX6_share_100 : decode cX6_share 100 = .ok (.invokevirtual 230, 3) := by decide +kernel
theorem dX6_share_103 : decode cX6_share 103 = .ok (.imul, 1) := by decide +kernel
theorem dX6_share_104 : decode cX6_share 104 = .ok (.iadd, 1) := by decide +kernel
theorem dX6_share_105 : decode cX6_share 105 = .ok (.istore 4, 2) := by decide +kernel
theorem dX6_share_107 : decode cX6_share 107 = .ok (.iinc 5 1, 3) := by decide +kernel
theorem dX6_share_110 : decode cX6_share 110 = .ok (.goto (-81), 3) := by decide +kernel
theorem dX6_share_113 : decode cX6_share 113 = .ok (.iload 4, 2) := by decide +kernel
theorem dX6_share_115 : decode cX6_share 115 = .ok (.aload_n 0, 1) := by decide +kernel
theorem dX6_share_116 : decode cX6_share 116 = .ok (.getfield 19, 3) := by decide +kernel
theorem dX6_share_119 : decode cX6_share 119 = .ok (.getfield 89, 3) := by decide +kernel
theorem dX6_share_122 : decode cX6_share 122 = .ok (.invokestatic 223, 3) := by decide +kernel
theorem dX6_share_125 : decode cX6_share 125 = .ok (.iload_n 2, 1) := by decide +kernel
theorem dX6_share_126 : decode cX6_share 126 = .ok (.invokestatic 233, 3) := by decide +kernel
theorem dX6_share_129 : decode cX6_share 129 = .ok (.ireturn, 1) := by decide +kernel
theorem dX6_worth_0 : decode cX6_worth 0 = .ok (.aload_n 0, 1) := by decide +kernel
theorem dX6_worth_1 : decode cX6_worth 1 = .ok (.getfield 39, 3) := by decide +kernel
theorem dX6_worth_4 : decode cX6_worth 4 = .ok (.aload_n 0, 1) := by decide +kernel
theorem dX6_worth_5 : decode cX6_worth 5 = .ok (.getfield 35, 3) := by decide +kernel
theorem dX6_worth_8 : decode cX6_worth 8 = .ok (.invokevirtual 138, 3) := by decide +kernel
theorem dX6_worth_11 : decode cX6_worth 11 = .ok (.aload_n 0, 1) := by decide +kernel
theorem dX6_worth_12 : decode cX6_worth 12 = .ok (.getfield 28, 3) := by decide +kernel
theorem dX6_worth_15 : decode cX6_worth 15 = .ok (.aload_n 0, 1) := by decide +kernel
theorem dX6_worth_16 : decode cX6_worth 16 = .ok (.getfield 39, 3) := by decide +kernel
theorem dX6_worth_19 : decode cX6_worth 19 = .ok (.bipush 20, 2) := by decide +kernel
theorem dX6_worth_21 : decode cX6_worth 21 = .ok (.iconst 0, 1) := by decide +kernel
theorem dX6_worth_22 : decode cX6_worth 22 = .ok (.iload_n 1, 1) := by decide +kernel
theorem dX6_worth_23 : decode cX6_worth 23 = .ok (.iconst (-1), 1) := by decide +kernel
theorem dX6_worth_24 : decode cX6_worth 24 = .ok (.invokevirtual 171, 3) := by decide +kernel
theorem dX6_worth_27 : decode cX6_worth 27 = .ok (.aload_n 0, 1) := by decide +kernel
theorem dX6_worth_28 : decode cX6_worth 28 = .ok (.getfield 39, 3) := by decide +kernel
theorem dX6_worth_31 : decode cX6_worth 31 = .ok (.invokevirtual 108, 3) := by decide +kernel
theorem dX6_worth_34 : decode cX6_worth 34 = .ok (.ireturn, 1) := by decide +kernel
theorem dX6_chance_0 : decode cX6_chance 0 = .ok (.iload_n 1, 1) := by decide +kernel
theorem dX6_chance_1 : decode cX6_chance 1 = .ok (.iconst 1, 1) := by decide +kernel
theorem dX6_chance_2 : decode cX6_chance 2 = .ok (.if_icmp .lt 19, 3) := by decide +kernel
theorem dX6_chance_5 : decode cX6_chance 5 = .ok (.iload_n 1, 1) := by decide +kernel
theorem dX6_chance_6 : decode cX6_chance 6 = .ok (.bipush 9, 2) := by decide +kernel
theorem dX6_chance_8 : decode cX6_chance 8 = .ok (.if_icmp .gt 13, 3) := by decide +kernel
theorem dX6_chance_11 : decode cX6_chance 11 = .ok (.iload_n 2, 1) := by decide +kernel
theorem dX6_chance_12 : decode cX6_chance 12 = .ok (.ifCond .lt 9, 3) := by decide +kernel
theorem dX6_chance_15 : decode cX6_chance 15 = .ok (.iload_n 2, 1) := by decide +kernel
theorem dX6_chance_16 : decode cX6_chance 16 = .ok (.bipush 10, 2) := by decide +kernel
theorem dX6_chance_18 : decode cX6_chance 18 = .ok (.if_icmp .le 6, 3) := by decide +kernel
theorem dX6_chance_21 : decode cX6_chance 21 = .ok (.bipush (-2), 2) := by decide +kernel
theorem dX6_chance_23 : decode cX6_chance 23 = .ok (.ireturn, 1) := by decide +kernel
theorem dX6_chance_24 : decode cX6_chance 24 = .ok (.iconst 0, 1) := by decide +kernel
theorem dX6_chance_25 : decode cX6_chance 25 = .ok (.istore 4, 2) := by decide +kernel
theorem dX6_chance_27 : decode cX6_chance 27 = .ok (.iconst 0, 1) := by decide +kernel
theorem dX6_chance_28 : decode cX6_chance 28 = .ok (.istore 5, 2) := by decide +kernel
theorem dX6_chance_30 : decode cX6_chance 30 = .ok (.iload 5, 2) := by decide +kernel
theorem dX6_chance_32 : decode cX6_chance 32 = .ok (.iconst 1, 1) := by decide +kernel
theorem dX6_chance_33 : decode cX6_chance 33 = .ok (.aload_n 0, 1) := by decide +kernel
theorem dX6_chance_34 : decode cX6_chance 34 = .ok (.getfield 19, 3) := by decide +kernel
theorem dX6_chance_37 : decode cX6_chance 37 = .ok (.getfield 89, 3) := by decide +kernel
theorem dX6_chance_40 : decode cX6_chance 40 = .ok (.ishl, 1) := by decide +kernel
theorem dX6_chance_41 : decode cX6_chance 41 = .ok (.if_icmp .ge 84, 3) := by decide +kernel
theorem dX6_chance_44 : decode cX6_chance 44 = .ok (.aload_n 0, 1) := by decide +kernel
theorem dX6_chance_45 : decode cX6_chance 45 = .ok (.getfield 39, 3) := by decide +kernel
theorem dX6_chance_48 : decode cX6_chance 48 = .ok (.aload_n 0, 1) := by decide +kernel
theorem dX6_chance_49 : decode cX6_chance 49 = .ok (.getfield 35, 3) := by decide +kernel
theorem dX6_chance_52 : decode cX6_chance 52 = .ok (.invokevirtual 138, 3) := by decide +kernel
theorem dX6_chance_55 : decode cX6_chance 55 = .ok (.aload_n 0, 1) := by decide +kernel
theorem dX6_chance_56 : decode cX6_chance 56 = .ok (.getfield 28, 3) := by decide +kernel
theorem dX6_chance_59 : decode cX6_chance 59 = .ok (.aload_n 0, 1) := by decide +kernel
theorem dX6_chance_60 : decode cX6_chance 60 = .ok (.getfield 39, 3) := by decide +kernel
theorem dX6_chance_63 : decode cX6_chance 63 = .ok (.iload_n 1, 1) := by decide +kernel
theorem dX6_chance_64 : decode cX6_chance 64 = .ok (.iload 5, 2) := by decide +kernel
theorem dX6_chance_66 : decode cX6_chance 66 = .ok (.bipush 15, 2) := by decide +kernel
theorem dX6_chance_68 : decode cX6_chance 68 = .ok (.iconst (-1), 1) := by decide +kernel
theorem dX6_chance_69 : decode cX6_chance 69 = .ok (.invokevirtual 171, 3) := by decide +kernel
theorem dX6_chance_72 : decode cX6_chance 72 = .ok (.aload_n 0, 1) := by decide +kernel
theorem dX6_chance_73 : decode cX6_chance 73 = .ok (.getfield 39, 3) := by decide +kernel
theorem dX6_chance_76 : decode cX6_chance 76 = .ok (.iconst 4, 1) := by decide +kernel
theorem dX6_chance_77 : decode cX6_chance 77 = .ok (.invokevirtual 104, 3) := by decide +kernel
theorem dX6_chance_80 : decode cX6_chance 80 = .ok (.ifCond .ne 39, 3) := by decide +kernel
theorem dX6_chance_83 : decode cX6_chance 83 = .ok (.iload 5, 2) := by decide +kernel
theorem dX6_chance_85 : decode cX6_chance 85 = .ok (.invokestatic 218, 3) := by decide +kernel
theorem dX6_chance_88 : decode cX6_chance 88 = .ok (.istore 6, 2) := by decide +kernel
theorem dX6_chance_90 : decode cX6_chance 90 = .ok (.iload 4, 2) := by decide +kernel
theorem dX6_chance_92 : decode cX6_chance 92 = .ok (.iload_n 2, 1) := by decide +kernel
theorem dX6_chance_93 : decode cX6_chance 93 = .ok (.iload 6, 2) := by decide +kernel
theorem dX6_chance_95 : decode cX6_chance 95 = .ok (.invokestatic 182, 3) := by decide +kernel
theorem dX6_chance_98 : decode cX6_chance 98 = .ok (.bipush 10, 2) := by decide +kernel
theorem dX6_chance_100 : decode cX6_chance 100 = .ok (.iload_n 2, 1) := by decide +kernel
theorem dX6_chance_101 : decode cX6_chance 101 = .ok (.isub, 1) := by decide +kernel
theorem dX6_chance_102 : decode cX6_chance 102 = .ok (.aload_n 0, 1) := by decide +kernel
theorem dX6_chance_103 : decode cX6_chance 103 = .ok (.getfield 19, 3) := by decide +kernel
theorem dX6_chance_106 : decode cX6_chance 106 = .ok (.getfield 89, 3) := by decide +kernel
theorem dX6_chance_109 : decode cX6_chance 109 = .ok (.iload 6, 2) := by decide +kernel
theorem dX6_chance_111 : decode cX6_chance 111 = .ok (.isub, 1) := by decide +kernel
theorem dX6_chance_112 : decode cX6_chance 112 = .ok (.invokestatic 182, 3) := by decide +kernel
theorem dX6_chance_115 : decode cX6_chance 115 = .ok (.imul, 1) := by decide +kernel
theorem dX6_chance_116 : decode cX6_chance 116 = .ok (.iadd, 1) := by decide +kernel
theorem dX6_chance_117 : decode cX6_chance 117 = .ok (.istore 4, 2) := by decide +kernel
theorem dX6_chance_119 : decode cX6_chance 119 = .ok (.iinc 5 1, 3) := by decide +kernel
theorem dX6_chance_122 : decode cX6_chance 122 = .ok (.goto (-92), 3) := by decide +kernel
theorem dX6_chance_125 : decode cX6_chance 125 = .ok (.iload 4, 2) := by decide +kernel
theorem dX6_chance_127 : decode cX6_chance 127 = .ok (.bipush 10, 2) := by decide +kernel
theorem dX6_chance_129 : decode cX6_chance 129 = .ok (.aload_n 0, 1) := by decide +kernel
theorem dX6_chance_130 : decode cX6_chance 130 = .ok (.getfield 19, 3) := by decide +kernel
theorem dX6_chance_133 : decode cX6_chance 133 = .ok (.getfield 89, 3) := by decide +kernel
theorem dX6_chance_136 : decode cX6_chance 136 = .ok (.invokestatic 182, 3) := by decide +kernel
theorem dX6_chance_139 : decode cX6_chance 139 = .ok (.iload_n 3, 1) := by decide +kernel
theorem dX6_chance_140 : decode cX6_chance 140 = .ok (.invokestatic 233, 3) := by decide +kernel
theorem dX6_chance_143 : decode cX6_chance 143 = .ok (.ireturn, 1) := by decide +kernel
theorem dX6_seed_0 : decode cX6_seed 0 = .ok (.aload_n 0, 1) := by decide +kernel
theorem dX6_seed_1 : decode cX6_seed 1 = .ok (.getfield 237, 3) := by decide +kernel
theorem dX6_seed_4 : decode cX6_seed 4 = .ok (.lstore_n 3, 1) := by decide +kernel
theorem dX6_seed_5 : decode cX6_seed 5 = .ok (.aload_n 0, 1) := by decide +kernel
theorem dX6_seed_6 : decode cX6_seed 6 = .ok (.lload_n 1, 1) := by decide +kernel
theorem dX6_seed_7 : decode cX6_seed 7 = .ok (.putfield 237, 3) := by decide +kernel
theorem dX6_seed_10 : decode cX6_seed 10 = .ok (.lload_n 3, 1) := by decide +kernel
theorem dX6_seed_11 : decode cX6_seed 11 = .ok (.lreturn, 1) := by decide +kernel
theorem dX6_drawn_0 : decode cX6_drawn 0 = .ok (.iload_n 1, 1) := by decide +kernel
theorem dX6_drawn_1 : decode cX6_drawn 1 = .ok (.iconst 1, 1) := by decide +kernel
theorem dX6_drawn_2 : decode cX6_drawn 2 = .ok (.if_icmp .lt 9, 3) := by decide +kernel
theorem dX6_drawn_5 : decode cX6_drawn 5 = .ok (.iload_n 1, 1) := by decide +kernel
theorem dX6_drawn_6 : decode cX6_drawn 6 = .ok (.bipush 20, 2) := by decide +kernel
theorem dX6_drawn_8 : decode cX6_drawn 8 = .ok (.if_icmp .le 6, 3) := by decide +kernel
theorem dX6_drawn_11 : decode cX6_drawn 11 = .ok (.bipush (-2), 2) := by decide +kernel
theorem dX6_drawn_13 : decode cX6_drawn 13 = .ok (.ireturn, 1) := by decide +kernel
theorem dX6_drawn_14 : decode cX6_drawn 14 = .ok (.aload_n 0, 1) := by decide +kernel
theorem dX6_drawn_15 : decode cX6_drawn 15 = .ok (.getfield 39, 3) := by decide +kernel
theorem dX6_drawn_18 : decode cX6_drawn 18 = .ok (.aload_n 0, 1) := by decide +kernel
theorem dX6_drawn_19 : decode cX6_drawn 19 = .ok (.getfield 35, 3) := by decide +kernel
theorem dX6_drawn_22 : decode cX6_drawn 22 = .ok (.invokevirtual 138, 3) := by decide +kernel
theorem dX6_drawn_25 : decode cX6_drawn 25 = .ok (.iconst 0, 1) := by decide +kernel
theorem dX6_drawn_26 : decode cX6_drawn 26 = .ok (.istore_n 2, 1) := by decide +kernel
theorem dX6_drawn_27 : decode cX6_drawn 27 = .ok (.iconst 0, 1) := by decide +kernel
theorem dX6_drawn_28 : decode cX6_drawn 28 = .ok (.istore_n 3, 1) := by decide +kernel
theorem dX6_drawn_29 : decode cX6_drawn 29 = .ok (.iload_n 3, 1) := by decide +kernel
theorem dX6_drawn_30 : decode cX6_drawn 30 = .ok (.iload_n 1, 1) := by decide +kernel
theorem dX6_drawn_31 : decode cX6_drawn 31 = .ok (.if_icmp .ge 47, 3) := by decide +kernel
theorem dX6_drawn_34 : decode cX6_drawn 34 = .ok (.aload_n 0, 1) := by decide +kernel
theorem dX6_drawn_35 : decode cX6_drawn 35 = .ok (.aload_n 0, 1) := by decide +kernel
theorem dX6_drawn_36 : decode cX6_drawn 36 = .ok (.getfield 237, 3) := by decide +kernel
theorem dX6_drawn_39 : decode cX6_drawn 39 = .ok (.ldc2_w 241, 3) := by decide +kernel
theorem dX6_drawn_42 : decode cX6_drawn 42 = .ok (.lmul, 1) := by decide +kernel
theorem dX6_drawn_43 : decode cX6_drawn 43 = .ok (.ldc2_w 243, 3) := by decide +kernel
theorem dX6_drawn_46 : decode cX6_drawn 46 = .ok (.ladd, 1) := by decide +kernel
theorem dX6_drawn_47 : decode cX6_drawn 47 = .ok (.putfield 237, 3) := by decide +kernel
theorem dX6_drawn_50 : decode cX6_drawn 50 = .ok (.aload_n 0, 1) := by decide +kernel
theorem dX6_drawn_51 : decode cX6_drawn 51 = .ok (.aload_n 0, 1) := by decide +kernel
theorem dX6_drawn_52 : decode cX6_drawn 52 = .ok (.getfield 237, 3) := by decide +kernel
theorem dX6_drawn_55 : decode cX6_drawn 55 = .ok (.bipush 33, 2) := by decide +kernel
theorem dX6_drawn_57 : decode cX6_drawn 57 = .ok (.lushr, 1) := by decide +kernel
theorem dX6_drawn_58 : decode cX6_drawn 58 = .ok (.l2i, 1) := by decide +kernel
theorem dX6_drawn_59 : decode cX6_drawn 59 = .ok (.invokevirtual 245, 3) := by decide +kernel
theorem dX6_drawn_62 : decode cX6_drawn 62 = .ok (.iload_n 2, 1) := by decide +kernel
theorem dX6_drawn_63 : decode cX6_drawn 63 = .ok (.aload_n 0, 1) := by decide +kernel
theorem dX6_drawn_64 : decode cX6_drawn 64 = .ok (.getfield 39, 3) := by decide +kernel
theorem dX6_drawn_67 : decode cX6_drawn 67 = .ok (.invokevirtual 108, 3) := by decide +kernel
theorem dX6_drawn_70 : decode cX6_drawn 70 = .ok (.iadd, 1) := by decide +kernel
theorem dX6_drawn_71 : decode cX6_drawn 71 = .ok (.istore_n 2, 1) := by decide +kernel
theorem dX6_drawn_72 : decode cX6_drawn 72 = .ok (.iinc 3 1, 3) := by decide +kernel
theorem dX6_drawn_75 : decode cX6_drawn 75 = .ok (.goto (-46), 3) := by decide +kernel
theorem dX6_drawn_78 : decode cX6_drawn 78 = .ok (.iload_n 2, 1) := by decide +kernel
theorem dX6_drawn_79 : decode cX6_drawn 79 = .ok (.ireturn, 1) := by decide +kernel
theorem dX6_tryStep_0 : decode cX6_tryStep 0 = .ok (.iload_n 1, 1) := by decide +kernel
theorem dX6_tryStep_1 : decode cX6_tryStep 1 = .ok (.iconst 4, 1) := by decide +kernel
theorem dX6_tryStep_2 : decode cX6_tryStep 2 = .ok (.idiv, 1) := by decide +kernel
theorem dX6_tryStep_3 : decode cX6_tryStep 3 = .ok (.bipush 7, 2) := by decide +kernel
theorem dX6_tryStep_5 : decode cX6_tryStep 5 = .ok (.irem, 1) := by decide +kernel
theorem dX6_tryStep_6 : decode cX6_tryStep 6 = .ok (.istore_n 2, 1) := by decide +kernel
theorem dX6_tryStep_7 : decode cX6_tryStep 7 = .ok (.iload_n 2, 1) := by decide +kernel
theorem dX6_tryStep_8 : decode cX6_tryStep 8 = .ok (.iconst 5, 1) := by decide +kernel
theorem dX6_tryStep_9 : decode cX6_tryStep 9 = .ok (.if_icmp .le 23, 3) := by decide +kernel
theorem dX6_tryStep_12 : decode cX6_tryStep 12 = .ok (.aload_n 0, 1) := by decide +kernel
theorem dX6_tryStep_13 : decode cX6_tryStep 13 = .ok (.getfield 28, 3) := by decide +kernel
theorem dX6_tryStep_16 : decode cX6_tryStep 16 = .ok (.aload_n 0, 1) := by decide +kernel
theorem dX6_tryStep_17 : decode cX6_tryStep 17 = .ok (.getfield 39, 3) := by decide +kernel
theorem dX6_tryStep_20 : decode cX6_tryStep 20 = .ok (.iconst 1, 1) := by decide +kernel
theorem dX6_tryStep_21 : decode cX6_tryStep 21 = .ok (.bipush 15, 2) := by decide +kernel
theorem dX6_tryStep_23 : decode cX6_tryStep 23 = .ok (.bipush 15, 2) := by decide +kernel
theorem dX6_tryStep_25 : decode cX6_tryStep 25 = .ok (.iconst (-1), 1) := by decide +kernel
theorem dX6_tryStep_26 : decode cX6_tryStep 26 = .ok (.invokevirtual 171, 3) := by decide +kernel
theorem dX6_tryStep_29 : decode cX6_tryStep 29 = .ok (.goto 19, 3) := by decide +kernel
theorem dX6_tryStep_32 : decode cX6_tryStep 32 = .ok (.aload_n 0, 1) := by decide +kernel
theorem dX6_tryStep_33 : decode cX6_tryStep 33 = .ok (.getfield 28, 3) := by decide +kernel
theorem dX6_tryStep_36 : decode cX6_tryStep 36 = .ok (.aload_n 0, 1) := by decide +kernel
theorem dX6_tryStep_37 : decode cX6_tryStep 37 = .ok (.getfield 39, 3) := by decide +kernel
theorem dX6_tryStep_40 : decode cX6_tryStep 40 = .ok (.iload_n 1, 1) := by decide +kernel
theorem dX6_tryStep_41 : decode cX6_tryStep 41 = .ok (.iconst 4, 1) := by decide +kernel
theorem dX6_tryStep_42 : decode cX6_tryStep 42 = .ok (.irem, 1) := by decide +kernel
theorem dX6_tryStep_43 : decode cX6_tryStep 43 = .ok (.iload_n 2, 1) := by decide +kernel
theorem dX6_tryStep_44 : decode cX6_tryStep 44 = .ok (.invokevirtual 155, 3) := by decide +kernel
theorem dX6_tryStep_47 : decode cX6_tryStep 47 = .ok (.pop, 1) := by decide +kernel
theorem dX6_tryStep_48 : decode cX6_tryStep 48 = .ok (.return_, 1) := by decide +kernel
theorem dX6_keep_0 : decode cX6_keep 0 = .ok (.iload_n 1, 1) := by decide +kernel
theorem dX6_keep_1 : decode cX6_keep 1 = .ok (.ifCond .lt 8, 3) := by decide +kernel
theorem dX6_keep_4 : decode cX6_keep 4 = .ok (.iload_n 1, 1) := by decide +kernel
theorem dX6_keep_5 : decode cX6_keep 5 = .ok (.iconst 2, 1) := by decide +kernel
theorem dX6_keep_6 : decode cX6_keep 6 = .ok (.if_icmp .lt 5, 3) := by decide +kernel
theorem dX6_keep_9 : decode cX6_keep 9 = .ok (.iconst (-1), 1) := by decide +kernel
theorem dX6_keep_10 : decode cX6_keep 10 = .ok (.ireturn, 1) := by decide +kernel
theorem dX6_keep_11 : decode cX6_keep 11 = .ok (.aload_n 0, 1) := by decide +kernel
theorem dX6_keep_12 : decode cX6_keep 12 = .ok (.getfield 49, 3) := by decide +kernel
theorem dX6_keep_15 : decode cX6_keep 15 = .ok (.iload_n 1, 1) := by decide +kernel
theorem dX6_keep_16 : decode cX6_keep 16 = .ok (.aaload, 1) := by decide +kernel
theorem dX6_keep_17 : decode cX6_keep 17 = .ok (.aload_n 0, 1) := by decide +kernel
theorem dX6_keep_18 : decode cX6_keep 18 = .ok (.getfield 35, 3) := by decide +kernel
theorem dX6_keep_21 : decode cX6_keep 21 = .ok (.invokevirtual 138, 3) := by decide +kernel
theorem dX6_keep_24 : decode cX6_keep 24 = .ok (.aload_n 0, 1) := by decide +kernel
theorem dX6_keep_25 : decode cX6_keep 25 = .ok (.dup, 1) := by decide +kernel
theorem dX6_keep_26 : decode cX6_keep 26 = .ok (.getfield 86, 3) := by decide +kernel
theorem dX6_keep_29 : decode cX6_keep 29 = .ok (.iconst 1, 1) := by decide +kernel
theorem dX6_keep_30 : decode cX6_keep 30 = .ok (.iload_n 1, 1) := by decide +kernel
theorem dX6_keep_31 : decode cX6_keep 31 = .ok (.ishl, 1) := by decide +kernel
theorem dX6_keep_32 : decode cX6_keep 32 = .ok (.ior, 1) := by decide +kernel
theorem dX6_keep_33 : decode cX6_keep 33 = .ok (.putfield 86, 3) := by decide +kernel
theorem dX6_keep_36 : decode cX6_keep 36 = .ok (.aload_n 0, 1) := by decide +kernel
theorem dX6_keep_37 : decode cX6_keep 37 = .ok (.getfield 35, 3) := by decide +kernel
theorem dX6_keep_40 : decode cX6_keep 40 = .ok (.getfield 101, 3) := by decide +kernel
theorem dX6_keep_43 : decode cX6_keep 43 = .ok (.ireturn, 1) := by decide +kernel
theorem dX6_again_0 : decode cX6_again 0 = .ok (.iload_n 1, 1) := by decide +kernel
theorem dX6_again_1 : decode cX6_again 1 = .ok (.ifCond .lt 8, 3) := by decide +kernel
theorem dX6_again_4 : decode cX6_again 4 = .ok (.iload_n 1, 1) := by decide +kernel
theorem dX6_again_5 : decode cX6_again 5 = .ok (.iconst 2, 1) := by decide +kernel
theorem dX6_again_6 : decode cX6_again 6 = .ok (.if_icmp .lt 5, 3) := by decide +kernel
theorem dX6_again_9 : decode cX6_again 9 = .ok (.iconst (-1), 1) := by decide +kernel
theorem dX6_again_10 : decode cX6_again 10 = .ok (.ireturn, 1) := by decide +kernel
theorem dX6_again_11 : decode cX6_again 11 = .ok (.aload_n 0, 1) := by decide +kernel
theorem dX6_again_12 : decode cX6_again 12 = .ok (.getfield 86, 3) := by decide +kernel
theorem dX6_again_15 : decode cX6_again 15 = .ok (.iload_n 1, 1) := by decide +kernel
theorem dX6_again_16 : decode cX6_again 16 = .ok (.invokestatic 226, 3) := by decide +kernel
theorem dX6_again_19 : decode cX6_again 19 = .ok (.ifCond .ne 6, 3) := by decide +kernel
theorem dX6_again_22 : decode cX6_again 22 = .ok (.bipush (-3), 2) := by decide +kernel
theorem dX6_again_24 : decode cX6_again 24 = .ok (.ireturn, 1) := by decide +kernel
theorem dX6_again_25 : decode cX6_again 25 = .ok (.aload_n 0, 1) := by decide +kernel
theorem dX6_again_26 : decode cX6_again 26 = .ok (.getfield 35, 3) := by decide +kernel
theorem dX6_again_29 : decode cX6_again 29 = .ok (.aload_n 0, 1) := by decide +kernel
theorem dX6_again_30 : decode cX6_again 30 = .ok (.getfield 49, 3) := by decide +kernel
theorem dX6_again_33 : decode cX6_again 33 = .ok (.iload_n 1, 1) := by decide +kernel
theorem dX6_again_34 : decode cX6_again 34 = .ok (.aaload, 1) := by decide +kernel
theorem dX6_again_35 : decode cX6_again 35 = .ok (.invokevirtual 138, 3) := by decide +kernel
theorem dX6_again_38 : decode cX6_again 38 = .ok (.aload_n 0, 1) := by decide +kernel
theorem dX6_again_39 : decode cX6_again 39 = .ok (.getfield 45, 3) := by decide +kernel
theorem dX6_again_42 : decode cX6_again 42 = .ok (.iconst 0, 1) := by decide +kernel
theorem dX6_again_43 : decode cX6_again 43 = .ok (.putfield 83, 3) := by decide +kernel
theorem dX6_again_46 : decode cX6_again 46 = .ok (.aload_n 0, 1) := by decide +kernel
theorem dX6_again_47 : decode cX6_again 47 = .ok (.getfield 35, 3) := by decide +kernel
theorem dX6_again_50 : decode cX6_again 50 = .ok (.getfield 101, 3) := by decide +kernel
theorem dX6_again_53 : decode cX6_again 53 = .ok (.ireturn, 1) := by decide +kernel
theorem dX6_has_0 : decode cX6_has 0 = .ok (.iload_n 0, 1) := by decide +kernel
theorem dX6_has_1 : decode cX6_has 1 = .ok (.iload_n 1, 1) := by decide +kernel
theorem dX6_has_2 : decode cX6_has 2 = .ok (.ishr, 1) := by decide +kernel
theorem dX6_has_3 : decode cX6_has 3 = .ok (.iconst 1, 1) := by decide +kernel
theorem dX6_has_4 : decode cX6_has 4 = .ok (.iand, 1) := by decide +kernel
theorem dX6_has_5 : decode cX6_has 5 = .ok (.iconst 1, 1) := by decide +kernel
theorem dX6_has_6 : decode cX6_has 6 = .ok (.if_icmp .ne 7, 3) := by decide +kernel
theorem dX6_has_9 : decode cX6_has 9 = .ok (.iconst 1, 1) := by decide +kernel
theorem dX6_has_10 : decode cX6_has 10 = .ok (.goto 4, 3) := by decide +kernel
theorem dX6_has_13 : decode cX6_has 13 = .ok (.iconst 0, 1) := by decide +kernel
theorem dX6_has_14 : decode cX6_has 14 = .ok (.ireturn, 1) := by decide +kernel
theorem dX6_nextSign_0 : decode cX6_nextSign 0 = .ok (.bipush 31, 2) := by decide +kernel
theorem dX6_nextSign_2 : decode cX6_nextSign 2 = .ok (.iload_n 0, 1) := by decide +kernel
theorem dX6_nextSign_3 : decode cX6_nextSign 3 = .ok (.imul, 1) := by decide +kernel
theorem dX6_nextSign_4 : decode cX6_nextSign 4 = .ok (.bipush 7, 2) := by decide +kernel
theorem dX6_nextSign_6 : decode cX6_nextSign 6 = .ok (.iload_n 2, 1) := by decide +kernel
theorem dX6_nextSign_7 : decode cX6_nextSign 7 = .ok (.imul, 1) := by decide +kernel
theorem dX6_nextSign_8 : decode cX6_nextSign 8 = .ok (.iadd, 1) := by decide +kernel
theorem dX6_nextSign_9 : decode cX6_nextSign 9 = .ok (.iload_n 1, 1) := by decide +kernel
theorem dX6_nextSign_10 : decode cX6_nextSign 10 = .ok (.iadd, 1) := by decide +kernel
theorem dX6_nextSign_11 : decode cX6_nextSign 11 = .ok (.iconst 1, 1) := by decide +kernel
theorem dX6_nextSign_12 : decode cX6_nextSign 12 = .ok (.iadd, 1) := by decide +kernel
theorem dX6_nextSign_13 : decode cX6_nextSign 13 = .ok (.sipush 9973, 3) := by decide +kernel
theorem dX6_nextSign_16 : decode cX6_nextSign 16 = .ok (.irem, 1) := by decide +kernel
theorem dX6_nextSign_17 : decode cX6_nextSign 17 = .ok (.ireturn, 1) := by decide +kernel
theorem dX6_power_0 : decode cX6_power 0 = .ok (.iconst 1, 1) := by decide +kernel
theorem dX6_power_1 : decode cX6_power 1 = .ok (.istore_n 2, 1) := by decide +kernel
theorem dX6_power_2 : decode cX6_power 2 = .ok (.iconst 0, 1) := by decide +kernel
theorem dX6_power_3 : decode cX6_power 3 = .ok (.istore_n 3, 1) := by decide +kernel
theorem dX6_power_4 : decode cX6_power 4 = .ok (.iload_n 3, 1) := by decide +kernel
theorem dX6_power_5 : decode cX6_power 5 = .ok (.iload_n 1, 1) := by decide +kernel
theorem dX6_power_6 : decode cX6_power 6 = .ok (.if_icmp .ge 13, 3) := by decide +kernel
theorem dX6_power_9 : decode cX6_power 9 = .ok (.iload_n 2, 1) := by decide +kernel
theorem dX6_power_10 : decode cX6_power 10 = .ok (.iload_n 0, 1) := by decide +kernel
theorem dX6_power_11 : decode cX6_power 11 = .ok (.imul, 1) := by decide +kernel
theorem dX6_power_12 : decode cX6_power 12 = .ok (.istore_n 2, 1) := by decide +kernel
theorem dX6_power_13 : decode cX6_power 13 = .ok (.iinc 3 1, 3) := by decide +kernel
theorem dX6_power_16 : decode cX6_power 16 = .ok (.goto (-12), 3) := by decide +kernel
theorem dX6_power_19 : decode cX6_power 19 = .ok (.iload_n 2, 1) := by decide +kernel
theorem dX6_power_20 : decode cX6_power 20 = .ok (.ireturn, 1) := by decide +kernel
theorem dX6_factorial_0 : decode cX6_factorial 0 = .ok (.iconst 1, 1) := by decide +kernel
theorem dX6_factorial_1 : decode cX6_factorial 1 = .ok (.istore_n 1, 1) := by decide +kernel
theorem dX6_factorial_2 : decode cX6_factorial 2 = .ok (.iconst 2, 1) := by decide +kernel
theorem dX6_factorial_3 : decode cX6_factorial 3 = .ok (.istore_n 2, 1) := by decide +kernel
theorem dX6_factorial_4 : decode cX6_factorial 4 = .ok (.iload_n 2, 1) := by decide +kernel
theorem dX6_factorial_5 : decode cX6_factorial 5 = .ok (.iload_n 0, 1) := by decide +kernel
theorem dX6_factorial_6 : decode cX6_factorial 6 = .ok (.if_icmp .gt 13, 3) := by decide +kernel
theorem dX6_factorial_9 : decode cX6_factorial 9 = .ok (.iload_n 1, 1) := by decide +kernel
theorem dX6_factorial_10 : decode cX6_factorial 10 = .ok (.iload_n 2, 1) := by decide +kernel
theorem dX6_factorial_11 : decode cX6_factorial 11 = .ok (.imul, 1) := by decide +kernel
theorem dX6_factorial_12 : decode cX6_factorial 12 = .ok (.istore_n 1, 1) := by decide +kernel
theorem dX6_factorial_13 : decode cX6_factorial 13 = .ok (.iinc 2 1, 3) := by decide +kernel
theorem dX6_factorial_16 : decode cX6_factorial 16 = .ok (.goto (-12), 3) := by decide +kernel
theorem dX6_factorial_19 : decode cX6_factorial 19 = .ok (.iload_n 1, 1) := by decide +kernel
theorem dX6_factorial_20 : decode cX6_factorial 20 = .ok (.ireturn, 1) := by decide +kernel
theorem dX6_lowest_0 : decode cX6_lowest 0 = .ok (.iload_n 0, 1) := by decide +kernel
theorem dX6_lowest_1 : decode cX6_lowest 1 = .ok (.invokestatic 249, 3) := by decide +kernel
theorem dX6_lowest_4 : decode cX6_lowest 4 = .ok (.iload_n 1, 1) := by decide +kernel
theorem dX6_lowest_5 : decode cX6_lowest 5 = .ok (.invokestatic 252, 3) := by decide +kernel
theorem dX6_lowest_8 : decode cX6_lowest 8 = .ok (.istore_n 3, 1) := by decide +kernel
theorem dX6_lowest_9 : decode cX6_lowest 9 = .ok (.iload_n 3, 1) := by decide +kernel
theorem dX6_lowest_10 : decode cX6_lowest 10 = .ok (.ifCond .ne 13, 3) := by decide +kernel
theorem dX6_lowest_13 : decode cX6_lowest 13 = .ok (.iload_n 2, 1) := by decide +kernel
theorem dX6_lowest_14 : decode cX6_lowest 14 = .ok (.ifCond .eq 7, 3) := by decide +kernel
theorem dX6_lowest_17 : decode cX6_lowest 17 = .ok (.iload_n 0, 1) := by decide +kernel
theorem dX6_lowest_18 : decode cX6_lowest 18 = .ok (.goto 4, 3) := by decide +kernel
theorem dX6_lowest_21 : decode cX6_lowest 21 = .ok (.iload_n 1, 1) := by decide +kernel
theorem dX6_lowest_22 : decode cX6_lowest 22 = .ok (.ireturn, 1) := by decide +kernel
theorem dX6_lowest_23 : decode cX6_lowest 23 = .ok (.iload_n 2, 1) := by decide +kernel
theorem dX6_lowest_24 : decode cX6_lowest 24 = .ok (.ifCond .eq 7, 3) := by decide +kernel
theorem dX6_lowest_27 : decode cX6_lowest 27 = .ok (.iload_n 0, 1) := by decide +kernel
theorem dX6_lowest_28 : decode cX6_lowest 28 = .ok (.goto 4, 3) := by decide +kernel
theorem dX6_lowest_31 : decode cX6_lowest 31 = .ok (.iload_n 1, 1) := by decide +kernel
theorem dX6_lowest_32 : decode cX6_lowest 32 = .ok (.iload_n 3, 1) := by decide +kernel
theorem dX6_lowest_33 : decode cX6_lowest 33 = .ok (.idiv, 1) := by decide +kernel
theorem dX6_lowest_34 : decode cX6_lowest 34 = .ok (.ireturn, 1) := by decide +kernel
theorem dX6_greatestDivisor_0 : decode cX6_greatestDivisor 0 = .ok (.iload_n 0, 1) := by decide +kernel
theorem dX6_greatestDivisor_1 : decode cX6_greatestDivisor 1 = .ok (.istore_n 2, 1) := by decide +kernel
theorem dX6_greatestDivisor_2 : decode cX6_greatestDivisor 2 = .ok (.iload_n 1, 1) := by decide +kernel
theorem dX6_greatestDivisor_3 : decode cX6_greatestDivisor 3 = .ok (.istore_n 3, 1) := by decide +kernel
theorem dX6_greatestDivisor_4 : decode cX6_greatestDivisor 4 = .ok (.iconst 0, 1) := by decide +kernel
theorem dX6_greatestDivisor_5 : decode cX6_greatestDivisor 5 = .ok (.istore 4, 2) := by decide +kernel
theorem dX6_greatestDivisor_7 : decode cX6_greatestDivisor 7 = .ok (.iload 4, 2) := by decide +kernel
theorem dX6_greatestDivisor_9 : decode cX6_greatestDivisor 9 = .ok (.bipush 50, 2) := by decide +kernel
theorem dX6_greatestDivisor_11 : decode cX6_greatestDivisor 11 = .ok (.if_icmp .ge 23, 3) := by decide +kernel
theorem dX6_greatestDivisor_14 : decode cX6_greatestDivisor 14 = .ok (.iload_n 3, 1) := by decide +kernel
theorem dX6_greatestDivisor_15 : decode cX6_greatestDivisor 15 = .ok (.ifCond .eq 19, 3) := by decide +kernel
theorem dX6_greatestDivisor_18 : decode cX6_greatestDivisor 18 = .ok (.iload_n 2, 1) := by decide +kernel
theorem dX6_greatestDivisor_19 : decode cX6_greatestDivisor 19 = .ok (.iload_n 3, 1) := by decide +kernel
theorem dX6_greatestDivisor_20 : decode cX6_greatestDivisor 20 = .ok (.irem, 1) := by decide +kernel
theorem dX6_greatestDivisor_21 : decode cX6_greatestDivisor 21 = .ok (.istore 5, 2) := by decide +kernel
theorem dX6_greatestDivisor_23 : decode cX6_greatestDivisor 23 = .ok (.iload_n 3, 1) := by decide +kernel
theorem dX6_greatestDivisor_24 : decode cX6_greatestDivisor 24 = .ok (.istore_n 2, 1) := by decide +kernel
theorem dX6_greatestDivisor_25 : decode cX6_greatestDivisor 25 = .ok (.iload 5, 2) := by decide +kernel
theorem dX6_greatestDivisor_27 : decode cX6_greatestDivisor 27 = .ok (.istore_n 3, 1) := by decide +kernel
theorem dX6_greatestDivisor_28 : decode cX6_greatestDivisor 28 = .ok (.iinc 4 1, 3) := by decide +kernel
theorem dX6_greatestDivisor_31 : decode cX6_greatestDivisor 31 = .ok (.goto (-24), 3) := by decide +kernel
theorem dX6_greatestDivisor_34 : decode cX6_greatestDivisor 34 = .ok (.iload_n 2, 1) := by decide +kernel
theorem dX6_greatestDivisor_35 : decode cX6_greatestDivisor 35 = .ok (.ireturn, 1) := by decide +kernel
