theorem dX7_init_0 : decode cX7_init 0 = .ok (.aload_n 0, 1) := by decide +kernel
theorem dX7_init_1 : decode cX7_init 1 = .ok (.invokespecial 3, 3) := by decide +kernel
theorem dX7_init_4 : decode cX7_init 4 = .ok (.aload_n 0, 1) := by decide +kernel
theorem dX7_init_5 : decode cX7_init 5 = .ok (.new 9, 3) := by decide +kernel
theorem dX7_init_8 : decode cX7_init 8 = .ok (.dup, 1) := by decide +kernel
theorem dX7_init_9 : decode cX7_init 9 = .ok (.invokespecial 11, 3) := by decide +kernel
theorem dX7_init_12 : decode cX7_init 12 = .ok (.putfield 12, 3) := by decide +kernel
theorem dX7_init_15 : decode cX7_init 15 = .ok (.aload_n 0, 1) := by decide +kernel
theorem dX7_init_16 : decode cX7_init 16 = .ok (.new 16, 3) := by decide +kernel
theorem dX7_init_19 : decode cX7_init 19 = .ok (.dup, 1) := by decide +kernel
theorem dX7_init_20 : decode cX7_init 20 = .ok (.invokespecial 18, 3) := by decide +kernel
theorem dX7_init_23 : decode cX7_init 23 = .ok (.putfield 19, 3) := by decide +kernel
theorem dX7_init_26 : decode cX7_init 26 = .ok (.aload_n 0, 1) := by decide +kernel
theorem dX7_init_27 : decode cX7_init 27 = .ok (.new 23, 3) := by decide +kernel
theorem dX7_init_30 : decode cX7_init 30 = .ok (.dup, 1) := by decide +kernel
theorem dX7_init_31 : decode cX7_init 31 = .ok (.invokespecial 25, 3) := by decide +kernel
theorem dX7_init_34 : decode cX7_init 34 = .ok (.putfield 26, 3) := by decide +kernel
theorem dX7_init_37 : decode cX7_init 37 = .ok (.aload_n 0, 1) := by decide +kernel
theorem dX7_init_38 : decode cX7_init 38 = .ok (.bipush 20, 2) := by decide +kernel
theorem dX7_init_40 : decode cX7_init 40 = .ok (.newarray .int, 2) := by decide +kernel
theorem dX7_init_42 : decode cX7_init 42 = .ok (.putfield 30, 3) := by decide +kernel
theorem dX7_init_45 : decode cX7_init 45 = .ok (.aload_n 0, 1) := by decide +kernel
theorem dX7_init_46 : decode cX7_init 46 = .ok (.bipush 6, 2) := by decide +kernel
theorem dX7_init_48 : decode cX7_init 48 = .ok (.newarray .int, 2) := by decide +kernel
theorem dX7_init_50 : decode cX7_init 50 = .ok (.putfield 34, 3) := by decide +kernel
theorem dX7_init_53 : decode cX7_init 53 = .ok (.return_, 1) := by decide +kernel
theorem dX7_person_0 : decode cX7_person 0 = .ok (.iload_n 1, 1) := by decide +kernel
theorem dX7_person_1 : decode cX7_person 1 = .ok (.invokestatic 37, 3) := by decide +kernel
theorem dX7_person_4 : decode cX7_person 4 = .ok (.ifCond .eq 20, 3) := by decide +kernel
theorem dX7_person_7 : decode cX7_person 7 = .ok (.iload_n 2, 1) := by decide +kernel
theorem dX7_person_8 : decode cX7_person 8 = .ok (.invokestatic 41, 3) := by decide +kernel
theorem dX7_person_11 : decode cX7_person 11 = .ok (.ifCond .eq 13, 3) := by decide +kernel
theorem dX7_person_14 : decode cX7_person 14 = .ok (.iload_n 3, 1) := by decide +kernel
theorem dX7_person_15 : decode cX7_person 15 = .ok (.iconst 0, 1) := by decide +kernel
theorem dX7_person_16 : decode cX7_person 16 = .ok (.bipush 7, 2) := by decide +kernel
theorem dX7_person_18 : decode cX7_person 18 = .ok (.invokestatic 44, 3) := by decide +kernel
theorem dX7_person_21 : decode cX7_person 21 = .ok (.ifCond .ne 10, 3) := by decide +kernel
theorem dX7_person_24 : decode cX7_person 24 = .ok (.aload_n 0, 1) := by decide +kernel
theorem dX7_person_25 : decode cX7_person 25 = .ok (.ldc 48, 2) := by decide +kernel
theorem dX7_person_27 : decode cX7_person 27 = .ok (.invokevirtual 49, 3) := by decide +kernel
theorem dX7_person_30 : decode cX7_person 30 = .ok (.ireturn, 1) := by decide +kernel
theorem dX7_person_31 : decode cX7_person 31 = .ok (.aload_n 0, 1) := by decide +kernel
theorem dX7_person_32 : decode cX7_person 32 = .ok (.getfield 12, 3) := by decide +kernel
theorem dX7_person_35 : decode cX7_person 35 = .ok (.getfield 53, 3) := by decide +kernel
theorem dX7_person_38 : decode cX7_person 38 = .ok (.iload_n 1, 1) := by decide +kernel
theorem dX7_person_39 : decode cX7_person 39 = .ok (.invokevirtual 57, 3) := by decide +kernel
theorem dX7_person_42 : decode cX7_person 42 = .ok (.ifCond .ne 10, 3) := by decide +kernel
theorem dX7_person_45 : decode cX7_person 45 = .ok (.aload_n 0, 1) := by decide +kernel
theorem dX7_person_46 : decode cX7_person 46 = .ok (.ldc 62, 2) := by decide +kernel
theorem dX7_person_48 : decode cX7_person 48 = .ok (.invokevirtual 49, 3) := by decide +kernel
theorem dX7_person_51 : decode cX7_person 51 = .ok (.ireturn, 1) := by decide +kernel
theorem dX7_person_52 : decode cX7_person 52 = .ok (.aload_n 0, 1) := by decide +kernel
theorem dX7_person_53 : decode cX7_person 53 = .ok (.getfield 12, 3) := by decide +kernel
theorem dX7_person_56 : decode cX7_person 56 = .ok (.getfield 53, 3) := by decide +kernel
theorem dX7_person_59 : decode cX7_person 59 = .ok (.iload_n 1, 1) := by decide +kernel
theorem dX7_person_60 : decode cX7_person 60 = .ok (.iload_n 2, 1) := by decide +kernel
theorem dX7_person_61 : decode cX7_person 61 = .ok (.iload_n 3, 1) := by decide +kernel
theorem dX7_person_62 : decode cX7_person 62 = .ok (.invokevirtual 63, 3) := by decide +kernel
theorem dX7_person_65 : decode cX7_person 65 = .ok (.ireturn, 1) := by decide +kernel
theorem dX7_as_0 : decode cX7_as 0 = .ok (.aload_n 0, 1) := by decide +kernel
theorem dX7_as_1 : decode cX7_as 1 = .ok (.getfield 12, 3) := by decide +kernel
theorem dX7_as_4 : decode cX7_as 4 = .ok (.getfield 53, 3) := by decide +kernel
theorem dX7_as_7 : decode cX7_as 7 = .ok (.iload_n 1, 1) := by decide +kernel
theorem dX7_as_8 : decode cX7_as 8 = .ok (.invokevirtual 67, 3) := by decide +kernel
theorem dX7_as_11 : decode cX7_as 11 = .ok (.ifCond .eq 10, 3) := by decide +kernel
theorem dX7_as_14 : decode cX7_as 14 = .ok (.iload_n 2, 1) := by decide +kernel
theorem dX7_as_15 : decode cX7_as 15 = .ok (.invokestatic 37, 3) := by decide +kernel
theorem dX7_as_18 : decode cX7_as 18 = .ok (.ifCond .ne 10, 3) := by decide +kernel
theorem dX7_as_21 : decode cX7_as 21 = .ok (.aload_n 0, 1) := by decide +kernel
theorem dX7_as_22 : decode cX7_as 22 = .ok (.ldc 48, 2) := by decide +kernel
theorem dX7_as_24 : decode cX7_as 24 = .ok (.invokevirtual 49, 3) := by decide +kernel
theorem dX7_as_27 : decode cX7_as 27 = .ok (.ireturn, 1) := by decide +kernel
theorem dX7_as_28 : decode cX7_as 28 = .ok (.iload_n 2, 1) := by decide +kernel
theorem dX7_as_29 : decode cX7_as 29 = .ok (.ifCond .eq 26, 3) := by decide +kernel
theorem dX7_as_32 : decode cX7_as 32 = .ok (.aload_n 0, 1) := by decide +kernel
theorem dX7_as_33 : decode cX7_as 33 = .ok (.getfield 12, 3) := by decide +kernel
theorem dX7_as_36 : decode cX7_as 36 = .ok (.getfield 53, 3) := by decide +kernel
theorem dX7_as_39 : decode cX7_as 39 = .ok (.getfield 70, 3) := by decide +kernel
theorem dX7_as_42 : decode cX7_as 42 = .ok (.iload_n 1, 1) := by decide +kernel
theorem dX7_as_43 : decode cX7_as 43 = .ok (.iaload, 1) := by decide +kernel
theorem dX7_as_44 : decode cX7_as 44 = .ok (.iload_n 2, 1) := by decide +kernel
theorem dX7_as_45 : decode cX7_as 45 = .ok (.if_icmp .eq 10, 3) := by decide +kernel
theorem dX7_as_48 : decode cX7_as 48 = .ok (.aload_n 0, 1) := by decide +kernel
theorem dX7_as_49 : decode cX7_as 49 = .ok (.ldc 73, 2) := by decide +kernel
theorem dX7_as_51 : decode cX7_as 51 = .ok (.invokevirtual 49, 3) := by decide +kernel
theorem dX7_as_54 : decode cX7_as 54 = .ok (.ireturn, 1) := by decide +kernel
theorem dX7_as_55 : decode cX7_as 55 = .ok (.aload_n 0, 1) := by decide +kernel
theorem dX7_as_56 : decode cX7_as 56 = .ok (.getfield 12, 3) := by decide +kernel
theorem dX7_as_59 : decode cX7_as 59 = .ok (.getfield 53, 3) := by decide +kernel
theorem dX7_as_62 : decode cX7_as 62 = .ok (.getfield 74, 3) := by decide +kernel
theorem dX7_as_65 : decode cX7_as 65 = .ok (.iload_n 1, 1) := by decide +kernel
theorem dX7_as_66 : decode cX7_as 66 = .ok (.iaload, 1) := by decide +kernel
theorem dX7_as_67 : decode cX7_as 67 = .ok (.ireturn, 1) := by decide +kernel
theorem dX7_licence_0 : decode cX7_licence 0 = .ok (.aload_n 0, 1) := by decide +kernel
theorem dX7_licence_1 : decode cX7_licence 1 = .ok (.getfield 12, 3) := by decide +kernel
theorem dX7_licence_4 : decode cX7_licence 4 = .ok (.getfield 53, 3) := by decide +kernel
theorem dX7_licence_7 : decode cX7_licence 7 = .ok (.iload_n 1, 1) := by decide +kernel
theorem dX7_licence_8 : decode cX7_licence 8 = .ok (.invokevirtual 67, 3) := by decide +kernel
theorem dX7_licence_11 : decode cX7_licence 11 = .ok (.ifCond .eq 10, 3) := by decide +kernel
theorem dX7_licence_14 : decode cX7_licence 14 = .ok (.iload_n 2, 1) := by decide +kernel
theorem dX7_licence_15 : decode cX7_licence 15 = .ok (.invokestatic 41, 3) := by decide +kernel
theorem dX7_licence_18 : decode cX7_licence 18 = .ok (.ifCond .ne 10, 3) := by decide +kernel
theorem dX7_licence_21 : decode cX7_licence 21 = .ok (.aload_n 0, 1) := by decide +kernel
theorem dX7_licence_22 : decode cX7_licence 22 = .ok (.ldc 48, 2) := by decide +kernel
theorem dX7_licence_24 : decode cX7_licence 24 = .ok (.invokevirtual 49, 3) := by decide +kernel
theorem dX7_licence_27 : decode cX7_licence 27 = .ok (.ireturn, 1) := by decide +kernel
theorem dX7_licence_28 : decode cX7_licence 28 = .ok (.aload_n 0, 1) := by decide +kernel
theorem dX7_licence_29 : decode cX7_licence 29 = .ok (.getfield 12, 3) := by decide +kernel
theorem dX7_licence_32 : decode cX7_licence 32 = .ok (.getfield 53, 3) := by decide +kernel
theorem dX7_licence_35 : decode cX7_licence 35 = .ok (.getfield 77, 3) := by decide +kernel
theorem dX7_licence_38 : decode cX7_licence 38 = .ok (.iload_n 1, 1) := by decide +kernel
theorem dX7_licence_39 : decode cX7_licence 39 = .ok (.iaload, 1) := by decide +kernel
theorem dX7_licence_40 : decode cX7_licence 40 = .ok (.istore_n 3, 1) := by decide +kernel
theorem dX7_licence_41 : decode cX7_licence 41 = .ok (.aload_n 0, 1) := by decide +kernel
theorem dX7_licence_42 : decode cX7_licence 42 = .ok (.getfield 12, 3) := by decide +kernel
theorem dX7_licence_45 : decode cX7_licence 45 = .ok (.getfield 53, 3) := by decide +kernel
theorem dX7_licence_48 : decode cX7_licence 48 = .ok (.getfield 77, 3) := by decide +kernel
theorem dX7_licence_51 : decode cX7_licence 51 = .ok (.iload_n 1, 1) := by decide +kernel
theorem dX7_licence_52 : decode cX7_licence 52 = .ok (.iload_n 2, 1) := by decide +kernel
theorem dX7_licence_53 : decode cX7_licence 53 = .ok (.iastore, 1) := by decide +kernel
theorem dX7_licence_54 : decode cX7_licence 54 = .ok (.iload_n 3, 1) := by decide +kernel
theorem dX7_licence_55 : decode cX7_licence 55 = .ok (.ireturn, 1) := by decide +kernel
theorem dX7_part_0 : decode cX7_part 0 = .ok (.aload_n 0, 1) := by decide +kernel
theorem dX7_part_1 : decode cX7_part 1 = .ok (.getfield 12, 3) := by decide +kernel
theorem dX7_part_4 : decode cX7_part 4 = .ok (.getfield 53, 3) := by decide +kernel
theorem dX7_part_7 : decode cX7_part 7 = .ok (.iload_n 1, 1) := by decide +kernel
theorem dX7_part_8 : decode cX7_part 8 = .ok (.invokevirtual 67, 3) := by decide +kernel
theorem dX7_part_11 : decode cX7_part 11 = .ok (.ifCond .eq 24, 3) := by decide +kernel
theorem dX7_part_14 : decode cX7_part 14 = .ok (.iload_n 2, 1) := by decide +kernel
theorem dX7_part_15 : decode cX7_part 15 = .ok (.iconst 0, 1) := by decide +kernel
theorem dX7_part_16 : decode cX7_part 16 = .ok (.bipush 7, 2) := by decide +kernel
theorem dX7_part_18 : decode cX7_part 18 = .ok (.invokestatic 44, 3) := by decide +kernel
theorem dX7_part_21 : decode cX7_part 21 = .ok (.ifCond .eq 14, 3) := by decide +kernel
theorem dX7_part_24 : decode cX7_part 24 = .ok (.iload_n 3, 1) := by decide +kernel
theorem dX7_part_25 : decode cX7_part 25 = .ok (.iconst (-1), 1) := by decide +kernel
theorem dX7_part_26 : decode cX7_part 26 = .ok (.sipush 30000, 3) := by decide +kernel
theorem dX7_part_29 : decode cX7_part 29 = .ok (.invokestatic 44, 3) := by decide +kernel
theorem dX7_part_32 : decode cX7_part 32 = .ok (.ifCond .ne 10, 3) := by decide +kernel
theorem dX7_part_35 : decode cX7_part 35 = .ok (.aload_n 0, 1) := by decide +kernel
theorem dX7_part_36 : decode cX7_part 36 = .ok (.ldc 48, 2) := by decide +kernel
theorem dX7_part_38 : decode cX7_part 38 = .ok (.invokevirtual 49, 3) := by decide +kernel
theorem dX7_part_41 : decode cX7_part 41 = .ok (.ireturn, 1) := by decide +kernel
theorem dX7_part_42 : decode cX7_part 42 = .ok (.iload_n 1, 1) := by decide +kernel
theorem dX7_part_43 : decode cX7_part 43 = .ok (.bipush 8, 2) := by decide +kernel
theorem dX7_part_45 : decode cX7_part 45 = .ok (.imul, 1) := by decide +kernel
theorem dX7_part_46 : decode cX7_part 46 = .ok (.iload_n 2, 1) := by decide +kernel
theorem dX7_part_47 : decode cX7_part 47 = .ok (.iadd, 1) := by decide +kernel
theorem dX7_part_48 : decode cX7_part 48 = .ok (.istore 4, 2) := by decide +kernel
theorem dX7_part_50 : decode cX7_part 50 = .ok (.aload_n 0, 1) := by decide +kernel
theorem dX7_part_51 : decode cX7_part 51 = .ok (.getfield 12, 3) := by decide +kernel
theorem dX7_part_54 : decode cX7_part 54 = .ok (.getfield 53, 3) := by decide +kernel
theorem dX7_part_57 : decode cX7_part 57 = .ok (.getfield 80, 3) := by decide +kernel
theorem dX7_part_60 : decode cX7_part 60 = .ok (.iload 4, 2) := by decide +kernel
theorem dX7_part_62 : decode cX7_part 62 = .ok (.iaload, 1) := by decide +kernel
theorem dX7_part_63 : decode cX7_part 63 = .ok (.istore 5, 2) := by decide +kernel
theorem dX7_part_65 : decode cX7_part 65 = .ok (.aload_n 0, 1) := by decide +kernel
theorem dX7_part_66 : decode cX7_part 66 = .ok (.getfield 12, 3) := by decide +kernel
theorem dX7_part_69 : decode cX7_part 69 = .ok (.getfield 53, 3) := by decide +kernel
theorem dX7_part_72 : decode cX7_part 72 = .ok (.getfield 80, 3) := by decide +kernel
theorem dX7_part_75 : decode cX7_part 75 = .ok (.iload 4, 2) := by decide +kernel
theorem dX7_part_77 : decode cX7_part 77 = .ok (.iload_n 3, 1) := by decide +kernel
theorem dX7_part_78 : decode cX7_part 78 = .ok (.iastore, 1) := by decide +kernel
theorem dX7_part_79 : decode cX7_part 79 = .ok (.iload 5, 2) := by decide +kernel
theorem dX7_part_81 : decode cX7_part 81 = .ok (.ireturn, 1) := by decide +kernel
theorem dX7_worth_0 : decode cX7_worth 0 = .ok (.iload_n 1, 1) := by decide +kernel
theorem dX7_worth_1 : decode cX7_worth 1 = .ok (.invokestatic 83, 3) := by decide +kernel
theorem dX7_worth_4 : decode cX7_worth 4 = .ok (.ifCond .eq 33, 3) := by decide +kernel
theorem dX7_worth_7 : decode cX7_worth 7 = .ok (.iload_n 2, 1) := by decide +kernel
theorem dX7_worth_8 : decode cX7_worth 8 = .ok (.invokestatic 83, 3) := by decide +kernel
theorem dX7_worth_11 : decode cX7_worth 11 = .ok (.ifCond .eq 26, 3) := by decide +kernel
theorem dX7_worth_14 : decode cX7_worth 14 = .ok (.iload_n 3, 1) := by decide +kernel
theorem dX7_worth_15 : decode cX7_worth 15 = .ok (.invokestatic 86, 3) := by decide +kernel
theorem dX7_worth_18 : decode cX7_worth 18 = .ok (.ifCond .eq 19, 3) := by decide +kernel
theorem dX7_worth_21 : decode cX7_worth 21 = .ok (.iload_n 1, 1) := by decide +kernel
theorem dX7_worth_22 : decode cX7_worth 22 = .ok (.iload_n 2, 1) := by decide +kernel
theorem dX7_worth_23 : decode cX7_worth 23 = .ok (.if_icmp .eq 14, 3) := by decide +kernel
theorem dX7_worth_26 : decode cX7_worth 26 = .ok (.iload 4, 2) := by decide +kernel
theorem dX7_worth_28 : decode cX7_worth 28 = .ok (.iconst 0, 1) := by decide +kernel
theorem dX7_worth_29 : decode cX7_worth 29 = .ok (.bipush 10, 2) := by decide +kernel
theorem dX7_worth_31 : decode cX7_worth 31 = .ok (.invokestatic 44, 3) := by decide +kernel
theorem dX7_worth_34 : decode cX7_worth 34 = .ok (.ifCond .ne 10, 3) := by decide +kernel
theorem dX7_worth_37 : decode cX7_worth 37 = .ok (.aload_n 0, 1) := by decide +kernel
theorem dX7_worth_38 : decode cX7_worth 38 = .ok (.ldc 48, 2) := by decide +kernel
theorem dX7_worth_40 : decode cX7_worth 40 = .ok (.invokevirtual 49, 3) := by decide +kernel
theorem dX7_worth_43 : decode cX7_worth 43 = .ok (.ireturn, 1) := by decide +kernel
theorem dX7_worth_44 : decode cX7_worth 44 = .ok (.aload_n 0, 1) := by decide +kernel
theorem dX7_worth_45 : decode cX7_worth 45 = .ok (.getfield 12, 3) := by decide +kernel
theorem dX7_worth_48 : decode cX7_worth 48 = .ok (.getfield 89, 3) := by decide +kernel
theorem dX7_worth_51 : decode cX7_worth 51 = .ok (.iload_n 1, 1) := by decide +kernel
theorem dX7_worth_52 : decode cX7_worth 52 = .ok (.iload_n 2, 1) := by decide +kernel
theorem dX7_worth_53 : decode cX7_worth 53 = .ok (.iload_n 3, 1) := by decide +kernel
theorem dX7_worth_54 : decode cX7_worth 54 = .ok (.invokevirtual 93, 3) := by decide +kernel
theorem dX7_worth_57 : decode cX7_worth 57 = .ok (.istore 5, 2) := by decide +kernel
theorem dX7_worth_59 : decode cX7_worth 59 = .ok (.aload_n 0, 1) := by decide +kernel
theorem dX7_worth_60 : decode cX7_worth 60 = .ok (.getfield 12, 3) := by decide +kernel
theorem dX7_worth_63 : decode cX7_worth 63 = .ok (.getfield 89, 3) := by decide +kernel
theorem dX7_worth_66 : decode cX7_worth 66 = .ok (.iload_n 1, 1) := by decide +kernel
theorem dX7_worth_67 : decode cX7_worth 67 = .ok (.iload_n 2, 1) := by decide +kernel
theorem dX7_worth_68 : decode cX7_worth 68 = .ok (.iload_n 3, 1) := by decide +kernel
theorem dX7_worth_69 : decode cX7_worth 69 = .ok (.iload 4, 2) := by decide +kernel
theorem dX7_worth_71 : decode cX7_worth 71 = .ok (.invokevirtual 98, 3) := by decide +kernel
theorem dX7_worth_74 : decode cX7_worth 74 = .ok (.iload 5, 2) := by decide +kernel
theorem dX7_worth_76 : decode cX7_worth 76 = .ok (.ireturn, 1) := by decide +kernel
theorem dX7_way_0 : decode cX7_way 0 = .ok (.iload_n 1, 1) := by decide +kernel
theorem dX7_way_1 : decode cX7_way 1 = .ok (.invokestatic 83, 3) := by decide +kernel
theorem dX7_way_4 : decode cX7_way 4 = .ok (.ifCond .eq 12, 3) := by decide +kernel
theorem dX7_way_7 : decode cX7_way 7 = .ok (.iload_n 2, 1) := by decide +kernel
theorem dX7_way_8 : decode cX7_way 8 = .ok (.iconst 0, 1) := by decide +kernel
theorem dX7_way_9 : decode cX7_way 9 = .ok (.iconst 1, 1) := by decide +kernel
theorem dX7_way_10 : decode cX7_way 10 = .ok (.invokestatic 44, 3) := by decide +kernel
theorem dX7_way_13 : decode cX7_way 13 = .ok (.ifCond .ne 10, 3) := by decide +kernel
theorem dX7_way_16 : decode cX7_way 16 = .ok (.aload_n 0, 1) := by decide +kernel
theorem dX7_way_17 : decode cX7_way 17 = .ok (.ldc 48, 2) := by decide +kernel
theorem dX7_way_19 : decode cX7_way 19 = .ok (.invokevirtual 49, 3) := by decide +kernel
theorem dX7_way_22 : decode cX7_way 22 = .ok (.ireturn, 1) := by decide +kernel
theorem dX7_way_23 : decode cX7_way 23 = .ok (.aload_n 0, 1) := by decide +kernel
theorem dX7_way_24 : decode cX7_way 24 = .ok (.getfield 12, 3) := by decide +kernel
theorem dX7_way_27 : decode cX7_way 27 = .ok (.getfield 89, 3) := by decide +kernel
theorem dX7_way_30 : decode cX7_way 30 = .ok (.getfield 102, 3) := by decide +kernel
theorem dX7_way_33 : decode cX7_way 33 = .ok (.iload_n 1, 1) := by decide +kernel
theorem dX7_way_34 : decode cX7_way 34 = .ok (.iaload, 1) := by decide +kernel
theorem dX7_way_35 : decode cX7_way 35 = .ok (.istore_n 3, 1) := by decide +kernel
theorem dX7_way_36 : decode cX7_way 36 = .ok (.aload_n 0, 1) := by decide +kernel
theorem dX7_way_37 : decode cX7_way 37 = .ok (.getfield 12, 3) := by decide +kernel
theorem dX7_way_40 : decode cX7_way 40 = .ok (.getfield 89, 3) := by decide +kernel
theorem dX7_way_43 : decode cX7_way 43 = .ok (.getfield 102, 3) := by decide +kernel
theorem dX7_way_46 : decode cX7_way 46 = .ok (.iload_n 1, 1) := by decide +kernel
theorem dX7_way_47 : decode cX7_way 47 = .ok (.iload_n 2, 1) := by decide +kernel
theorem dX7_way_48 : decode cX7_way 48 = .ok (.iastore, 1) := by decide +kernel
theorem dX7_way_49 : decode cX7_way 49 = .ok (.iload_n 3, 1) := by decide +kernel
theorem dX7_way_50 : decode cX7_way 50 = .ok (.ireturn, 1) := by decide +kernel
theorem dX7_rule_0 : decode cX7_rule 0 = .ok (.iload_n 1, 1) := by decide +kernel
theorem dX7_rule_1 : decode cX7_rule 1 = .ok (.ifCond .lt 78, 3) := by decide +kernel
theorem dX7_rule_4 : decode cX7_rule 4 = .ok (.iload_n 1, 1) := by decide +kernel
theorem dX7_rule_5 : decode cX7_rule 5 = .ok (.bipush 100, 2) := by decide +kernel
theorem dX7_rule_7 : decode cX7_rule 7 = .ok (.idiv, 1) := by decide +kernel
theorem dX7_rule_8 : decode cX7_rule 8 = .ok (.invokestatic 83, 3) := by decide +kernel
theorem dX7_rule_11 : decode cX7_rule 11 = .ok (.ifCond .eq 68, 3) := by decide +kernel
theorem dX7_rule_14 : decode cX7_rule 14 = .ok (.iload_n 1, 1) := by decide +kernel
theorem dX7_rule_15 : decode cX7_rule 15 = .ok (.bipush 100, 2) := by decide +kernel
theorem dX7_rule_17 : decode cX7_rule 17 = .ok (.irem, 1) := by decide +kernel
theorem dX7_rule_18 : decode cX7_rule 18 = .ok (.invokestatic 86, 3) := by decide +kernel
theorem dX7_rule_21 : decode cX7_rule 21 = .ok (.ifCond .eq 58, 3) := by decide +kernel
theorem dX7_rule_24 : decode cX7_rule 24 = .ok (.iload_n 2, 1) := by decide +kernel
theorem dX7_rule_25 : decode cX7_rule 25 = .ok (.invokestatic 41, 3) := by decide +kernel
theorem dX7_rule_28 : decode cX7_rule 28 = .ok (.ifCond .eq 51, 3) := by decide +kernel
theorem dX7_rule_31 : decode cX7_rule 31 = .ok (.iload_n 3, 1) := by decide +kernel
theorem dX7_rule_32 : decode cX7_rule 32 = .ok (.iconst 0, 1) := by decide +kernel
theorem dX7_rule_33 : decode cX7_rule 33 = .ok (.sipush 4000, 3) := by decide +kernel
theorem dX7_rule_36 : decode cX7_rule 36 = .ok (.invokestatic 44, 3) := by decide +kernel
theorem dX7_rule_39 : decode cX7_rule 39 = .ok (.ifCond .eq 40, 3) := by decide +kernel
theorem dX7_rule_42 : decode cX7_rule 42 = .ok (.iload 4, 2) := by decide +kernel
theorem dX7_rule_44 : decode cX7_rule 44 = .ok (.iconst 0, 1) := by decide +kernel
theorem dX7_rule_45 : decode cX7_rule 45 = .ok (.sipush 20000, 3) := by decide +kernel
theorem dX7_rule_48 : decode cX7_rule 48 = .ok (.invokestatic 44, 3) := by decide +kernel
theorem dX7_rule_51 : decode cX7_rule 51 = .ok (.ifCond .eq 28, 3) := by decide +kernel
theorem dX7_rule_54 : decode cX7_rule 54 = .ok (.iload 5, 2) := by decide +kernel
theorem dX7_rule_56 : decode cX7_rule 56 = .ok (.ifCond .lt 23, 3) := by decide +kernel
theorem dX7_rule_59 : decode cX7_rule 59 = .ok (.iload 5, 2) := by decide +kernel
theorem dX7_rule_61 : decode cX7_rule 61 = .ok (.iconst 4, 1) := by decide +kernel
theorem dX7_rule_62 : decode cX7_rule 62 = .ok (.ishr, 1) := by decide +kernel
theorem dX7_rule_63 : decode cX7_rule 63 = .ok (.sipush 256, 3) := by decide +kernel
theorem dX7_rule_66 : decode cX7_rule 66 = .ok (.if_icmp .ge 13, 3) := by decide +kernel
theorem dX7_rule_69 : decode cX7_rule 69 = .ok (.iload 5, 2) := by decide +kernel
theorem dX7_rule_71 : decode cX7_rule 71 = .ok (.bipush 15, 2) := by decide +kernel
theorem dX7_rule_73 : decode cX7_rule 73 = .ok (.iand, 1) := by decide +kernel
theorem dX7_rule_74 : decode cX7_rule 74 = .ok (.bipush 10, 2) := by decide +kernel
theorem dX7_rule_76 : decode cX7_rule 76 = .ok (.if_icmp .le 10, 3) := by decide +kernel
theorem dX7_rule_79 : decode cX7_rule 79 = .ok (.aload_n 0, 1) := by decide +kernel
theorem dX7_rule_80 : decode cX7_rule 80 = .ok (.ldc 48, 2) := by decide +kernel
theorem dX7_rule_82 : decode cX7_rule 82 = .ok (.invokevirtual 49, 3) := by decide +kernel
theorem dX7_rule_85 : decode cX7_rule 85 = .ok (.ireturn, 1) := by decide +kernel
theorem dX7_rule_86 : decode cX7_rule 86 = .ok (.aload_n 0, 1) := by decide +kernel
theorem dX7_rule_87 : decode cX7_rule 87 = .ok (.getfield 12, 3) := by decide +kernel
theorem dX7_rule_90 : decode cX7_rule 90 = .ok (.getfield 105, 3) := by decide +kernel
theorem dX7_rule_93 : decode cX7_rule 93 = .ok (.getfield 109, 3) := by decide +kernel
theorem dX7_rule_96 : decode cX7_rule 96 = .ok (.bipush 40, 2) := by decide +kernel
theorem dX7_rule_98 : decode cX7_rule 98 = .ok (.if_icmp .lt 10, 3) := by decide +kernel
theorem dX7_rule_101 : decode cX7_rule 101 = .ok (.aload_n 0, 1) := by decide +kernel
theorem dX7_rule_102 : decode cX7_rule 102 = .ok (.ldc 62, 2) := by decide +kernel
theorem dX7_rule_104 : decode cX7_rule 104 = .ok (.invokevirtual 49, 3) := by decide +kernel
theorem dX7_rule_107 : decode cX7_rule 107 = .ok (.ireturn, 1) := by decide +kernel
theorem dX7_rule_108 : decode cX7_rule 108 = .ok (.aload_n 0, 1) := by decide +kernel
theorem dX7_rule_109 : decode cX7_rule 109 = .ok (.getfield 12, 3) := by decide +kernel
theorem dX7_rule_112 : decode cX7_rule 112 = .ok (.getfield 105, 3) := by decide +kernel
theorem dX7_rule_115 : decode cX7_rule 115 = .ok (.iload_n 1, 1) := by decide +kernel
theorem dX7_rule_116 : decode cX7_rule 116 = .ok (.iload_n 2, 1) := by decide +kernel
theorem dX7_rule_117 : decode cX7_rule 117 = .ok (.iload_n 3, 1) := by decide +kernel
theorem dX7_rule_118 : decode cX7_rule 118 = .ok (.iload 4, 2) := by decide +kernel
theorem dX7_rule_120 : decode cX7_rule 120 = .ok (.iload 5, 2) := by decide +kernel
theorem dX7_rule_122 : decode cX7_rule 122 = .ok (.invokevirtual 115, 3) := by decide +kernel
theorem dX7_rule_125 : decode cX7_rule 125 = .ok (.aload_n 0, 1) := by decide +kernel
theorem dX7_rule_126 : decode cX7_rule 126 = .ok (.getfield 12, 3) := by decide +kernel
theorem dX7_rule_129 : decode cX7_rule 129 = .ok (.getfield 105, 3) := by decide +kernel
theorem dX7_rule_132 : decode cX7_rule 132 = .ok (.getfield 109, 3) := by decide +kernel
theorem dX7_rule_135 : decode cX7_rule 135 = .ok (.ireturn, 1) := by decide +kernel
theorem dX7_force_0 : decode cX7_force 0 = .ok (.iload_n 1, 1) := by decide +kernel
theorem dX7_force_1 : decode cX7_force 1 = .ok (.invokestatic 83, 3) := by decide +kernel
theorem dX7_force_4 : decode cX7_force 4 = .ok (.ifCond .eq 17, 3) := by decide +kernel
theorem dX7_force_7 : decode cX7_force 7 = .ok (.iload_n 2, 1) := by decide +kernel
theorem dX7_force_8 : decode cX7_force 8 = .ok (.invokestatic 86, 3) := by decide +kernel
theorem dX7_force_11 : decode cX7_force 11 = .ok (.ifCond .eq 10, 3) := by decide +kernel
theorem dX7_force_14 : decode cX7_force 14 = .ok (.iload_n 3, 1) := by decide +kernel
theorem dX7_force_15 : decode cX7_force 15 = .ok (.invokestatic 41, 3) := by decide +kernel
theorem dX7_force_18 : decode cX7_force 18 = .ok (.ifCond .ne 10, 3) := by decide +kernel
theorem dX7_force_21 : decode cX7_force 21 = .ok (.aload_n 0, 1) := by decide +kernel
theorem dX7_force_22 : decode cX7_force 22 = .ok (.ldc 48, 2) := by decide +kernel
theorem dX7_force_24 : decode cX7_force 24 = .ok (.invokevirtual 49, 3) := by decide +kernel
theorem dX7_force_27 : decode cX7_force 27 = .ok (.ireturn, 1) := by decide +kernel
theorem dX7_force_28 : decode cX7_force 28 = .ok (.aload_n 0, 1) := by decide +kernel
theorem dX7_force_29 : decode cX7_force 29 = .ok (.getfield 12, 3) := by decide +kernel
theorem dX7_force_32 : decode cX7_force 32 = .ok (.getfield 105, 3) := by decide +kernel
theorem dX7_force_35 : decode cX7_force 35 = .ok (.iload_n 1, 1) := by decide +kernel
theorem dX7_force_36 : decode cX7_force 36 = .ok (.iload_n 2, 1) := by decide +kernel
theorem dX7_force_37 : decode cX7_force 37 = .ok (.iload_n 3, 1) := by decide +kernel
theorem dX7_force_38 : decode cX7_force 38 = .ok (.invokevirtual 118, 3) := by decide +kernel
theorem dX7_force_41 : decode cX7_force 41 = .ok (.istore 4, 2) := by decide +kernel
theorem dX7_force_43 : decode cX7_force 43 = .ok (.iload 4, 2) := by decide +kernel
theorem dX7_force_45 : decode cX7_force 45 = .ok (.ifCond .ge 12, 3) := by decide +kernel
theorem dX7_force_48 : decode cX7_force 48 = .ok (.aload_n 0, 1) := by decide +kernel
theorem dX7_force_49 : decode cX7_force 49 = .ok (.ldc 121, 2) := by decide +kernel
theorem dX7_force_51 : decode cX7_force 51 = .ok (.invokevirtual 49, 3) := by decide +kernel
theorem dX7_force_54 : decode cX7_force 54 = .ok (.goto 5, 3) := by decide +kernel
theorem dX7_force_57 : decode cX7_force 57 = .ok (.iload 4, 2) := by decide +kernel
theorem dX7_force_59 : decode cX7_force 59 = .ok (.ireturn, 1) := by decide +kernel
theorem dX7_has_0 : decode cX7_has 0 = .ok (.aload_n 0, 1) := by decide +kernel
theorem dX7_has_1 : decode cX7_has 1 = .ok (.getfield 12, 3) := by decide +kernel
theorem dX7_has_4 : decode cX7_has 4 = .ok (.getfield 53, 3) := by decide +kernel
theorem dX7_has_7 : decode cX7_has 7 = .ok (.iload_n 1, 1) := by decide +kernel
theorem dX7_has_8 : decode cX7_has 8 = .ok (.invokevirtual 67, 3) := by decide +kernel
theorem dX7_has_11 : decode cX7_has 11 = .ok (.ifCond .eq 25, 3) := by decide +kernel
theorem dX7_has_14 : decode cX7_has 14 = .ok (.iload_n 2, 1) := by decide +kernel
theorem dX7_has_15 : decode cX7_has 15 = .ok (.invokestatic 83, 3) := by decide +kernel
theorem dX7_has_18 : decode cX7_has 18 = .ok (.ifCond .eq 18, 3) := by decide +kernel
theorem dX7_has_21 : decode cX7_has 21 = .ok (.iload_n 3, 1) := by decide +kernel
theorem dX7_has_22 : decode cX7_has 22 = .ok (.invokestatic 41, 3) := by decide +kernel
theorem dX7_has_25 : decode cX7_has 25 = .ok (.ifCond .eq 11, 3) := by decide +kernel
theorem dX7_has_28 : decode cX7_has 28 = .ok (.iload 4, 2) := by decide +kernel
theorem dX7_has_30 : decode cX7_has 30 = .ok (.invokestatic 41, 3) := by decide +kernel
theorem dX7_has_33 : decode cX7_has 33 = .ok (.ifCond .ne 10, 3) := by decide +kernel
theorem dX7_has_36 : decode cX7_has 36 = .ok (.aload_n 0, 1) := by decide +kernel
theorem dX7_has_37 : decode cX7_has 37 = .ok (.ldc 48, 2) := by decide +kernel
theorem dX7_has_39 : decode cX7_has 39 = .ok (.invokevirtual 49, 3) := by decide +kernel
theorem dX7_has_42 : decode cX7_has 42 = .ok (.ireturn, 1) := by decide +kernel
theorem dX7_has_43 : decode cX7_has 43 = .ok (.aload_n 0, 1) := by decide +kernel
theorem dX7_has_44 : decode cX7_has 44 = .ok (.getfield 12, 3) := by decide +kernel
theorem dX7_has_47 : decode cX7_has 47 = .ok (.getfield 89, 3) := by decide +kernel
theorem dX7_has_50 : decode cX7_has 50 = .ok (.iload 4, 2) := by decide +kernel
theorem dX7_has_52 : decode cX7_has 52 = .ok (.invokevirtual 122, 3) := by decide +kernel
theorem dX7_has_55 : decode cX7_has 55 = .ok (.aload_n 0, 1) := by decide +kernel
theorem dX7_has_56 : decode cX7_has 56 = .ok (.getfield 12, 3) := by decide +kernel
theorem dX7_has_59 : decode cX7_has 59 = .ok (.getfield 89, 3) := by decide +kernel
theorem dX7_has_62 : decode cX7_has 62 = .ok (.iload_n 1, 1) := by decide +kernel
theorem dX7_has_63 : decode cX7_has 63 = .ok (.iload_n 2, 1) := by decide +kernel
theorem dX7_has_64 : decode cX7_has 64 = .ok (.iload_n 3, 1) := by decide +kernel
theorem dX7_has_65 : decode cX7_has 65 = .ok (.invokevirtual 126, 3) := by decide +kernel
theorem dX7_has_68 : decode cX7_has 68 = .ok (.ireturn, 1) := by decide +kernel
theorem dX7_why_0 : decode cX7_why 0 = .ok (.aload_n 0, 1) := by decide +kernel
theorem dX7_why_1 : decode cX7_why 1 = .ok (.iload_n 1, 1) := by decide +kernel
theorem dX7_why_2 : decode cX7_why 2 = .ok (.iload_n 2, 1) := by decide +kernel
theorem dX7_why_3 : decode cX7_why 3 = .ok (.iload_n 3, 1) := by decide +kernel
theorem dX7_why_4 : decode cX7_why 4 = .ok (.iload 4, 2) := by decide +kernel
theorem dX7_why_6 : decode cX7_why 6 = .ok (.invokevirtual 129, 3) := by decide +kernel
theorem dX7_why_9 : decode cX7_why 9 = .ok (.ifCond .ne 10, 3) := by decide +kernel
theorem dX7_why_12 : decode cX7_why 12 = .ok (.aload_n 0, 1) := by decide +kernel
theorem dX7_why_13 : decode cX7_why 13 = .ok (.ldc 48, 2) := by decide +kernel
theorem dX7_why_15 : decode cX7_why 15 = .ok (.invokevirtual 49, 3) := by decide +kernel
theorem dX7_why_18 : decode cX7_why 18 = .ok (.ireturn, 1) := by decide +kernel
theorem dX7_why_19 : decode cX7_why 19 = .ok (.aload_n 0, 1) := by decide +kernel
theorem dX7_why_20 : decode cX7_why 20 = .ok (.getfield 12, 3) := by decide +kernel
theorem dX7_why_23 : decode cX7_why 23 = .ok (.getfield 89, 3) := by decide +kernel
theorem dX7_why_26 : decode cX7_why 26 = .ok (.iload 4, 2) := by decide +kernel
theorem dX7_why_28 : decode cX7_why 28 = .ok (.invokevirtual 122, 3) := by decide +kernel
theorem dX7_why_31 : decode cX7_why 31 = .ok (.aload_n 0, 1) := by decide +kernel
theorem dX7_why_32 : decode cX7_why 32 = .ok (.getfield 12, 3) := by decide +kernel
theorem dX7_why_35 : decode cX7_why 35 = .ok (.iload_n 1, 1) := by decide +kernel
theorem dX7_why_36 : decode cX7_why 36 = .ok (.iload_n 2, 1) := by decide +kernel
theorem dX7_why_37 : decode cX7_why 37 = .ok (.iload_n 3, 1) := by decide +kernel
theorem dX7_why_38 : decode cX7_why 38 = .ok (.iload 4, 2) := by decide +kernel
theorem dX7_why_40 : decode cX7_why 40 = .ok (.invokevirtual 133, 3) := by decide +kernel
theorem dX7_why_43 : decode cX7_why 43 = .ok (.ireturn, 1) := by decide +kernel
theorem dX7_panel_0 : decode cX7_panel 0 = .ok (.aload_n 0, 1) := by decide +kernel
theorem dX7_panel_1 : decode cX7_panel 1 = .ok (.iload_n 1, 1) := by decide +kernel
theorem dX7_panel_2 : decode cX7_panel 2 = .ok (.iload_n 2, 1) := by decide +kernel
theorem dX7_panel_3 : decode cX7_panel 3 = .ok (.iload_n 3, 1) := by decide +kernel
theorem dX7_panel_4 : decode cX7_panel 4 = .ok (.iload 4, 2) := by decide +kernel
theorem dX7_panel_6 : decode cX7_panel 6 = .ok (.invokevirtual 129, 3) := by decide +kernel
theorem dX7_panel_9 : decode cX7_panel 9 = .ok (.ifCond .eq 18, 3) := by decide +kernel
theorem dX7_panel_12 : decode cX7_panel 12 = .ok (.aload_n 0, 1) := by decide +kernel
theorem dX7_panel_13 : decode cX7_panel 13 = .ok (.getfield 12, 3) := by decide +kernel
theorem dX7_panel_16 : decode cX7_panel 16 = .ok (.getfield 53, 3) := by decide +kernel
theorem dX7_panel_19 : decode cX7_panel 19 = .ok (.iload 5, 2) := by decide +kernel
theorem dX7_panel_21 : decode cX7_panel 21 = .ok (.invokevirtual 137, 3) := by decide +kernel
theorem dX7_panel_24 : decode cX7_panel 24 = .ok (.ifCond .ne 10, 3) := by decide +kernel
theorem dX7_panel_27 : decode cX7_panel 27 = .ok (.aload_n 0, 1) := by decide +kernel
theorem dX7_panel_28 : decode cX7_panel 28 = .ok (.ldc 48, 2) := by decide +kernel
theorem dX7_panel_30 : decode cX7_panel 30 = .ok (.invokevirtual 49, 3) := by decide +kernel
theorem dX7_panel_33 : decode cX7_panel 33 = .ok (.ireturn, 1) := by decide +kernel
theorem dX7_panel_34 : decode cX7_panel 34 = .ok (.aload_n 0, 1) := by decide +kernel
theorem dX7_panel_35 : decode cX7_panel 35 = .ok (.getfield 12, 3) := by decide +kernel
theorem dX7_panel_38 : decode cX7_panel 38 = .ok (.getfield 105, 3) := by decide +kernel
theorem dX7_panel_41 : decode cX7_panel 41 = .ok (.iload_n 2, 1) := by decide +kernel
theorem dX7_panel_42 : decode cX7_panel 42 = .ok (.iload_n 3, 1) := by decide +kernel
theorem dX7_panel_43 : decode cX7_panel 43 = .ok (.iload 4, 2) := by decide +kernel
theorem dX7_panel_45 : decode cX7_panel 45 = .ok (.invokevirtual 118, 3) := by decide +kernel
theorem dX7_panel_48 : decode cX7_panel 48 = .ok (.istore 6, 2) := by decide +kernel
theorem dX7_panel_50 : decode cX7_panel 50 = .ok (.iload 6, 2) := by decide +kernel
theorem dX7_panel_52 : decode cX7_panel 52 = .ok (.ifCond .ge 10, 3) := by decide +kernel
theorem dX7_panel_55 : decode cX7_panel 55 = .ok (.aload_n 0, 1) := by decide +kernel
theorem dX7_panel_56 : decode cX7_panel 56 = .ok (.ldc 121, 2) := by decide +kernel
theorem dX7_panel_58 : decode cX7_panel 58 = .ok (.invokevirtual 49, 3) := by decide +kernel
theorem dX7_panel_61 : decode cX7_panel 61 = .ok (.ireturn, 1) := by decide +kernel
theorem dX7_panel_62 : decode cX7_panel 62 = .ok (.aload_n 0, 1) := by decide +kernel
theorem dX7_panel_63 : decode cX7_panel 63 = .ok (.getfield 12, 3) := by decide +kernel
theorem dX7_panel_66 : decode cX7_panel 66 = .ok (.getfield 89, 3) := by decide +kernel
theorem dX7_panel_69 : decode cX7_panel 69 = .ok (.iload 4, 2) := by decide +kernel
theorem dX7_panel_71 : decode cX7_panel 71 = .ok (.invokevirtual 122, 3) := by decide +kernel
theorem dX7_panel_74 : decode cX7_panel 74 = .ok (.aload_n 0, 1) := by decide +kernel
theorem dX7_panel_75 : decode cX7_panel 75 = .ok (.getfield 12, 3) := by decide +kernel
theorem dX7_panel_78 : decode cX7_panel 78 = .ok (.iload_n 1, 1) := by decide +kernel
theorem dX7_panel_79 : decode cX7_panel 79 = .ok (.iload_n 2, 1) := by decide +kernel
theorem dX7_panel_80 : decode cX7_panel 80 = .ok (.iload 4, 2) := by decide +kernel
theorem dX7_panel_82 : decode cX7_panel 82 = .ok (.iload 5, 2) := by decide +kernel
theorem dX7_panel_84 : decode cX7_panel 84 = .ok (.aload_n 0, 1) := by decide +kernel
theorem dX7_panel_85 : decode cX7_panel 85 = .ok (.getfield 12, 3) := by decide +kernel
theorem dX7_panel_88 : decode cX7_panel 88 = .ok (.getfield 105, 3) := by decide +kernel
theorem dX7_panel_91 : decode cX7_panel 91 = .ok (.getfield 140, 3) := by decide +kernel
theorem dX7_panel_94 : decode cX7_panel 94 = .ok (.iload 6, 2) := by decide +kernel
theorem dX7_panel_96 : decode cX7_panel 96 = .ok (.iaload, 1) := by decide +kernel
theorem dX7_panel_97 : decode cX7_panel 97 = .ok (.invokevirtual 143, 3) := by decide +kernel
theorem dX7_panel_100 : decode cX7_panel 100 = .ok (.ireturn, 1) := by decide +kernel
theorem dX7_give_0 : decode cX7_give 0 = .ok (.aload_n 0, 1) := by decide +kernel
theorem dX7_give_1 : decode cX7_give 1 = .ok (.iload_n 1, 1) := by decide +kernel
theorem dX7_give_2 : decode cX7_give 2 = .ok (.iload_n 2, 1) := by decide +kernel
theorem dX7_give_3 : decode cX7_give 3 = .ok (.iload_n 3, 1) := by decide +kernel
theorem dX7_give_4 : decode cX7_give 4 = .ok (.iload 4, 2) := by decide +kernel
theorem dX7_give_6 : decode cX7_give 6 = .ok (.invokevirtual 129, 3) := by decide +kernel
theorem dX7_give_9 : decode cX7_give 9 = .ok (.ifCond .eq 33, 3) := by decide +kernel
theorem dX7_give_12 : decode cX7_give 12 = .ok (.aload_n 0, 1) := by decide +kernel
theorem dX7_give_13 : decode cX7_give 13 = .ok (.getfield 12, 3) := by decide +kernel
theorem dX7_give_16 : decode cX7_give 16 = .ok (.getfield 53, 3) := by decide +kernel
theorem dX7_give_19 : decode cX7_give 19 = .ok (.iload 5, 2) := by decide +kernel
theorem dX7_give_21 : decode cX7_give 21 = .ok (.invokevirtual 137, 3) := by decide +kernel
theorem dX7_give_24 : decode cX7_give 24 = .ok (.ifCond .eq 18, 3) := by decide +kernel
theorem dX7_give_27 : decode cX7_give 27 = .ok (.iload 4, 2) := by decide +kernel
theorem dX7_give_29 : decode cX7_give 29 = .ok (.aload_n 0, 1) := by decide +kernel
theorem dX7_give_30 : decode cX7_give 30 = .ok (.getfield 12, 3) := by decide +kernel
theorem dX7_give_33 : decode cX7_give 33 = .ok (.getfield 89, 3) := by decide +kernel
theorem dX7_give_36 : decode cX7_give 36 = .ok (.invokevirtual 147, 3) := by decide +kernel
theorem dX7_give_39 : decode cX7_give 39 = .ok (.if_icmp .ge 10, 3) := by decide +kernel
theorem dX7_give_42 : decode cX7_give 42 = .ok (.aload_n 0, 1) := by decide +kernel
theorem dX7_give_43 : decode cX7_give 43 = .ok (.ldc 48, 2) := by decide +kernel
theorem dX7_give_45 : decode cX7_give 45 = .ok (.invokevirtual 49, 3) := by decide +kernel
theorem dX7_give_48 : decode cX7_give 48 = .ok (.ireturn, 1) := by decide +kernel
theorem dX7_give_49 : decode cX7_give 49 = .ok (.aload_n 0, 1) := by decide +kernel
theorem dX7_give_50 : decode cX7_give 50 = .ok (.getfield 12, 3) := by decide +kernel
theorem dX7_give_53 : decode cX7_give 53 = .ok (.getfield 89, 3) := by decide +kernel
theorem dX7_give_56 : decode cX7_give 56 = .ok (.iload 4, 2) := by decide +kernel
theorem dX7_give_58 : decode cX7_give 58 = .ok (.invokevirtual 122, 3) := by decide +kernel
theorem dX7_give_61 : decode cX7_give 61 = .ok (.aload_n 0, 1) := by decide +kernel
theorem dX7_give_62 : decode cX7_give 62 = .ok (.getfield 12, 3) := by decide +kernel
theorem dX7_give_65 : decode cX7_give 65 = .ok (.getfield 105, 3) := by decide +kernel
theorem dX7_give_68 : decode cX7_give 68 = .ok (.iload_n 2, 1) := by decide +kernel
theorem dX7_give_69 : decode cX7_give 69 = .ok (.iload_n 3, 1) := by decide +kernel
theorem dX7_give_70 : decode cX7_give 70 = .ok (.iload 4, 2) := by decide +kernel
theorem dX7_give_72 : decode cX7_give 72 = .ok (.invokevirtual 118, 3) := by decide +kernel
theorem dX7_give_75 : decode cX7_give 75 = .ok (.istore 6, 2) := by decide +kernel
theorem dX7_give_77 : decode cX7_give 77 = .ok (.iload 6, 2) := by decide +kernel
theorem dX7_give_79 : decode cX7_give 79 = .ok (.ifCond .lt 47, 3) := by decide +kernel
theorem dX7_give_82 : decode cX7_give 82 = .ok (.aload_n 0, 1) := by decide +kernel
theorem dX7_give_83 : decode cX7_give 83 = .ok (.getfield 12, 3) := by decide +kernel
theorem dX7_give_86 : decode cX7_give 86 = .ok (.iload_n 1, 1) := by decide +kernel
theorem dX7_give_87 : decode cX7_give 87 = .ok (.iload_n 2, 1) := by decide +kernel
theorem dX7_give_88 : decode cX7_give 88 = .ok (.iload_n 3, 1) := by decide +kernel
theorem dX7_give_89 : decode cX7_give 89 = .ok (.iload 4, 2) := by decide +kernel
theorem dX7_give_91 : decode cX7_give 91 = .ok (.invokevirtual 133, 3) := by decide +kernel
theorem dX7_give_94 : decode cX7_give 94 = .ok (.ifCond .ne 32, 3) := by decide +kernel
theorem dX7_give_97 : decode cX7_give 97 = .ok (.aload_n 0, 1) := by decide +kernel
theorem dX7_give_98 : decode cX7_give 98 = .ok (.getfield 12, 3) := by decide +kernel
theorem dX7_give_101 : decode cX7_give 101 = .ok (.iload_n 1, 1) := by decide +kernel
theorem dX7_give_102 : decode cX7_give 102 = .ok (.iload_n 2, 1) := by decide +kernel
theorem dX7_give_103 : decode cX7_give 103 = .ok (.iload 4, 2) := by decide +kernel
theorem dX7_give_105 : decode cX7_give 105 = .ok (.iload 5, 2) := by decide +kernel
theorem dX7_give_107 : decode cX7_give 107 = .ok (.aload_n 0, 1) := by decide +kernel
theorem dX7_give_108 : decode cX7_give 108 = .ok (.getfield 12, 3) := by decide +kernel
theorem dX7_give_111 : decode cX7_give 111 = .ok (.getfield 105, 3) := by decide +kernel
theorem dX7_give_114 : decode cX7_give 114 = .ok (.getfield 140, 3) := by decide +kernel
theorem dX7_give_117 : decode cX7_give 117 = .ok (.iload 6, 2) := by decide +kernel
theorem dX7_give_119 : decode cX7_give 119 = .ok (.iaload, 1) := by decide +kernel
theorem dX7_give_120 : decode cX7_give 120 = .ok (.invokevirtual 143, 3) := by decide +kernel
theorem dX7_give_123 : decode cX7_give 123 = .ok (.ifCond .eq 10, 3) := by decide +kernel
theorem dX7_give_126 : decode cX7_give 126 = .ok (.aload_n 0, 1) := by decide +kernel
theorem dX7_give_127 : decode cX7_give 127 = .ok (.ldc 151, 2) := by decide +kernel
theorem dX7_give_129 : decode cX7_give 129 = .ok (.invokevirtual 49, 3) := by decide +kernel
theorem dX7_give_132 : decode cX7_give 132 = .ok (.ireturn, 1) := by decide +kernel
theorem dX7_give_133 : decode cX7_give 133 = .ok (.aload_n 0, 1) := by decide +kernel
theorem dX7_give_134 : decode cX7_give 134 = .ok (.getfield 12, 3) := by decide +kernel
theorem dX7_give_137 : decode cX7_give 137 = .ok (.getfield 89, 3) := by decide +kernel
theorem dX7_give_140 : decode cX7_give 140 = .ok (.getfield 152, 3) := by decide +kernel
theorem dX7_give_143 : decode cX7_give 143 = .ok (.bipush 60, 2) := by decide +kernel
theorem dX7_give_145 : decode cX7_give 145 = .ok (.if_icmp .lt 10, 3) := by decide +kernel
theorem dX7_give_148 : decode cX7_give 148 = .ok (.aload_n 0, 1) := by decide +kernel
theorem dX7_give_149 : decode cX7_give 149 = .ok (.ldc 62, 2) := by decide +kernel
theorem dX7_give_151 : decode cX7_give 151 = .ok (.invokevirtual 49, 3) := by decide +kernel
theorem dX7_give_154 : decode cX7_give 154 = .ok (.ireturn, 1) := by decide +kernel
theorem dX7_give_155 : decode cX7_give 155 = .ok (.aload_n 0, 1) := by decide +kernel
theorem dX7_give_156 : decode cX7_give 156 = .ok (.getfield 12, 3) := by decide +kernel
theorem dX7_give_159 : decode cX7_give 159 = .ok (.getfield 89, 3) := by decide +kernel
theorem dX7_give_162 : decode cX7_give 162 = .ok (.iload_n 1, 1) := by decide +kernel
theorem dX7_give_163 : decode cX7_give 163 = .ok (.iload_n 2, 1) := by decide +kernel
theorem dX7_give_164 : decode cX7_give 164 = .ok (.iload_n 3, 1) := by decide +kernel
theorem dX7_give_165 : decode cX7_give 165 = .ok (.iload 4, 2) := by decide +kernel
theorem dX7_give_167 : decode cX7_give 167 = .ok (.iload 5, 2) := by decide +kernel
theorem dX7_give_169 : decode cX7_give 169 = .ok (.invokevirtual 153, 3) := by decide +kernel
theorem dX7_give_172 : decode cX7_give 172 = .ok (.ireturn, 1) := by decide +kernel
theorem dX7_entry_0 : decode cX7_entry 0 = .ok (.aload_n 0, 1) := by decide +kernel
theorem dX7_entry_1 : decode cX7_entry 1 = .ok (.getfield 12, 3) := by decide +kernel
theorem dX7_entry_4 : decode cX7_entry 4 = .ok (.getfield 89, 3) := by decide +kernel
theorem dX7_entry_7 : decode cX7_entry 7 = .ok (.iload_n 1, 1) := by decide +kernel
theorem dX7_entry_8 : decode cX7_entry 8 = .ok (.invokevirtual 155, 3) := by decide +kernel
theorem dX7_entry_11 : decode cX7_entry 11 = .ok (.ifCond .ne 10, 3) := by decide +kernel
theorem dX7_entry_14 : decode cX7_entry 14 = .ok (.aload_n 0, 1) := by decide +kernel
theorem dX7_entry_15 : decode cX7_entry 15 = .ok (.ldc 48, 2) := by decide +kernel
theorem dX7_entry_17 : decode cX7_entry 17 = .ok (.invokevirtual 49, 3) := by decide +kernel
theorem dX7_entry_20 : decode cX7_entry 20 = .ok (.ireturn, 1) := by decide +kernel
theorem dX7_entry_21 : decode cX7_entry 21 = .ok (.iload_n 2, 1) := by decide +kernel
theorem dX7_entry_22 : decode cX7_entry 22 = .ok (.tableswitch 99 0 4 #[34, 47, 60, 73, 86], 34) := by decide +kernel
theorem dX7_entry_56 : decode cX7_entry 56 = .ok (.aload_n 0, 1) := by decide +kernel
theorem dX7_entry_57 : decode cX7_entry 57 = .ok (.getfield 12, 3) := by decide +kernel
theorem dX7_entry_60 : decode cX7_entry 60 = .ok (.getfield 89, 3) := by decide +kernel
theorem dX7_entry_63 : decode cX7_entry 63 = .ok (.getfield 156, 3) := by decide +kernel
theorem dX7_entry_66 : decode cX7_entry 66 = .ok (.iload_n 1, 1) := by decide +kernel
theorem dX7_entry_67 : decode cX7_entry 67 = .ok (.iaload, 1) := by decide +kernel
theorem dX7_entry_68 : decode cX7_entry 68 = .ok (.ireturn, 1) := by decide +kernel
theorem dX7_entry_69 : decode cX7_entry 69 = .ok (.aload_n 0, 1) := by decide +kernel
theorem dX7_entry_70 : decode cX7_entry 70 = .ok (.getfield 12, 3) := by decide +kernel
theorem dX7_entry_73 : decode cX7_entry 73 = .ok (.getfield 89, 3) := by decide +kernel
theorem dX7_entry_76 : decode cX7_entry 76 = .ok (.getfield 159, 3) := by decide +kernel
theorem dX7_entry_79 : decode cX7_entry 79 = .ok (.iload_n 1, 1) := by decide +kernel
theorem dX7_entry_80 : decode cX7_entry 80 = .ok (.iaload, 1) := by decide +kernel
theorem dX7_entry_81 : decode cX7_entry 81 = .ok (.ireturn, 1) := by decide +kernel
theorem dX7_entry_82 : decode cX7_entry 82 = .ok (.aload_n 0, 1) := by decide +kernel
theorem dX7_entry_83 : decode cX7_entry 83 = .ok (.getfield 12, 3) := by decide +kernel
theorem dX7_entry_86 : decode cX7_entry 86 = .ok (.getfield 89, 3) := by decide +kernel
theorem dX7_entry_89 : decode cX7_entry 89 = .ok (.getfield 162, 3) := by decide +kernel
theorem dX7_entry_92 : decode cX7_entry 92 = .ok (.iload_n 1, 1) := by decide +kernel
theorem dX7_entry_93 : decode cX7_entry 93 = .ok (.iaload, 1) := by decide +kernel
theorem dX7_entry_94 : decode cX7_entry 94 = .ok (.ireturn, 1) := by decide +kernel
theorem dX7_entry_95 : decode cX7_entry 95 = .ok (.aload_n 0, 1) := by decide +kernel
theorem dX7_entry_96 : decode cX7_entry 96 = .ok (.getfield 12, 3) := by decide +kernel
theorem dX7_entry_99 : decode cX7_entry 99 = .ok (.getfield 89, 3) := by decide +kernel
theorem dX7_entry_102 : decode cX7_entry 102 = .ok (.getfield 165, 3) := by decide +kernel
theorem dX7_entry_105 : decode cX7_entry 105 = .ok (.iload_n 1, 1) := by decide +kernel
theorem dX7_entry_106 : decode cX7_entry 106 = .ok (.iaload, 1) := by decide +kernel
theorem dX7_entry_107 : decode cX7_entry 107 = .ok (.ireturn, 1) := by decide +kernel
theorem dX7_entry_108 : decode cX7_entry 108 = .ok (.aload_n 0, 1) := by decide +kernel
theorem dX7_entry_109 : decode cX7_entry 109 = .ok (.getfield 12, 3) := by decide +kernel
theorem dX7_entry_112 : decode cX7_entry 112 = .ok (.getfield 89, 3) := by decide +kernel
theorem dX7_entry_115 : decode cX7_entry 115 = .ok (.getfield 168, 3) := by decide +kernel
theorem dX7_entry_118 : decode cX7_entry 118 = .ok (.iload_n 1, 1) := by decide +kernel
theorem dX7_entry_119 : decode cX7_entry 119 = .ok (.iaload, 1) := by decide +kernel
theorem dX7_entry_120 : decode cX7_entry 120 = .ok (.ireturn, 1) := by decide +kernel
theorem dX7_entry_121 : decode cX7_entry 121 = .ok (.aload_n 0, 1) := by decide +kernel
theorem dX7_entry_122 : decode cX7_entry 122 = .ok (.ldc 48, 2) := by decide +kernel
theorem dX7_entry_124 : decode cX7_entry 124 = .ok (.invokevirtual 49, 3) := by decide +kernel
theorem dX7_entry_127 : decode cX7_entry 127 = .ok (.ireturn, 1) := by decide +kernel
theorem dX7_stands_0 : decode cX7_stands 0 = .ok (.aload_n 0, 1) := by decide +kernel
theorem dX7_stands_1 : decode cX7_stands 1 = .ok (.getfield 12, 3) := by decide +kernel
theorem dX7_stands_4 : decode cX7_stands 4 = .ok (.getfield 89, 3) := by decide +kernel
theorem dX7_stands_7 : decode cX7_stands 7 = .ok (.iload_n 1, 1) := by decide +kernel
theorem dX7_stands_8 : decode cX7_stands 8 = .ok (.invokevirtual 155, 3) := by decide +kernel
theorem dX7_stands_11 : decode cX7_stands 11 = .ok (.ifCond .eq 10, 3) := by decide +kernel
theorem dX7_stands_14 : decode cX7_stands 14 = .ok (.iload_n 2, 1) := by decide +kernel
theorem dX7_stands_15 : decode cX7_stands 15 = .ok (.invokestatic 41, 3) := by decide +kernel
theorem dX7_stands_18 : decode cX7_stands 18 = .ok (.ifCond .ne 10, 3) := by decide +kernel
theorem dX7_stands_21 : decode cX7_stands 21 = .ok (.aload_n 0, 1) := by decide +kernel
theorem dX7_stands_22 : decode cX7_stands 22 = .ok (.ldc 48, 2) := by decide +kernel
theorem dX7_stands_24 : decode cX7_stands 24 = .ok (.invokevirtual 49, 3) := by decide +kernel
theorem dX7_stands_27 : decode cX7_stands 27 = .ok (.ireturn, 1) := by decide +kernel
theorem dX7_stands_28 : decode cX7_stands 28 = .ok (.aload_n 0, 1) := by decide +kernel
theorem dX7_stands_29 : decode cX7_stands 29 = .ok (.getfield 12, 3) := by decide +kernel
theorem dX7_stands_32 : decode cX7_stands 32 = .ok (.getfield 89, 3) := by decide +kernel
theorem dX7_stands_35 : decode cX7_stands 35 = .ok (.iload_n 2, 1) := by decide +kernel
theorem dX7_stands_36 : decode cX7_stands 36 = .ok (.invokevirtual 122, 3) := by decide +kernel
theorem dX7_stands_39 : decode cX7_stands 39 = .ok (.aload_n 0, 1) := by decide +kernel
theorem dX7_stands_40 : decode cX7_stands 40 = .ok (.getfield 12, 3) := by decide +kernel
theorem dX7_stands_43 : decode cX7_stands 43 = .ok (.getfield 89, 3) := by decide +kernel
theorem dX7_stands_46 : decode cX7_stands 46 = .ok (.getfield 171, 3) := by decide +kernel
theorem dX7_stands_49 : decode cX7_stands 49 = .ok (.iload_n 1, 1) := by decide +kernel
theorem dX7_stands_50 : decode cX7_stands 50 = .ok (.baload, 1) := by decide +kernel
theorem dX7_stands_51 : decode cX7_stands 51 = .ok (.ifCond .eq 7, 3) := by decide +kernel
theorem dX7_stands_54 : decode cX7_stands 54 = .ok (.iconst 1, 1) := by decide +kernel
theorem dX7_stands_55 : decode cX7_stands 55 = .ok (.goto 4, 3) := by decide +kernel
theorem dX7_stands_58 : decode cX7_stands 58 = .ok (.iconst 0, 1) := by decide +kernel
theorem dX7_stands_59 : decode cX7_stands 59 = .ok (.ireturn, 1) := by decide +kernel
theorem dX7_strike_0 : decode cX7_strike 0 = .ok (.aload_n 0, 1) := by decide +kernel
theorem dX7_strike_1 : decode cX7_strike 1 = .ok (.getfield 12, 3) := by decide +kernel
theorem dX7_strike_4 : decode cX7_strike 4 = .ok (.getfield 53, 3) := by decide +kernel
theorem dX7_strike_7 : decode cX7_strike 7 = .ok (.iload_n 1, 1) := by decide +kernel
theorem dX7_strike_8 : decode cX7_strike 8 = .ok (.invokevirtual 67, 3) := by decide +kernel
theorem dX7_strike_11 : decode cX7_strike 11 = .ok (.ifCond .eq 17, 3) := by decide +kernel
theorem dX7_strike_14 : decode cX7_strike 14 = .ok (.iload_n 2, 1) := by decide +kernel
theorem dX7_strike_15 : decode cX7_strike 15 = .ok (.invokestatic 41, 3) := by decide +kernel
theorem dX7_strike_18 : decode cX7_strike 18 = .ok (.ifCond .eq 10, 3) := by decide +kernel
theorem dX7_strike_21 : decode cX7_strike 21 = .ok (.iload_n 3, 1) := by decide +kernel
theorem dX7_strike_22 : decode cX7_strike 22 = .ok (.invokestatic 41, 3) := by decide +kernel
theorem dX7_strike_25 : decode cX7_strike 25 = .ok (.ifCond .ne 10, 3) := by decide +kernel
theorem dX7_strike_28 : decode cX7_strike 28 = .ok (.aload_n 0, 1) := by decide +kernel
theorem dX7_strike_29 : decode cX7_strike 29 = .ok (.ldc 48, 2) := by decide +kernel
theorem dX7_strike_31 : decode cX7_strike 31 = .ok (.invokevirtual 49, 3) := by decide +kernel
theorem dX7_strike_34 : decode cX7_strike 34 = .ok (.ireturn, 1) := by decide +kernel
theorem dX7_strike_35 : decode cX7_strike 35 = .ok (.aload_n 0, 1) := by decide +kernel
theorem dX7_strike_36 : decode cX7_strike 36 = .ok (.getfield 12, 3) := by decide +kernel
theorem dX7_strike_39 : decode cX7_strike 39 = .ok (.getfield 53, 3) := by decide +kernel
theorem dX7_strike_42 : decode cX7_strike 42 = .ok (.iload_n 1, 1) := by decide +kernel
theorem dX7_strike_43 : decode cX7_strike 43 = .ok (.invokevirtual 175, 3) := by decide +kernel
theorem dX7_strike_46 : decode cX7_strike 46 = .ok (.ifCond .ne 10, 3) := by decide +kernel
theorem dX7_strike_49 : decode cX7_strike 49 = .ok (.aload_n 0, 1) := by decide +kernel
theorem dX7_strike_50 : decode cX7_strike 50 = .ok (.ldc 73, 2) := by decide +kernel
theorem dX7_strike_52 : decode cX7_strike 52 = .ok (.invokevirtual 49, 3) := by decide +kernel
theorem dX7_strike_55 : decode cX7_strike 55 = .ok (.ireturn, 1) := by decide +kernel
theorem dX7_strike_56 : decode cX7_strike 56 = .ok (.aload_n 0, 1) := by decide +kernel
theorem dX7_strike_57 : decode cX7_strike 57 = .ok (.getfield 12, 3) := by decide +kernel
theorem dX7_strike_60 : decode cX7_strike 60 = .ok (.getfield 89, 3) := by decide +kernel
theorem dX7_strike_63 : decode cX7_strike 63 = .ok (.getfield 178, 3) := by decide +kernel
theorem dX7_strike_66 : decode cX7_strike 66 = .ok (.getfield 182, 3) := by decide +kernel
theorem dX7_strike_69 : decode cX7_strike 69 = .ok (.bipush 20, 2) := by decide +kernel
theorem dX7_strike_71 : decode cX7_strike 71 = .ok (.if_icmp .lt 10, 3) := by decide +kernel
theorem dX7_strike_74 : decode cX7_strike 74 = .ok (.aload_n 0, 1) := by decide +kernel
theorem dX7_strike_75 : decode cX7_strike 75 = .ok (.ldc 62, 2) := by decide +kernel
theorem dX7_strike_77 : decode cX7_strike 77 = .ok (.invokevirtual 49, 3) := by decide +kernel
theorem dX7_strike_80 : decode cX7_strike 80 = .ok (.ireturn, 1) := by decide +kernel
theorem dX7_strike_81 : decode cX7_strike 81 = .ok (.aload_n 0, 1) := by decide +kernel
theorem dX7_strike_82 : decode cX7_strike 82 = .ok (.getfield 12, 3) := by decide +kernel
theorem dX7_strike_85 : decode cX7_strike 85 = .ok (.getfield 89, 3) := by decide +kernel
theorem dX7_strike_88 : decode cX7_strike 88 = .ok (.invokevirtual 185, 3) := by decide +kernel
theorem dX7_strike_91 : decode cX7_strike 91 = .ok (.istore 4, 2) := by decide +kernel
theorem dX7_strike_93 : decode cX7_strike 93 = .ok (.aload_n 0, 1) := by decide +kernel
theorem dX7_strike_94 : decode cX7_strike 94 = .ok (.getfield 12, 3) := by decide +kernel
theorem dX7_strike_97 : decode cX7_strike 97 = .ok (.getfield 89, 3) := by decide +kernel
theorem dX7_strike_100 : decode cX7_strike 100 = .ok (.getfield 178, 3) := by decide +kernel
theorem dX7_strike_103 : decode cX7_strike 103 = .ok (.iload_n 1, 1) := by decide +kernel
theorem dX7_strike_104 : decode cX7_strike 104 = .ok (.iload_n 2, 1) := by decide +kernel
theorem dX7_strike_105 : decode cX7_strike 105 = .ok (.iload_n 3, 1) := by decide +kernel
theorem dX7_strike_106 : decode cX7_strike 106 = .ok (.invokevirtual 188, 3) := by decide +kernel
theorem dX7_strike_109 : decode cX7_strike 109 = .ok (.iload 4, 2) := by decide +kernel
theorem dX7_strike_111 : decode cX7_strike 111 = .ok (.aload_n 0, 1) := by decide +kernel
theorem dX7_strike_112 : decode cX7_strike 112 = .ok (.getfield 12, 3) := by decide +kernel
theorem dX7_strike_115 : decode cX7_strike 115 = .ok (.getfield 89, 3) := by decide +kernel
theorem dX7_strike_118 : decode cX7_strike 118 = .ok (.invokevirtual 185, 3) := by decide +kernel
theorem dX7_strike_121 : decode cX7_strike 121 = .ok (.isub, 1) := by decide +kernel
theorem dX7_strike_122 : decode cX7_strike 122 = .ok (.ireturn, 1) := by decide +kernel
theorem dX7_unstrike_0 : decode cX7_unstrike 0 = .ok (.aload_n 0, 1) := by decide +kernel
theorem dX7_unstrike_1 : decode cX7_unstrike 1 = .ok (.getfield 12, 3) := by decide +kernel
theorem dX7_unstrike_4 : decode cX7_unstrike 4 = .ok (.getfield 89, 3) := by decide +kernel
theorem dX7_unstrike_7 : decode cX7_unstrike 7 = .ok (.getfield 178, 3) := by decide +kernel
theorem dX7_unstrike_10 : decode cX7_unstrike 10 = .ok (.getfield 182, 3) := by decide +kernel
theorem dX7_unstrike_13 : decode cX7_unstrike 13 = .ok (.ifCond .gt 10, 3) := by decide +kernel
theorem dX7_unstrike_16 : decode cX7_unstrike 16 = .ok (.aload_n 0, 1) := by decide +kernel
theorem dX7_unstrike_17 : decode cX7_unstrike 17 = .ok (.ldc 121, 2) := by decide +kernel
theorem dX7_unstrike_19 : decode cX7_unstrike 19 = .ok (.invokevirtual 49, 3) := by decide +kernel
theorem dX7_unstrike_22 : decode cX7_unstrike 22 = .ok (.ireturn, 1) := by decide +kernel
theorem dX7_unstrike_23 : decode cX7_unstrike 23 = .ok (.aload_n 0, 1) := by decide +kernel
theorem dX7_unstrike_24 : decode cX7_unstrike 24 = .ok (.getfield 12, 3) := by decide +kernel
theorem dX7_unstrike_27 : decode cX7_unstrike 27 = .ok (.getfield 89, 3) := by decide +kernel
theorem dX7_unstrike_30 : decode cX7_unstrike 30 = .ok (.getfield 178, 3) := by decide +kernel
theorem dX7_unstrike_33 : decode cX7_unstrike 33 = .ok (.dup, 1) := by decide +kernel
theorem dX7_unstrike_34 : decode cX7_unstrike 34 = .ok (.getfield 182, 3) := by decide +kernel
theorem dX7_unstrike_37 : decode cX7_unstrike 37 = .ok (.iconst 1, 1) := by decide +kernel
theorem dX7_unstrike_38 : decode cX7_unstrike 38 = .ok (.isub, 1) := by decide +kernel
theorem dX7_unstrike_39 : decode cX7_unstrike 39 = .ok (.putfield 182, 3) := by decide +kernel
theorem dX7_unstrike_42 : decode cX7_unstrike 42 = .ok (.aload_n 0, 1) := by decide +kernel
theorem dX7_unstrike_43 : decode cX7_unstrike 43 = .ok (.getfield 12, 3) := by decide +kernel
theorem dX7_unstrike_46 : decode cX7_unstrike 46 = .ok (.getfield 89, 3) := by decide +kernel
theorem dX7_unstrike_49 : decode cX7_unstrike 49 = .ok (.getfield 178, 3) := by decide +kernel
theorem dX7_unstrike_52 : decode cX7_unstrike 52 = .ok (.getfield 182, 3) := by decide +kernel
theorem dX7_unstrike_55 : decode cX7_unstrike 55 = .ok (.ireturn, 1) := by decide +kernel
theorem dX7_wait_0 : decode cX7_wait 0 = .ok (.aload_n 0, 1) := by decide +kernel
theorem dX7_wait_1 : decode cX7_wait 1 = .ok (.getfield 12, 3) := by decide +kernel
theorem dX7_wait_4 : decode cX7_wait 4 = .ok (.getfield 53, 3) := by decide +kernel
theorem dX7_wait_7 : decode cX7_wait 7 = .ok (.iload_n 1, 1) := by decide +kernel
theorem dX7_wait_8 : decode cX7_wait 8 = .ok (.invokevirtual 67, 3) := by decide +kernel
theorem dX7_wait_11 : decode cX7_wait 11 = .ok (.ifCond .ne 10, 3) := by decide +kernel
theorem dX7_wait_14 : decode cX7_wait 14 = .ok (.aload_n 0, 1) := by decide +kernel
theorem dX7_wait_15 : decode cX7_wait 15 = .ok (.ldc 48, 2) := by decide +kernel
theorem dX7_wait_17 : decode cX7_wait 17 = .ok (.invokevirtual 49, 3) := by decide +kernel
theorem dX7_wait_20 : decode cX7_wait 20 = .ok (.ireturn, 1) := by decide +kernel
theorem dX7_wait_21 : decode cX7_wait 21 = .ok (.aload_n 0, 1) := by decide +kernel
theorem dX7_wait_22 : decode cX7_wait 22 = .ok (.getfield 19, 3) := by decide +kernel
theorem dX7_wait_25 : decode cX7_wait 25 = .ok (.iload_n 1, 1) := by decide +kernel
theorem dX7_wait_26 : decode cX7_wait 26 = .ok (.invokevirtual 191, 3) := by decide +kernel
theorem dX7_wait_29 : decode cX7_wait 29 = .ok (.ifCond .eq 10, 3) := by decide +kernel
theorem dX7_wait_32 : decode cX7_wait 32 = .ok (.aload_n 0, 1) := by decide +kernel
theorem dX7_wait_33 : decode cX7_wait 33 = .ok (.ldc 151, 2) := by decide +kernel
theorem dX7_wait_35 : decode cX7_wait 35 = .ok (.invokevirtual 49, 3) := by decide +kernel
theorem dX7_wait_38 : decode cX7_wait 38 = .ok (.ireturn, 1) := by decide +kernel
theorem dX7_wait_39 : decode cX7_wait 39 = .ok (.aload_n 0, 1) := by decide +kernel
theorem dX7_wait_40 : decode cX7_wait 40 = .ok (.getfield 19, 3) := by decide +kernel
theorem dX7_wait_43 : decode cX7_wait 43 = .ok (.getfield 192, 3) := by decide +kernel
theorem dX7_wait_46 : decode cX7_wait 46 = .ok (.iconst 4, 1) := by decide +kernel
theorem dX7_wait_47 : decode cX7_wait 47 = .ok (.if_icmp .lt 10, 3) := by decide +kernel
theorem dX7_wait_50 : decode cX7_wait 50 = .ok (.aload_n 0, 1) := by decide +kernel
theorem dX7_wait_51 : decode cX7_wait 51 = .ok (.ldc 62, 2) := by decide +kernel
theorem dX7_wait_53 : decode cX7_wait 53 = .ok (.invokevirtual 49, 3) := by decide +kernel
theorem dX7_wait_56 : decode cX7_wait 56 = .ok (.ireturn, 1) := by decide +kernel
theorem dX7_wait_57 : decode cX7_wait 57 = .ok (.aload_n 0, 1) := by decide +kernel
theorem dX7_wait_58 : decode cX7_wait 58 = .ok (.getfield 19, 3) := by decide +kernel
theorem dX7_wait_61 : decode cX7_wait 61 = .ok (.iload_n 1, 1) := by decide +kernel
theorem dX7_wait_62 : decode cX7_wait 62 = .ok (.invokevirtual 193, 3) := by decide +kernel
theorem dX7_wait_65 : decode cX7_wait 65 = .ok (.aload_n 0, 1) := by decide +kernel
theorem dX7_wait_66 : decode cX7_wait 66 = .ok (.getfield 19, 3) := by decide +kernel
theorem dX7_wait_69 : decode cX7_wait 69 = .ok (.getfield 192, 3) := by decide +kernel
theorem dX7_wait_72 : decode cX7_wait 72 = .ok (.ireturn, 1) := by decide +kernel
theorem dX7_go_0 : decode cX7_go 0 = .ok (.aload_n 0, 1) := by decide +kernel
theorem dX7_go_1 : decode cX7_go 1 = .ok (.getfield 19, 3) := by decide +kernel
theorem dX7_go_4 : decode cX7_go 4 = .ok (.getfield 192, 3) := by decide +kernel
theorem dX7_go_7 : decode cX7_go 7 = .ok (.istore_n 1, 1) := by decide +kernel
theorem dX7_go_8 : decode cX7_go 8 = .ok (.aload_n 0, 1) := by decide +kernel
theorem dX7_go_9 : decode cX7_go 9 = .ok (.getfield 19, 3) := by decide +kernel
theorem dX7_go_12 : decode cX7_go 12 = .ok (.invokevirtual 195, 3) := by decide +kernel
theorem dX7_go_15 : decode cX7_go 15 = .ok (.iload_n 1, 1) := by decide +kernel
theorem dX7_go_16 : decode cX7_go 16 = .ok (.ireturn, 1) := by decide +kernel
theorem dX7_best_0 : decode cX7_best 0 = .ok (.iload_n 1, 1) := by decide +kernel
theorem dX7_best_1 : decode cX7_best 1 = .ok (.invokestatic 83, 3) := by decide +kernel
theorem dX7_best_4 : decode cX7_best 4 = .ok (.ifCond .eq 19, 3) := by decide +kernel
theorem dX7_best_7 : decode cX7_best 7 = .ok (.iload_n 2, 1) := by decide +kernel
theorem dX7_best_8 : decode cX7_best 8 = .ok (.invokestatic 41, 3) := by decide +kernel
theorem dX7_best_11 : decode cX7_best 11 = .ok (.ifCond .eq 12, 3) := by decide +kernel
theorem dX7_best_14 : decode cX7_best 14 = .ok (.iload_n 3, 1) := by decide +kernel
theorem dX7_best_15 : decode cX7_best 15 = .ok (.iconst 1, 1) := by decide +kernel
theorem dX7_best_16 : decode cX7_best 16 = .ok (.iconst 4, 1) := by decide +kernel
theorem dX7_best_17 : decode cX7_best 17 = .ok (.invokestatic 44, 3) := by decide +kernel
theorem dX7_best_20 : decode cX7_best 20 = .ok (.ifCond .ne 10, 3) := by decide +kernel
theorem dX7_best_23 : decode cX7_best 23 = .ok (.aload_n 0, 1) := by decide +kernel
theorem dX7_best_24 : decode cX7_best 24 = .ok (.ldc 48, 2) := by decide +kernel
theorem dX7_best_26 : decode cX7_best 26 = .ok (.invokevirtual 49, 3) := by decide +kernel
theorem dX7_best_29 : decode cX7_best 29 = .ok (.ireturn, 1) := by decide +kernel
theorem dX7_best_30 : decode cX7_best 30 = .ok (.aload_n 0, 1) := by decide +kernel
theorem dX7_best_31 : decode cX7_best 31 = .ok (.getfield 12, 3) := by decide +kernel
theorem dX7_best_34 : decode cX7_best 34 = .ok (.getfield 89, 3) := by decide +kernel
theorem dX7_best_37 : decode cX7_best 37 = .ok (.iload_n 2, 1) := by decide +kernel
theorem dX7_best_38 : decode cX7_best 38 = .ok (.invokevirtual 122, 3) := by decide +kernel
theorem dX7_best_41 : decode cX7_best 41 = .ok (.aload_n 0, 1) := by decide +kernel
theorem dX7_best_42 : decode cX7_best 42 = .ok (.getfield 19, 3) := by decide +kernel
theorem dX7_best_45 : decode cX7_best 45 = .ok (.aload_n 0, 1) := by decide +kernel
theorem dX7_best_46 : decode cX7_best 46 = .ok (.getfield 12, 3) := by decide +kernel
theorem dX7_best_49 : decode cX7_best 49 = .ok (.iload_n 1, 1) := by decide +kernel
theorem dX7_best_50 : decode cX7_best 50 = .ok (.iload_n 2, 1) := by decide +kernel
theorem dX7_best_51 : decode cX7_best 51 = .ok (.iload_n 3, 1) := by decide +kernel
theorem dX7_best_52 : decode cX7_best 52 = .ok (.invokevirtual 198, 3) := by decide +kernel
theorem dX7_best_55 : decode cX7_best 55 = .ok (.ireturn, 1) := by decide +kernel
theorem dX7_given_0 : decode cX7_given 0 = .ok (.iload_n 1, 1) := by decide +kernel
theorem dX7_given_1 : decode cX7_given 1 = .ok (.iconst 0, 1) := by decide +kernel
theorem dX7_given_2 : decode cX7_given 2 = .ok (.aload_n 0, 1) := by decide +kernel
theorem dX7_given_3 : decode cX7_given 3 = .ok (.getfield 19, 3) := by decide +kernel
theorem dX7_given_6 : decode cX7_given 6 = .ok (.getfield 192, 3) := by decide +kernel
theorem dX7_given_9 : decode cX7_given 9 = .ok (.iconst 1, 1) := by decide +kernel
theorem dX7_given_10 : decode cX7_given 10 = .ok (.isub, 1) := by decide +kernel
theorem dX7_given_11 : decode cX7_given 11 = .ok (.invokestatic 44, 3) := by decide +kernel
theorem dX7_given_14 : decode cX7_given 14 = .ok (.ifCond .ne 10, 3) := by decide +kernel
theorem dX7_given_17 : decode cX7_given 17 = .ok (.aload_n 0, 1) := by decide +kernel
theorem dX7_given_18 : decode cX7_given 18 = .ok (.ldc 48, 2) := by decide +kernel
theorem dX7_given_20 : decode cX7_given 20 = .ok (.invokevirtual 49, 3) := by decide +kernel
theorem dX7_given_23 : decode cX7_given 23 = .ok (.ireturn, 1) := by decide +kernel
theorem dX7_given_24 : decode cX7_given 24 = .ok (.aload_n 0, 1) := by decide +kernel
theorem dX7_given_25 : decode cX7_given 25 = .ok (.getfield 19, 3) := by decide +kernel
theorem dX7_given_28 : decode cX7_given 28 = .ok (.getfield 202, 3) := by decide +kernel
theorem dX7_given_31 : decode cX7_given 31 = .ok (.ifCond .ne 10, 3) := by decide +kernel
theorem dX7_given_34 : decode cX7_given 34 = .ok (.aload_n 0, 1) := by decide +kernel
theorem dX7_given_35 : decode cX7_given 35 = .ok (.ldc 151, 2) := by decide +kernel
theorem dX7_given_37 : decode cX7_given 37 = .ok (.invokevirtual 49, 3) := by decide +kernel
theorem dX7_given_40 : decode cX7_given 40 = .ok (.ireturn, 1) := by decide +kernel
theorem dX7_given_41 : decode cX7_given 41 = .ok (.aload_n 0, 1) := by decide +kernel
theorem dX7_given_42 : decode cX7_given 42 = .ok (.getfield 19, 3) := by decide +kernel
theorem dX7_given_45 : decode cX7_given 45 = .ok (.getfield 206, 3) := by decide +kernel
theorem dX7_given_48 : decode cX7_given 48 = .ok (.iload_n 1, 1) := by decide +kernel
theorem dX7_given_49 : decode cX7_given 49 = .ok (.iaload, 1) := by decide +kernel
theorem dX7_given_50 : decode cX7_given 50 = .ok (.ireturn, 1) := by decide +kernel
theorem dX7_exam_0 : decode cX7_exam 0 = .ok (.aload_n 0, 1) := by decide +kernel
theorem dX7_exam_1 : decode cX7_exam 1 = .ok (.getfield 26, 3) := by decide +kernel
theorem dX7_exam_4 : decode cX7_exam 4 = .ok (.getfield 209, 3) := by decide +kernel
theorem dX7_exam_7 : decode cX7_exam 7 = .ok (.bipush 20, 2) := by decide +kernel
theorem dX7_exam_9 : decode cX7_exam 9 = .ok (.if_icmp .lt 10, 3) := by decide +kernel
theorem dX7_exam_12 : decode cX7_exam 12 = .ok (.aload_n 0, 1) := by decide +kernel
theorem dX7_exam_13 : decode cX7_exam 13 = .ok (.ldc 62, 2) := by decide +kernel
theorem dX7_exam_15 : decode cX7_exam 15 = .ok (.invokevirtual 49, 3) := by decide +kernel
theorem dX7_exam_18 : decode cX7_exam 18 = .ok (.ireturn, 1) := by decide +kernel
theorem dX7_exam_19 : decode cX7_exam 19 = .ok (.aload_n 0, 1) := by decide +kernel
theorem dX7_exam_20 : decode cX7_exam 20 = .ok (.getfield 26, 3) := by decide +kernel
theorem dX7_exam_23 : decode cX7_exam 23 = .ok (.invokevirtual 210, 3) := by decide +kernel
theorem dX7_exam_26 : decode cX7_exam 26 = .ok (.ireturn, 1) := by decide +kernel
theorem dX7_mark_0 : decode cX7_mark 0 = .ok (.aload_n 0, 1) := by decide +kernel
theorem dX7_mark_1 : decode cX7_mark 1 = .ok (.getfield 26, 3) := by decide +kernel
theorem dX7_mark_4 : decode cX7_mark 4 = .ok (.iload_n 1, 1) := by decide +kernel
theorem dX7_mark_5 : decode cX7_mark 5 = .ok (.invokevirtual 212, 3) := by decide +kernel
theorem dX7_mark_8 : decode cX7_mark 8 = .ok (.ifCond .eq 27, 3) := by decide +kernel
theorem dX7_mark_11 : decode cX7_mark 11 = .ok (.aload_n 0, 1) := by decide +kernel
theorem dX7_mark_12 : decode cX7_mark 12 = .ok (.getfield 12, 3) := by decide +kernel
theorem dX7_mark_15 : decode cX7_mark 15 = .ok (.getfield 53, 3) := by decide +kernel
theorem dX7_mark_18 : decode cX7_mark 18 = .ok (.iload_n 2, 1) := by decide +kernel
theorem dX7_mark_19 : decode cX7_mark 19 = .ok (.invokevirtual 67, 3) := by decide +kernel
theorem dX7_mark_22 : decode cX7_mark 22 = .ok (.ifCond .eq 13, 3) := by decide +kernel
theorem dX7_mark_25 : decode cX7_mark 25 = .ok (.iload_n 3, 1) := by decide +kernel
theorem dX7_mark_26 : decode cX7_mark 26 = .ok (.iconst 0, 1) := by decide +kernel
theorem dX7_mark_27 : decode cX7_mark 27 = .ok (.bipush 100, 2) := by decide +kernel
theorem dX7_mark_29 : decode cX7_mark 29 = .ok (.invokestatic 44, 3) := by decide +kernel
theorem dX7_mark_32 : decode cX7_mark 32 = .ok (.ifCond .ne 10, 3) := by decide +kernel
theorem dX7_mark_35 : decode cX7_mark 35 = .ok (.aload_n 0, 1) := by decide +kernel
theorem dX7_mark_36 : decode cX7_mark 36 = .ok (.ldc 48, 2) := by decide +kernel
theorem dX7_mark_38 : decode cX7_mark 38 = .ok (.invokevirtual 49, 3) := by decide +kernel
theorem dX7_mark_41 : decode cX7_mark 41 = .ok (.ireturn, 1) := by decide +kernel
theorem dX7_mark_42 : decode cX7_mark 42 = .ok (.aload_n 0, 1) := by decide +kernel
theorem dX7_mark_43 : decode cX7_mark 43 = .ok (.getfield 12, 3) := by decide +kernel
theorem dX7_mark_46 : decode cX7_mark 46 = .ok (.getfield 53, 3) := by decide +kernel
theorem dX7_mark_49 : decode cX7_mark 49 = .ok (.iload_n 2, 1) := by decide +kernel
theorem dX7_mark_50 : decode cX7_mark 50 = .ok (.invokevirtual 175, 3) := by decide +kernel
theorem dX7_mark_53 : decode cX7_mark 53 = .ok (.ifCond .ne 10, 3) := by decide +kernel
theorem dX7_mark_56 : decode cX7_mark 56 = .ok (.aload_n 0, 1) := by decide +kernel
theorem dX7_mark_57 : decode cX7_mark 57 = .ok (.ldc 73, 2) := by decide +kernel
theorem dX7_mark_59 : decode cX7_mark 59 = .ok (.invokevirtual 49, 3) := by decide +kernel
theorem dX7_mark_62 : decode cX7_mark 62 = .ok (.ireturn, 1) := by decide +kernel
theorem dX7_mark_63 : decode cX7_mark 63 = .ok (.aload_n 0, 1) := by decide +kernel
theorem dX7_mark_64 : decode cX7_mark 64 = .ok (.getfield 26, 3) := by decide +kernel
theorem dX7_mark_67 : decode cX7_mark 67 = .ok (.iload_n 1, 1) := by decide +kernel
theorem dX7_mark_68 : decode cX7_mark 68 = .ok (.iload_n 2, 1) := by decide +kernel
theorem dX7_mark_69 : decode cX7_mark 69 = .ok (.invokevirtual 213, 3) := by decide +kernel
theorem dX7_mark_72 : decode cX7_mark 72 = .ok (.istore 4, 2) := by decide +kernel
theorem dX7_mark_74 : decode cX7_mark 74 = .ok (.iload 4, 2) := by decide +kernel
theorem dX7_mark_76 : decode cX7_mark 76 = .ok (.iconst 5, 1) := by decide +kernel
theorem dX7_mark_77 : decode cX7_mark 77 = .ok (.if_icmp .lt 10, 3) := by decide +kernel
theorem dX7_mark_80 : decode cX7_mark 80 = .ok (.aload_n 0, 1) := by decide +kernel
theorem dX7_mark_81 : decode cX7_mark 81 = .ok (.ldc 62, 2) := by decide +kernel
theorem dX7_mark_83 : decode cX7_mark 83 = .ok (.invokevirtual 49, 3) := by decide +kernel
theorem dX7_mark_86 : decode cX7_mark 86 = .ok (.ireturn, 1) := by decide +kernel
theorem dX7_mark_87 : decode cX7_mark 87 = .ok (.aload_n 0, 1) := by decide +kernel
theorem dX7_mark_88 : decode cX7_mark 88 = .ok (.getfield 26, 3) := by decide +kernel
theorem dX7_mark_91 : decode cX7_mark 91 = .ok (.iload_n 1, 1) := by decide +kernel
theorem dX7_mark_92 : decode cX7_mark 92 = .ok (.iload 4, 2) := by decide +kernel
theorem dX7_mark_94 : decode cX7_mark 94 = .ok (.iload_n 2, 1) := by decide +kernel
theorem dX7_mark_95 : decode cX7_mark 95 = .ok (.iload_n 3, 1) := by decide +kernel
theorem dX7_mark_96 : decode cX7_mark 96 = .ok (.invokevirtual 217, 3) := by decide +kernel
theorem dX7_mark_99 : decode cX7_mark 99 = .ok (.ireturn, 1) := by decide +kernel
theorem dX7_middle_0 : decode cX7_middle 0 = .ok (.aload_n 0, 1) := by decide +kernel
theorem dX7_middle_1 : decode cX7_middle 1 = .ok (.getfield 26, 3) := by decide +kernel
theorem dX7_middle_4 : decode cX7_middle 4 = .ok (.iload_n 1, 1) := by decide +kernel
theorem dX7_middle_5 : decode cX7_middle 5 = .ok (.invokevirtual 212, 3) := by decide +kernel
theorem dX7_middle_8 : decode cX7_middle 8 = .ok (.ifCond .ne 10, 3) := by decide +kernel
theorem dX7_middle_11 : decode cX7_middle 11 = .ok (.aload_n 0, 1) := by decide +kernel
theorem dX7_middle_12 : decode cX7_middle 12 = .ok (.ldc 48, 2) := by decide +kernel
theorem dX7_middle_14 : decode cX7_middle 14 = .ok (.invokevirtual 49, 3) := by decide +kernel
theorem dX7_middle_17 : decode cX7_middle 17 = .ok (.ireturn, 1) := by decide +kernel
theorem dX7_middle_18 : decode cX7_middle 18 = .ok (.aload_n 0, 1) := by decide +kernel
theorem dX7_middle_19 : decode cX7_middle 19 = .ok (.getfield 26, 3) := by decide +kernel
theorem dX7_middle_22 : decode cX7_middle 22 = .ok (.iload_n 1, 1) := by decide +kernel
theorem dX7_middle_23 : decode cX7_middle 23 = .ok (.invokevirtual 220, 3) := by decide +kernel
theorem dX7_middle_26 : decode cX7_middle 26 = .ok (.ifCond .ne 10, 3) := by decide +kernel
theorem dX7_middle_29 : decode cX7_middle 29 = .ok (.aload_n 0, 1) := by decide +kernel
theorem dX7_middle_30 : decode cX7_middle 30 = .ok (.ldc 151, 2) := by decide +kernel
theorem dX7_middle_32 : decode cX7_middle 32 = .ok (.invokevirtual 49, 3) := by decide +kernel
theorem dX7_middle_35 : decode cX7_middle 35 = .ok (.ireturn, 1) := by decide +kernel
theorem dX7_middle_36 : decode cX7_middle 36 = .ok (.aload_n 0, 1) := by decide +kernel
theorem dX7_middle_37 : decode cX7_middle 37 = .ok (.getfield 26, 3) := by decide +kernel
theorem dX7_middle_40 : decode cX7_middle 40 = .ok (.iload_n 1, 1) := by decide +kernel
theorem dX7_middle_41 : decode cX7_middle 41 = .ok (.invokevirtual 223, 3) := by decide +kernel
theorem dX7_middle_44 : decode cX7_middle 44 = .ok (.ireturn, 1) := by decide +kernel
theorem dX7_apart_0 : decode cX7_apart 0 = .ok (.aload_n 0, 1) := by decide +kernel
theorem dX7_apart_1 : decode cX7_apart 1 = .ok (.getfield 26, 3) := by decide +kernel
theorem dX7_apart_4 : decode cX7_apart 4 = .ok (.iload_n 1, 1) := by decide +kernel
theorem dX7_apart_5 : decode cX7_apart 5 = .ok (.invokevirtual 212, 3) := by decide +kernel
theorem dX7_apart_8 : decode cX7_apart 8 = .ok (.ifCond .eq 13, 3) := by decide +kernel
theorem dX7_apart_11 : decode cX7_apart 11 = .ok (.iload_n 2, 1) := by decide +kernel
theorem dX7_apart_12 : decode cX7_apart 12 = .ok (.iconst 0, 1) := by decide +kernel
theorem dX7_apart_13 : decode cX7_apart 13 = .ok (.bipush 100, 2) := by decide +kernel
theorem dX7_apart_15 : decode cX7_apart 15 = .ok (.invokestatic 44, 3) := by decide +kernel
theorem dX7_apart_18 : decode cX7_apart 18 = .ok (.ifCond .ne 10, 3) := by decide +kernel
theorem dX7_apart_21 : decode cX7_apart 21 = .ok (.aload_n 0, 1) := by decide +kernel
theorem dX7_apart_22 : decode cX7_apart 22 = .ok (.ldc 48, 2) := by decide +kernel
theorem dX7_apart_24 : decode cX7_apart 24 = .ok (.invokevirtual 49, 3) := by decide +kernel
theorem dX7_apart_27 : decode cX7_apart 27 = .ok (.ireturn, 1) := by decide +kernel
theorem dX7_apart_28 : decode cX7_apart 28 = .ok (.aload_n 0, 1) := by decide +kernel
theorem dX7_apart_29 : decode cX7_apart 29 = .ok (.getfield 26, 3) := by decide +kernel
theorem dX7_apart_32 : decode cX7_apart 32 = .ok (.iload_n 1, 1) := by decide +kernel
theorem dX7_apart_33 : decode cX7_apart 33 = .ok (.invokevirtual 220, 3) := by decide +kernel
theorem dX7_apart_36 : decode cX7_apart 36 = .ok (.ifCond .ne 10, 3) := by decide +kernel
theorem dX7_apart_39 : decode cX7_apart 39 = .ok (.aload_n 0, 1) := by decide +kernel
theorem dX7_apart_40 : decode cX7_apart 40 = .ok (.ldc 151, 2) := by decide +kernel
theorem dX7_apart_42 : decode cX7_apart 42 = .ok (.invokevirtual 49, 3) := by decide +kernel
theorem dX7_apart_45 : decode cX7_apart 45 = .ok (.ireturn, 1) := by decide +kernel
theorem dX7_apart_46 : decode cX7_apart 46 = .ok (.aload_n 0, 1) := by decide +kernel
theorem dX7_apart_47 : decode cX7_apart 47 = .ok (.getfield 26, 3) := by decide +kernel
theorem dX7_apart_50 : decode cX7_apart 50 = .ok (.iload_n 1, 1) := by decide +kernel
theorem dX7_apart_51 : decode cX7_apart 51 = .ok (.iload_n 2, 1) := by decide +kernel
theorem dX7_apart_52 : decode cX7_apart 52 = .ok (.invokevirtual 226, 3) := by decide +kernel
theorem dX7_apart_55 : decode cX7_apart 55 = .ok (.ireturn, 1) := by decide +kernel
theorem dX7_hard_0 : decode cX7_hard 0 = .ok (.aload_n 0, 1) := by decide +kernel
theorem dX7_hard_1 : decode cX7_hard 1 = .ok (.getfield 12, 3) := by decide +kernel
theorem dX7_hard_4 : decode cX7_hard 4 = .ok (.getfield 53, 3) := by decide +kernel
theorem dX7_hard_7 : decode cX7_hard 7 = .ok (.iload_n 1, 1) := by decide +kernel
theorem dX7_hard_8 : decode cX7_hard 8 = .ok (.invokevirtual 67, 3) := by decide +kernel
theorem dX7_hard_11 : decode cX7_hard 11 = .ok (.ifCond .ne 10, 3) := by decide +kernel
theorem dX7_hard_14 : decode cX7_hard 14 = .ok (.aload_n 0, 1) := by decide +kernel
theorem dX7_hard_15 : decode cX7_hard 15 = .ok (.ldc 48, 2) := by decide +kernel
theorem dX7_hard_17 : decode cX7_hard 17 = .ok (.invokevirtual 49, 3) := by decide +kernel
theorem dX7_hard_20 : decode cX7_hard 20 = .ok (.ireturn, 1) := by decide +kernel
theorem dX7_hard_21 : decode cX7_hard 21 = .ok (.aload_n 0, 1) := by decide +kernel
theorem dX7_hard_22 : decode cX7_hard 22 = .ok (.getfield 12, 3) := by decide +kernel
theorem dX7_hard_25 : decode cX7_hard 25 = .ok (.getfield 53, 3) := by decide +kernel
theorem dX7_hard_28 : decode cX7_hard 28 = .ok (.iload_n 1, 1) := by decide +kernel
theorem dX7_hard_29 : decode cX7_hard 29 = .ok (.invokevirtual 175, 3) := by decide +kernel
theorem dX7_hard_32 : decode cX7_hard 32 = .ok (.ifCond .ne 10, 3) := by decide +kernel
theorem dX7_hard_35 : decode cX7_hard 35 = .ok (.aload_n 0, 1) := by decide +kernel
theorem dX7_hard_36 : decode cX7_hard 36 = .ok (.ldc 73, 2) := by decide +kernel
theorem dX7_hard_38 : decode cX7_hard 38 = .ok (.invokevirtual 49, 3) := by decide +kernel
theorem dX7_hard_41 : decode cX7_hard 41 = .ok (.ireturn, 1) := by decide +kernel
theorem dX7_hard_42 : decode cX7_hard 42 = .ok (.aload_n 0, 1) := by decide +kernel
theorem dX7_hard_43 : decode cX7_hard 43 = .ok (.getfield 26, 3) := by decide +kernel
theorem dX7_hard_46 : decode cX7_hard 46 = .ok (.iload_n 1, 1) := by decide +kernel
theorem dX7_hard_47 : decode cX7_hard 47 = .ok (.invokevirtual 229, 3) := by decide +kernel
theorem dX7_hard_50 : decode cX7_hard 50 = .ok (.ireturn, 1) := by decide +kernel
theorem dX7_tell_0 : decode cX7_tell 0 = .ok (.aload_n 0, 1) := by decide +kernel
theorem dX7_tell_1 : decode cX7_tell 1 = .ok (.getfield 232, 3) := by decide +kernel
theorem dX7_tell_4 : decode cX7_tell 4 = .ok (.bipush 20, 2) := by decide +kernel
theorem dX7_tell_6 : decode cX7_tell 6 = .ok (.if_icmp .lt 10, 3) := by decide +kernel
theorem dX7_tell_9 : decode cX7_tell 9 = .ok (.aload_n 0, 1) := by decide +kernel
theorem dX7_tell_10 : decode cX7_tell 10 = .ok (.ldc 62, 2) := by decide +kernel
theorem dX7_tell_12 : decode cX7_tell 12 = .ok (.invokevirtual 49, 3) := by decide +kernel
theorem dX7_tell_15 : decode cX7_tell 15 = .ok (.ireturn, 1) := by decide +kernel
theorem dX7_tell_16 : decode cX7_tell 16 = .ok (.aload_n 0, 1) := by decide +kernel
theorem dX7_tell_17 : decode cX7_tell 17 = .ok (.getfield 30, 3) := by decide +kernel
theorem dX7_tell_20 : decode cX7_tell 20 = .ok (.aload_n 0, 1) := by decide +kernel
theorem dX7_tell_21 : decode cX7_tell 21 = .ok (.getfield 232, 3) := by decide +kernel
theorem dX7_tell_24 : decode cX7_tell 24 = .ok (.iload_n 1, 1) := by decide +kernel
theorem dX7_tell_25 : decode cX7_tell 25 = .ok (.iastore, 1) := by decide +kernel
theorem dX7_tell_26 : decode cX7_tell 26 = .ok (.aload_n 0, 1) := by decide +kernel
theorem dX7_tell_27 : decode cX7_tell 27 = .ok (.dup, 1) := by decide +kernel
theorem dX7_tell_28 : decode cX7_tell 28 = .ok (.getfield 232, 3) := by decide +kernel
theorem dX7_tell_31 : decode cX7_tell 31 = .ok (.iconst 1, 1) := by decide +kernel
theorem dX7_tell_32 : decode cX7_tell 32 = .ok (.iadd, 1) := by decide +kernel
theorem dX7_tell_33 : decode cX7_tell 33 = .ok (.putfield 232, 3) := by decide +kernel
theorem dX7_tell_36 : decode cX7_tell 36 = .ok (.aload_n 0, 1) := by decide +kernel
theorem dX7_tell_37 : decode cX7_tell 37 = .ok (.getfield 232, 3) := by decide +kernel
theorem dX7_tell_40 : decode cX7_tell 40 = .ok (.ireturn, 1) := by decide +kernel
theorem dX7_check_0 : decode cX7_check 0 = .ok (.aload_n 0, 1) := by decide +kernel
theorem dX7_check_1 : decode cX7_check 1 = .ok (.getfield 232, 3) := by decide +kernel
theorem dX7_check_4 : decode cX7_check 4 = .ok (.istore_n 2, 1) := by decide +kernel
theorem dX7_check_5 : decode cX7_check 5 = .ok (.aload_n 0, 1) := by decide +kernel
theorem dX7_check_6 : decode cX7_check 6 = .ok (.iconst 0, 1) := by decide +kernel
theorem dX7_check_7 : decode cX7_check 7 = .ok (.putfield 232, 3) := by decide +kernel
theorem dX7_check_10 : decode cX7_check 10 = .ok (.iload_n 1, 1) := by decide +kernel
theorem dX7_check_11 : decode cX7_check 11 = .ok (.invokestatic 41, 3) := by decide +kernel
theorem dX7_check_14 : decode cX7_check 14 = .ok (.ifCond .ne 10, 3) := by decide +kernel
theorem dX7_check_17 : decode cX7_check 17 = .ok (.aload_n 0, 1) := by decide +kernel
theorem dX7_check_18 : decode cX7_check 18 = .ok (.ldc 48, 2) := by decide +kernel
theorem dX7_check_20 : decode cX7_check 20 = .ok (.invokevirtual 49, 3) := by decide +kernel
theorem dX7_check_23 : decode cX7_check 23 = .ok (.ireturn, 1) := by decide +kernel
theorem dX7_check_24 : decode cX7_check 24 = .ok (.aload_n 0, 1) := by decide +kernel
theorem dX7_check_25 : decode cX7_check 25 = .ok (.getfield 12, 3) := by decide +kernel
theorem dX7_check_28 : decode cX7_check 28 = .ok (.getfield 89, 3) := by decide +kernel
theorem dX7_check_31 : decode cX7_check 31 = .ok (.iload_n 1, 1) := by decide +kernel
theorem dX7_check_32 : decode cX7_check 32 = .ok (.invokevirtual 122, 3) := by decide +kernel
theorem dX7_check_35 : decode cX7_check 35 = .ok (.iconst 0, 1) := by decide +kernel
theorem dX7_check_36 : decode cX7_check 36 = .ok (.istore_n 3, 1) := by decide +kernel
theorem dX7_check_37 : decode cX7_check 37 = .ok (.iconst 0, 1) := by decide +kernel
theorem dX7_check_38 : decode cX7_check 38 = .ok (.istore 4, 2) := by decide +kernel
theorem dX7_check_40 : decode cX7_check 40 = .ok (.iload 4, 2) := by decide +kernel
theorem dX7_check_42 : decode cX7_check 42 = .ok (.aload_n 0, 1) := by decide +kernel
theorem dX7_check_43 : decode cX7_check 43 = .ok (.getfield 12, 3) := by decide +kernel
theorem dX7_check_46 : decode cX7_check 46 = .ok (.getfield 89, 3) := by decide +kernel
theorem dX7_check_49 : decode cX7_check 49 = .ok (.getfield 152, 3) := by decide +kernel
theorem dX7_check_52 : decode cX7_check 52 = .ok (.if_icmp .ge 48, 3) := by decide +kernel
theorem dX7_check_55 : decode cX7_check 55 = .ok (.aload_n 0, 1) := by decide +kernel
theorem dX7_check_56 : decode cX7_check 56 = .ok (.getfield 12, 3) := by decide +kernel
theorem dX7_check_59 : decode cX7_check 59 = .ok (.getfield 89, 3) := by decide +kernel
theorem dX7_check_62 : decode cX7_check 62 = .ok (.getfield 171, 3) := by decide +kernel
theorem dX7_check_65 : decode cX7_check 65 = .ok (.iload 4, 2) := by decide +kernel
theorem dX7_check_67 : decode cX7_check 67 = .ok (.baload, 1) := by decide +kernel
theorem dX7_check_68 : decode cX7_check 68 = .ok (.ifCond .eq 26, 3) := by decide +kernel
theorem dX7_check_71 : decode cX7_check 71 = .ok (.iload_n 3, 1) := by decide +kernel
theorem dX7_check_72 : decode cX7_check 72 = .ok (.iload_n 2, 1) := by decide +kernel
theorem dX7_check_73 : decode cX7_check 73 = .ok (.if_icmp .ge 14, 3) := by decide +kernel
theorem dX7_check_76 : decode cX7_check 76 = .ok (.aload_n 0, 1) := by decide +kernel
theorem dX7_check_77 : decode cX7_check 77 = .ok (.getfield 30, 3) := by decide +kernel
theorem dX7_check_80 : decode cX7_check 80 = .ok (.iload_n 3, 1) := by decide +kernel
theorem dX7_check_81 : decode cX7_check 81 = .ok (.iaload, 1) := by decide +kernel
theorem dX7_check_82 : decode cX7_check 82 = .ok (.iload 4, 2) := by decide +kernel
theorem dX7_check_84 : decode cX7_check 84 = .ok (.if_icmp .eq 7, 3) := by decide +kernel
theorem dX7_check_87 : decode cX7_check 87 = .ok (.iconst 1, 1) := by decide +kernel
theorem dX7_check_88 : decode cX7_check 88 = .ok (.iload_n 3, 1) := by decide +kernel
theorem dX7_check_89 : decode cX7_check 89 = .ok (.iadd, 1) := by decide +kernel
theorem dX7_check_90 : decode cX7_check 90 = .ok (.ireturn, 1) := by decide +kernel
theorem dX7_check_91 : decode cX7_check 91 = .ok (.iinc 3 1, 3) := by decide +kernel
theorem dX7_check_94 : decode cX7_check 94 = .ok (.iinc 4 1, 3) := by decide +kernel
theorem dX7_check_97 : decode cX7_check 97 = .ok (.goto (-57), 3) := by decide +kernel
theorem dX7_check_100 : decode cX7_check 100 = .ok (.iload_n 3, 1) := by decide +kernel
theorem dX7_check_101 : decode cX7_check 101 = .ok (.iload_n 2, 1) := by decide +kernel
theorem dX7_check_102 : decode cX7_check 102 = .ok (.if_icmp .ge 8, 3) := by decide +kernel
theorem dX7_check_105 : decode cX7_check 105 = .ok (.bipush 99, 2) := by decide +kernel
theorem dX7_check_107 : decode cX7_check 107 = .ok (.goto 4, 3) := by decide +kernel
theorem dX7_check_110 : decode cX7_check 110 = .ok (.iconst 0, 1) := by decide +kernel
theorem dX7_check_111 : decode cX7_check 111 = .ok (.ireturn, 1) := by decide +kernel
theorem dX7_count_0 : decode cX7_count 0 = .ok (.iload_n 1, 1) := by decide +kernel
theorem dX7_count_1 : decode cX7_count 1 = .ok (.tableswitch 111 0 6 #[43, 54, 65, 76, 90, 98, 106], 43) := by decide +kernel
theorem dX7_count_44 : decode cX7_count 44 = .ok (.aload_n 0, 1) := by decide +kernel
theorem dX7_count_45 : decode cX7_count 45 = .ok (.getfield 12, 3) := by decide +kernel
theorem dX7_count_48 : decode cX7_count 48 = .ok (.getfield 53, 3) := by decide +kernel
theorem dX7_count_51 : decode cX7_count 51 = .ok (.getfield 235, 3) := by decide +kernel
theorem dX7_count_54 : decode cX7_count 54 = .ok (.ireturn, 1) := by decide +kernel
theorem dX7_count_55 : decode cX7_count 55 = .ok (.aload_n 0, 1) := by decide +kernel
theorem dX7_count_56 : decode cX7_count 56 = .ok (.getfield 12, 3) := by decide +kernel
theorem dX7_count_59 : decode cX7_count 59 = .ok (.getfield 105, 3) := by decide +kernel
theorem dX7_count_62 : decode cX7_count 62 = .ok (.getfield 109, 3) := by decide +kernel
theorem dX7_count_65 : decode cX7_count 65 = .ok (.ireturn, 1) := by decide +kernel
theorem dX7_count_66 : decode cX7_count 66 = .ok (.aload_n 0, 1) := by decide +kernel
theorem dX7_count_67 : decode cX7_count 67 = .ok (.getfield 12, 3) := by decide +kernel
theorem dX7_count_70 : decode cX7_count 70 = .ok (.getfield 89, 3) := by decide +kernel
theorem dX7_count_73 : decode cX7_count 73 = .ok (.getfield 152, 3) := by decide +kernel
theorem dX7_count_76 : decode cX7_count 76 = .ok (.ireturn, 1) := by decide +kernel
theorem dX7_count_77 : decode cX7_count 77 = .ok (.aload_n 0, 1) := by decide +kernel
theorem dX7_count_78 : decode cX7_count 78 = .ok (.getfield 12, 3) := by decide +kernel
theorem dX7_count_81 : decode cX7_count 81 = .ok (.getfield 89, 3) := by decide +kernel
theorem dX7_count_84 : decode cX7_count 84 = .ok (.getfield 178, 3) := by decide +kernel
theorem dX7_count_87 : decode cX7_count 87 = .ok (.getfield 182, 3) := by decide +kernel
theorem dX7_count_90 : decode cX7_count 90 = .ok (.ireturn, 1) := by decide +kernel
theorem dX7_count_91 : decode cX7_count 91 = .ok (.aload_n 0, 1) := by decide +kernel
theorem dX7_count_92 : decode cX7_count 92 = .ok (.getfield 26, 3) := by decide +kernel
theorem dX7_count_95 : decode cX7_count 95 = .ok (.getfield 209, 3) := by decide +kernel
theorem dX7_count_98 : decode cX7_count 98 = .ok (.ireturn, 1) := by decide +kernel
theorem dX7_count_99 : decode cX7_count 99 = .ok (.aload_n 0, 1) := by decide +kernel
theorem dX7_count_100 : decode cX7_count 100 = .ok (.getfield 19, 3) := by decide +kernel
theorem dX7_count_103 : decode cX7_count 103 = .ok (.getfield 192, 3) := by decide +kernel
theorem dX7_count_106 : decode cX7_count 106 = .ok (.ireturn, 1) := by decide +kernel
theorem dX7_count_107 : decode cX7_count 107 = .ok (.aload_n 0, 1) := by decide +kernel
theorem dX7_count_108 : decode cX7_count 108 = .ok (.getfield 232, 3) := by decide +kernel
theorem dX7_count_111 : decode cX7_count 111 = .ok (.ireturn, 1) := by decide +kernel
theorem dX7_count_112 : decode cX7_count 112 = .ok (.aload_n 0, 1) := by decide +kernel
theorem dX7_count_113 : decode cX7_count 113 = .ok (.ldc 48, 2) := by decide +kernel
theorem dX7_count_115 : decode cX7_count 115 = .ok (.invokevirtual 49, 3) := by decide +kernel
theorem dX7_count_118 : decode cX7_count 118 = .ok (.ireturn, 1) := by decide +kernel
theorem dX7_found_0 : decode cX7_found 0 = .ok (.iload_n 1, 1) := by decide +kernel
theorem dX7_found_1 : decode cX7_found 1 = .ok (.iconst 1, 1) := by decide +kernel
theorem dX7_found_2 : decode cX7_found 2 = .ok (.iconst 5, 1) := by decide +kernel
theorem dX7_found_3 : decode cX7_found 3 = .ok (.invokestatic 44, 3) := by decide +kernel
theorem dX7_found_6 : decode cX7_found 6 = .ok (.ifCond .ne 10, 3) := by decide +kernel
theorem dX7_found_9 : decode cX7_found 9 = .ok (.aload_n 0, 1) := by decide +kernel
theorem dX7_found_10 : decode cX7_found 10 = .ok (.ldc 48, 2) := by decide +kernel
theorem dX7_found_12 : decode cX7_found 12 = .ok (.invokevirtual 49, 3) := by decide +kernel
theorem dX7_found_15 : decode cX7_found 15 = .ok (.ireturn, 1) := by decide +kernel
theorem dX7_found_16 : decode cX7_found 16 = .ok (.aload_n 0, 1) := by decide +kernel
theorem dX7_found_17 : decode cX7_found 17 = .ok (.getfield 34, 3) := by decide +kernel
theorem dX7_found_20 : decode cX7_found 20 = .ok (.iload_n 1, 1) := by decide +kernel
theorem dX7_found_21 : decode cX7_found 21 = .ok (.iaload, 1) := by decide +kernel
theorem dX7_found_22 : decode cX7_found 22 = .ok (.ireturn, 1) := by decide +kernel
theorem dX7_finding_0 : decode cX7_finding 0 = .ok (.ldc 236, 2) := by decide +kernel
theorem dX7_finding_2 : decode cX7_finding 2 = .ok (.iload_n 1, 1) := by decide +kernel
theorem dX7_finding_3 : decode cX7_finding 3 = .ok (.isub, 1) := by decide +kernel
theorem dX7_finding_4 : decode cX7_finding 4 = .ok (.istore_n 2, 1) := by decide +kernel
theorem dX7_finding_5 : decode cX7_finding 5 = .ok (.iload_n 2, 1) := by decide +kernel
theorem dX7_finding_6 : decode cX7_finding 6 = .ok (.iconst 1, 1) := by decide +kernel
theorem dX7_finding_7 : decode cX7_finding 7 = .ok (.iconst 5, 1) := by decide +kernel
theorem dX7_finding_8 : decode cX7_finding 8 = .ok (.invokestatic 44, 3) := by decide +kernel
theorem dX7_finding_11 : decode cX7_finding 11 = .ok (.ifCond .eq 13, 3) := by decide +kernel
theorem dX7_finding_14 : decode cX7_finding 14 = .ok (.aload_n 0, 1) := by decide +kernel
theorem dX7_finding_15 : decode cX7_finding 15 = .ok (.getfield 34, 3) := by decide +kernel
theorem dX7_finding_18 : decode cX7_finding 18 = .ok (.iload_n 2, 1) := by decide +kernel
theorem dX7_finding_19 : decode cX7_finding 19 = .ok (.dup2, 1) := by decide +kernel
theorem dX7_finding_20 : decode cX7_finding 20 = .ok (.iaload, 1) := by decide +kernel
theorem dX7_finding_21 : decode cX7_finding 21 = .ok (.iconst 1, 1) := by decide +kernel
theorem dX7_finding_22 : decode cX7_finding 22 = .ok (.iadd, 1) := by decide +kernel
theorem dX7_finding_23 : decode cX7_finding 23 = .ok (.iastore, 1) := by decide +kernel
theorem dX7_finding_24 : decode cX7_finding 24 = .ok (.iload_n 1, 1) := by decide +kernel
theorem dX7_finding_25 : decode cX7_finding 25 = .ok (.ireturn, 1) := by decide +kernel
theorem dX7_isAsked_0 : decode cX7_isAsked 0 = .ok (.aload_n 0, 1) := by decide +kernel
theorem dX7_isAsked_1 : decode cX7_isAsked 1 = .ok (.getfield 12, 3) := by decide +kernel
theorem dX7_isAsked_4 : decode cX7_isAsked 4 = .ok (.getfield 53, 3) := by decide +kernel
theorem dX7_isAsked_7 : decode cX7_isAsked 7 = .ok (.iload_n 1, 1) := by decide +kernel
theorem dX7_isAsked_8 : decode cX7_isAsked 8 = .ok (.invokevirtual 67, 3) := by decide +kernel
theorem dX7_isAsked_11 : decode cX7_isAsked 11 = .ok (.ifCond .eq 29, 3) := by decide +kernel
theorem dX7_isAsked_14 : decode cX7_isAsked 14 = .ok (.iload_n 2, 1) := by decide +kernel
theorem dX7_isAsked_15 : decode cX7_isAsked 15 = .ok (.invokestatic 83, 3) := by decide +kernel
theorem dX7_isAsked_18 : decode cX7_isAsked 18 = .ok (.ifCond .eq 22, 3) := by decide +kernel
theorem dX7_isAsked_21 : decode cX7_isAsked 21 = .ok (.iload_n 3, 1) := by decide +kernel
theorem dX7_isAsked_22 : decode cX7_isAsked 22 = .ok (.invokestatic 86, 3) := by decide +kernel
theorem dX7_isAsked_25 : decode cX7_isAsked 25 = .ok (.ifCond .eq 15, 3) := by decide +kernel
theorem dX7_isAsked_28 : decode cX7_isAsked 28 = .ok (.iload 4, 2) := by decide +kernel
theorem dX7_isAsked_30 : decode cX7_isAsked 30 = .ok (.invokestatic 41, 3) := by decide +kernel
theorem dX7_isAsked_33 : decode cX7_isAsked 33 = .ok (.ifCond .eq 7, 3) := by decide +kernel
theorem dX7_isAsked_36 : decode cX7_isAsked 36 = .ok (.iconst 1, 1) := by decide +kernel
theorem dX7_isAsked_37 : decode cX7_isAsked 37 = .ok (.goto 4, 3) := by decide +kernel
theorem dX7_isAsked_40 : decode cX7_isAsked 40 = .ok (.iconst 0, 1) := by decide +kernel
theorem dX7_isAsked_41 : decode cX7_isAsked 41 = .ok (.ireturn, 1) := by decide +kernel
theorem dX7_isWithin_0 : decode cX7_isWithin 0 = .ok (.iload_n 0, 1) := by decide +kernel
theorem dX7_isWithin_1 : decode cX7_isWithin 1 = .ok (.iload_n 1, 1) := by decide +kernel
theorem dX7_isWithin_2 : decode cX7_isWithin 2 = .ok (.if_icmp .lt 12, 3) := by decide +kernel
theorem dX7_isWithin_5 : decode cX7_isWithin 5 = .ok (.iload_n 0, 1) := by decide +kernel
theorem dX7_isWithin_6 : decode cX7_isWithin 6 = .ok (.iload_n 2, 1) := by decide +kernel
theorem dX7_isWithin_7 : decode cX7_isWithin 7 = .ok (.if_icmp .gt 7, 3) := by decide +kernel
theorem dX7_isWithin_10 : decode cX7_isWithin 10 = .ok (.iconst 1, 1) := by decide +kernel
theorem dX7_isWithin_11 : decode cX7_isWithin 11 = .ok (.goto 4, 3) := by decide +kernel
theorem dX7_isWithin_14 : decode cX7_isWithin 14 = .ok (.iconst 0, 1) := by decide +kernel
theorem dX7_isWithin_15 : decode cX7_isWithin 15 = .ok (.ireturn, 1) := by decide +kernel
theorem dX7_isDay_0 : decode cX7_isDay 0 = .ok (.iload_n 0, 1) := by decide +kernel
theorem dX7_isDay_1 : decode cX7_isDay 1 = .ok (.iconst 0, 1) := by decide +kernel
theorem dX7_isDay_2 : decode cX7_isDay 2 = .ok (.sipush 30000, 3) := by decide +kernel
theorem dX7_isDay_5 : decode cX7_isDay 5 = .ok (.invokestatic 44, 3) := by decide +kernel
theorem dX7_isDay_8 : decode cX7_isDay 8 = .ok (.ireturn, 1) := by decide +kernel
theorem dX7_isUnion_0 : decode cX7_isUnion 0 = .ok (.iload_n 0, 1) := by decide +kernel
theorem dX7_isUnion_1 : decode cX7_isUnion 1 = .ok (.iconst 0, 1) := by decide +kernel
theorem dX7_isUnion_2 : decode cX7_isUnion 2 = .ok (.iconst 2, 1) := by decide +kernel
theorem dX7_isUnion_3 : decode cX7_isUnion 3 = .ok (.invokestatic 44, 3) := by decide +kernel
theorem dX7_isUnion_6 : decode cX7_isUnion 6 = .ok (.ireturn, 1) := by decide +kernel
theorem dX7_isGrade_0 : decode cX7_isGrade 0 = .ok (.iload_n 0, 1) := by decide +kernel
theorem dX7_isGrade_1 : decode cX7_isGrade 1 = .ok (.iconst 1, 1) := by decide +kernel
theorem dX7_isGrade_2 : decode cX7_isGrade 2 = .ok (.bipush 10, 2) := by decide +kernel
theorem dX7_isGrade_4 : decode cX7_isGrade 4 = .ok (.invokestatic 44, 3) := by decide +kernel
theorem dX7_isGrade_7 : decode cX7_isGrade 7 = .ok (.ireturn, 1) := by decide +kernel
theorem dX7_isKind_0 : decode cX7_isKind 0 = .ok (.iload_n 0, 1) := by decide +kernel
theorem dX7_isKind_1 : decode cX7_isKind 1 = .ok (.iconst 0, 1) := by decide +kernel
theorem dX7_isKind_2 : decode cX7_isKind 2 = .ok (.iconst 2, 1) := by decide +kernel
theorem dX7_isKind_3 : decode cX7_isKind 3 = .ok (.invokestatic 44, 3) := by decide +kernel
theorem dX7_isKind_6 : decode cX7_isKind 6 = .ok (.ireturn, 1) := by decide +kernel
