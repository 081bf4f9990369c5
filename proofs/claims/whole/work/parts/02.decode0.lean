theorem dX0_init_0 : decode cX0_init 0 = .ok (.aload_n 0, 1) := by decide +kernel
theorem dX0_init_1 : decode cX0_init 1 = .ok (.invokespecial 3, 3) := by decide +kernel
theorem dX0_init_4 : decode cX0_init 4 = .ok (.return_, 1) := by decide +kernel
theorem dX0_define_0 : decode cX0_define 0 = .ok (.aload_n 0, 1) := by decide +kernel
theorem dX0_define_1 : decode cX0_define 1 = .ok (.iload_n 1, 1) := by decide +kernel
theorem dX0_define_2 : decode cX0_define 2 = .ok (.putfield 9, 3) := by decide +kernel
theorem dX0_define_5 : decode cX0_define 5 = .ok (.aload_n 0, 1) := by decide +kernel
theorem dX0_define_6 : decode cX0_define 6 = .ok (.iload_n 2, 1) := by decide +kernel
theorem dX0_define_7 : decode cX0_define 7 = .ok (.putfield 15, 3) := by decide +kernel
theorem dX0_define_10 : decode cX0_define 10 = .ok (.aload_n 0, 1) := by decide +kernel
theorem dX0_define_11 : decode cX0_define 11 = .ok (.iload_n 3, 1) := by decide +kernel
theorem dX0_define_12 : decode cX0_define 12 = .ok (.putfield 18, 3) := by decide +kernel
theorem dX0_define_15 : decode cX0_define 15 = .ok (.aload_n 0, 1) := by decide +kernel
theorem dX0_define_16 : decode cX0_define 16 = .ok (.iload 4, 2) := by decide +kernel
theorem dX0_define_18 : decode cX0_define 18 = .ok (.putfield 21, 3) := by decide +kernel
theorem dX0_define_21 : decode cX0_define 21 = .ok (.aload_n 0, 1) := by decide +kernel
theorem dX0_define_22 : decode cX0_define 22 = .ok (.iconst 0, 1) := by decide +kernel
theorem dX0_define_23 : decode cX0_define 23 = .ok (.putfield 24, 3) := by decide +kernel
theorem dX0_define_26 : decode cX0_define 26 = .ok (.return_, 1) := by decide +kernel
theorem dX0_copyFrom_0 : decode cX0_copyFrom 0 = .ok (.aload_n 0, 1) := by decide +kernel
theorem dX0_copyFrom_1 : decode cX0_copyFrom 1 = .ok (.aload_n 1, 1) := by decide +kernel
theorem dX0_copyFrom_2 : decode cX0_copyFrom 2 = .ok (.getfield 9, 3) := by decide +kernel
theorem dX0_copyFrom_5 : decode cX0_copyFrom 5 = .ok (.putfield 9, 3) := by decide +kernel
theorem dX0_copyFrom_8 : decode cX0_copyFrom 8 = .ok (.aload_n 0, 1) := by decide +kernel
theorem dX0_copyFrom_9 : decode cX0_copyFrom 9 = .ok (.aload_n 1, 1) := by decide +kernel
theorem dX0_copyFrom_10 : decode cX0_copyFrom 10 = .ok (.getfield 15, 3) := by decide +kernel
theorem dX0_copyFrom_13 : decode cX0_copyFrom 13 = .ok (.putfield 15, 3) := by decide +kernel
theorem dX0_copyFrom_16 : decode cX0_copyFrom 16 = .ok (.aload_n 0, 1) := by decide +kernel
theorem dX0_copyFrom_17 : decode cX0_copyFrom 17 = .ok (.aload_n 1, 1) := by decide +kernel
theorem dX0_copyFrom_18 : decode cX0_copyFrom 18 = .ok (.getfield 18, 3) := by decide +kernel
theorem dX0_copyFrom_21 : decode cX0_copyFrom 21 = .ok (.putfield 18, 3) := by decide +kernel
theorem dX0_copyFrom_24 : decode cX0_copyFrom 24 = .ok (.aload_n 0, 1) := by decide +kernel
theorem dX0_copyFrom_25 : decode cX0_copyFrom 25 = .ok (.aload_n 1, 1) := by decide +kernel
theorem dX0_copyFrom_26 : decode cX0_copyFrom 26 = .ok (.getfield 21, 3) := by decide +kernel
theorem dX0_copyFrom_29 : decode cX0_copyFrom 29 = .ok (.putfield 21, 3) := by decide +kernel
theorem dX0_copyFrom_32 : decode cX0_copyFrom 32 = .ok (.aload_n 0, 1) := by decide +kernel
theorem dX0_copyFrom_33 : decode cX0_copyFrom 33 = .ok (.aload_n 1, 1) := by decide +kernel
theorem dX0_copyFrom_34 : decode cX0_copyFrom 34 = .ok (.getfield 27, 3) := by decide +kernel
theorem dX0_copyFrom_37 : decode cX0_copyFrom 37 = .ok (.putfield 27, 3) := by decide +kernel
theorem dX0_copyFrom_40 : decode cX0_copyFrom 40 = .ok (.aload_n 0, 1) := by decide +kernel
theorem dX0_copyFrom_41 : decode cX0_copyFrom 41 = .ok (.aload_n 1, 1) := by decide +kernel
theorem dX0_copyFrom_42 : decode cX0_copyFrom 42 = .ok (.getfield 24, 3) := by decide +kernel
theorem dX0_copyFrom_45 : decode cX0_copyFrom 45 = .ok (.putfield 24, 3) := by decide +kernel
theorem dX0_copyFrom_48 : decode cX0_copyFrom 48 = .ok (.aload_n 0, 1) := by decide +kernel
theorem dX0_copyFrom_49 : decode cX0_copyFrom 49 = .ok (.aload_n 1, 1) := by decide +kernel
theorem dX0_copyFrom_50 : decode cX0_copyFrom 50 = .ok (.getfield 30, 3) := by decide +kernel
theorem dX0_copyFrom_53 : decode cX0_copyFrom 53 = .ok (.putfield 30, 3) := by decide +kernel
theorem dX0_copyFrom_56 : decode cX0_copyFrom 56 = .ok (.aload_n 0, 1) := by decide +kernel
theorem dX0_copyFrom_57 : decode cX0_copyFrom 57 = .ok (.aload_n 1, 1) := by decide +kernel
theorem dX0_copyFrom_58 : decode cX0_copyFrom 58 = .ok (.getfield 33, 3) := by decide +kernel
theorem dX0_copyFrom_61 : decode cX0_copyFrom 61 = .ok (.putfield 33, 3) := by decide +kernel
theorem dX0_copyFrom_64 : decode cX0_copyFrom 64 = .ok (.aload_n 0, 1) := by decide +kernel
theorem dX0_copyFrom_65 : decode cX0_copyFrom 65 = .ok (.aload_n 1, 1) := by decide +kernel
theorem dX0_copyFrom_66 : decode cX0_copyFrom 66 = .ok (.getfield 36, 3) := by decide +kernel
theorem dX0_copyFrom_69 : decode cX0_copyFrom 69 = .ok (.putfield 36, 3) := by decide +kernel
theorem dX0_copyFrom_72 : decode cX0_copyFrom 72 = .ok (.return_, 1) := by decide +kernel
theorem dX1_init_0 : decode cX1_init 0 = .ok (.aload_n 0, 1) := by decide +kernel
theorem dX1_init_1 : decode cX1_init 1 = .ok (.invokespecial 3, 3) := by decide +kernel
theorem dX1_init_4 : decode cX1_init 4 = .ok (.aload_n 0, 1) := by decide +kernel
theorem dX1_init_5 : decode cX1_init 5 = .ok (.bipush 10, 2) := by decide +kernel
theorem dX1_init_7 : decode cX1_init 7 = .ok (.newarray .int, 2) := by decide +kernel
theorem dX1_init_9 : decode cX1_init 9 = .ok (.putfield 9, 3) := by decide +kernel
theorem dX1_init_12 : decode cX1_init 12 = .ok (.aload_n 0, 1) := by decide +kernel
theorem dX1_init_13 : decode cX1_init 13 = .ok (.bipush 10, 2) := by decide +kernel
theorem dX1_init_15 : decode cX1_init 15 = .ok (.newarray .int, 2) := by decide +kernel
theorem dX1_init_17 : decode cX1_init 17 = .ok (.putfield 15, 3) := by decide +kernel
theorem dX1_init_20 : decode cX1_init 20 = .ok (.aload_n 0, 1) := by decide +kernel
theorem dX1_init_21 : decode cX1_init 21 = .ok (.bipush 12, 2) := by decide +kernel
theorem dX1_init_23 : decode cX1_init 23 = .ok (.newarray .int, 2) := by decide +kernel
theorem dX1_init_25 : decode cX1_init 25 = .ok (.putfield 18, 3) := by decide +kernel
theorem dX1_init_28 : decode cX1_init 28 = .ok (.aload_n 0, 1) := by decide +kernel
theorem dX1_init_29 : decode cX1_init 29 = .ok (.bipush 12, 2) := by decide +kernel
theorem dX1_init_31 : decode cX1_init 31 = .ok (.newarray .int, 2) := by decide +kernel
theorem dX1_init_33 : decode cX1_init 33 = .ok (.putfield 21, 3) := by decide +kernel
theorem dX1_init_36 : decode cX1_init 36 = .ok (.aload_n 0, 1) := by decide +kernel
theorem dX1_init_37 : decode cX1_init 37 = .ok (.bipush 12, 2) := by decide +kernel
theorem dX1_init_39 : decode cX1_init 39 = .ok (.newarray .int, 2) := by decide +kernel
theorem dX1_init_41 : decode cX1_init 41 = .ok (.putfield 24, 3) := by decide +kernel
theorem dX1_init_44 : decode cX1_init 44 = .ok (.aload_n 0, 1) := by decide +kernel
theorem dX1_init_45 : decode cX1_init 45 = .ok (.bipush 12, 2) := by decide +kernel
theorem dX1_init_47 : decode cX1_init 47 = .ok (.newarray .int, 2) := by decide +kernel
theorem dX1_init_49 : decode cX1_init 49 = .ok (.putfield 27, 3) := by decide +kernel
theorem dX1_init_52 : decode cX1_init 52 = .ok (.aload_n 0, 1) := by decide +kernel
theorem dX1_init_53 : decode cX1_init 53 = .ok (.iconst 0, 1) := by decide +kernel
theorem dX1_init_54 : decode cX1_init 54 = .ok (.putfield 30, 3) := by decide +kernel
theorem dX1_init_57 : decode cX1_init 57 = .ok (.aload_n 0, 1) := by decide +kernel
theorem dX1_init_58 : decode cX1_init 58 = .ok (.invokevirtual 34, 3) := by decide +kernel
theorem dX1_init_61 : decode cX1_init 61 = .ok (.return_, 1) := by decide +kernel
theorem dX1_derive_0 : decode cX1_derive 0 = .ok (.aload_n 0, 1) := by decide +kernel
theorem dX1_derive_1 : decode cX1_derive 1 = .ok (.aload_n 1, 1) := by decide +kernel
theorem dX1_derive_2 : decode cX1_derive 2 = .ok (.invokevirtual 37, 3) := by decide +kernel
theorem dX1_derive_5 : decode cX1_derive 5 = .ok (.aload_n 0, 1) := by decide +kernel
theorem dX1_derive_6 : decode cX1_derive 6 = .ok (.aload_n 1, 1) := by decide +kernel
theorem dX1_derive_7 : decode cX1_derive 7 = .ok (.invokevirtual 41, 3) := by decide +kernel
theorem dX1_derive_10 : decode cX1_derive 10 = .ok (.aload_n 0, 1) := by decide +kernel
theorem dX1_derive_11 : decode cX1_derive 11 = .ok (.aload_n 1, 1) := by decide +kernel
theorem dX1_derive_12 : decode cX1_derive 12 = .ok (.getfield 44, 3) := by decide +kernel
theorem dX1_derive_15 : decode cX1_derive 15 = .ok (.invokevirtual 49, 3) := by decide +kernel
theorem dX1_derive_18 : decode cX1_derive 18 = .ok (.aload_n 0, 1) := by decide +kernel
theorem dX1_derive_19 : decode cX1_derive 19 = .ok (.aload_n 1, 1) := by decide +kernel
theorem dX1_derive_20 : decode cX1_derive 20 = .ok (.invokevirtual 53, 3) := by decide +kernel
theorem dX1_derive_23 : decode cX1_derive 23 = .ok (.aload_n 0, 1) := by decide +kernel
theorem dX1_derive_24 : decode cX1_derive 24 = .ok (.aload_n 1, 1) := by decide +kernel
theorem dX1_derive_25 : decode cX1_derive 25 = .ok (.getfield 44, 3) := by decide +kernel
theorem dX1_derive_28 : decode cX1_derive 28 = .ok (.invokevirtual 56, 3) := by decide +kernel
theorem dX1_derive_31 : decode cX1_derive 31 = .ok (.return_, 1) := by decide +kernel
theorem dX1_soleDefinerOf_0 : decode cX1_soleDefinerOf 0 = .ok (.iload_n 1, 1) := by decide +kernel
theorem dX1_soleDefinerOf_1 : decode cX1_soleDefinerOf 1 = .ok (.invokestatic 59, 3) := by decide +kernel
theorem dX1_soleDefinerOf_4 : decode cX1_soleDefinerOf 4 = .ok (.ifCond .eq 15, 3) := by decide +kernel
theorem dX1_soleDefinerOf_7 : decode cX1_soleDefinerOf 7 = .ok (.aload_n 0, 1) := by decide +kernel
theorem dX1_soleDefinerOf_8 : decode cX1_soleDefinerOf 8 = .ok (.getfield 15, 3) := by decide +kernel
theorem dX1_soleDefinerOf_11 : decode cX1_soleDefinerOf 11 = .ok (.iload_n 1, 1) := by decide +kernel
theorem dX1_soleDefinerOf_12 : decode cX1_soleDefinerOf 12 = .ok (.bipush 100, 2) := by decide +kernel
theorem dX1_soleDefinerOf_14 : decode cX1_soleDefinerOf 14 = .ok (.isub, 1) := by decide +kernel
theorem dX1_soleDefinerOf_15 : decode cX1_soleDefinerOf 15 = .ok (.iaload, 1) := by decide +kernel
theorem dX1_soleDefinerOf_16 : decode cX1_soleDefinerOf 16 = .ok (.goto 4, 3) := by decide +kernel
theorem dX1_soleDefinerOf_19 : decode cX1_soleDefinerOf 19 = .ok (.iconst (-1), 1) := by decide +kernel
theorem dX1_soleDefinerOf_20 : decode cX1_soleDefinerOf 20 = .ok (.ireturn, 1) := by decide +kernel
theorem dX1_definersOf_0 : decode cX1_definersOf 0 = .ok (.iload_n 1, 1) := by decide +kernel
theorem dX1_definersOf_1 : decode cX1_definersOf 1 = .ok (.invokestatic 59, 3) := by decide +kernel
theorem dX1_definersOf_4 : decode cX1_definersOf 4 = .ok (.ifCond .eq 15, 3) := by decide +kernel
theorem dX1_definersOf_7 : decode cX1_definersOf 7 = .ok (.aload_n 0, 1) := by decide +kernel
theorem dX1_definersOf_8 : decode cX1_definersOf 8 = .ok (.getfield 9, 3) := by decide +kernel
theorem dX1_definersOf_11 : decode cX1_definersOf 11 = .ok (.iload_n 1, 1) := by decide +kernel
theorem dX1_definersOf_12 : decode cX1_definersOf 12 = .ok (.bipush 100, 2) := by decide +kernel
theorem dX1_definersOf_14 : decode cX1_definersOf 14 = .ok (.isub, 1) := by decide +kernel
theorem dX1_definersOf_15 : decode cX1_definersOf 15 = .ok (.iaload, 1) := by decide +kernel
theorem dX1_definersOf_16 : decode cX1_definersOf 16 = .ok (.goto 4, 3) := by decide +kernel
theorem dX1_definersOf_19 : decode cX1_definersOf 19 = .ok (.iconst 0, 1) := by decide +kernel
theorem dX1_definersOf_20 : decode cX1_definersOf 20 = .ok (.ireturn, 1) := by decide +kernel
theorem dX1_clearDefiners_0 : decode cX1_clearDefiners 0 = .ok (.iconst 0, 1) := by decide +kernel
theorem dX1_clearDefiners_1 : decode cX1_clearDefiners 1 = .ok (.istore_n 1, 1) := by decide +kernel
theorem dX1_clearDefiners_2 : decode cX1_clearDefiners 2 = .ok (.iload_n 1, 1) := by decide +kernel
theorem dX1_clearDefiners_3 : decode cX1_clearDefiners 3 = .ok (.bipush 10, 2) := by decide +kernel
theorem dX1_clearDefiners_5 : decode cX1_clearDefiners 5 = .ok (.if_icmp .ge 23, 3) := by decide +kernel
theorem dX1_clearDefiners_8 : decode cX1_clearDefiners 8 = .ok (.aload_n 0, 1) := by decide +kernel
theorem dX1_clearDefiners_9 : decode cX1_clearDefiners 9 = .ok (.getfield 9, 3) := by decide +kernel
theorem dX1_clearDefiners_12 : decode cX1_clearDefiners 12 = .ok (.iload_n 1, 1) := by decide +kernel
theorem dX1_clearDefiners_13 : decode cX1_clearDefiners 13 = .ok (.iconst 0, 1) := by decide +kernel
theorem dX1_clearDefiners_14 : decode cX1_clearDefiners 14 = .ok (.iastore, 1) := by decide +kernel
theorem dX1_clearDefiners_15 : decode cX1_clearDefiners 15 = .ok (.aload_n 0, 1) := by decide +kernel
theorem dX1_clearDefiners_16 : decode cX1_clearDefiners 16 = .ok (.getfield 15, 3) := by decide +kernel
theorem dX1_clearDefiners_19 : decode cX1_clearDefiners 19 = .ok (.iload_n 1, 1) := by decide +kernel
theorem dX1_clearDefiners_20 : decode cX1_clearDefiners 20 = .ok (.iconst (-1), 1) := by decide +kernel
theorem dX1_clearDefiners_21 : decode cX1_clearDefiners 21 = .ok (.iastore, 1) := by decide +kernel
theorem dX1_clearDefiners_22 : decode cX1_clearDefiners 22 = .ok (.iinc 1 1, 3) := by decide +kernel
theorem dX1_clearDefiners_25 : decode cX1_clearDefiners 25 = .ok (.goto (-23), 3) := by decide +kernel
theorem dX1_clearDefiners_28 : decode cX1_clearDefiners 28 = .ok (.return_, 1) := by decide +kernel
theorem dX1_findDefiners_0 : decode cX1_findDefiners 0 = .ok (.aload_n 0, 1) := by decide +kernel
theorem dX1_findDefiners_1 : decode cX1_findDefiners 1 = .ok (.invokevirtual 34, 3) := by decide +kernel
theorem dX1_findDefiners_4 : decode cX1_findDefiners 4 = .ok (.iconst 0, 1) := by decide +kernel
theorem dX1_findDefiners_5 : decode cX1_findDefiners 5 = .ok (.istore_n 2, 1) := by decide +kernel
theorem dX1_findDefiners_6 : decode cX1_findDefiners 6 = .ok (.iload_n 2, 1) := by decide +kernel
theorem dX1_findDefiners_7 : decode cX1_findDefiners 7 = .ok (.aload_n 1, 1) := by decide +kernel
theorem dX1_findDefiners_8 : decode cX1_findDefiners 8 = .ok (.getfield 44, 3) := by decide +kernel
theorem dX1_findDefiners_11 : decode cX1_findDefiners 11 = .ok (.if_icmp .ge 58, 3) := by decide +kernel
theorem dX1_findDefiners_14 : decode cX1_findDefiners 14 = .ok (.aload_n 1, 1) := by decide +kernel
theorem dX1_findDefiners_15 : decode cX1_findDefiners 15 = .ok (.getfield 63, 3) := by decide +kernel
theorem dX1_findDefiners_18 : decode cX1_findDefiners 18 = .ok (.iload_n 2, 1) := by decide +kernel
theorem dX1_findDefiners_19 : decode cX1_findDefiners 19 = .ok (.aaload, 1) := by decide +kernel
theorem dX1_findDefiners_20 : decode cX1_findDefiners 20 = .ok (.getfield 67, 3) := by decide +kernel
theorem dX1_findDefiners_23 : decode cX1_findDefiners 23 = .ok (.istore_n 3, 1) := by decide +kernel
theorem dX1_findDefiners_24 : decode cX1_findDefiners 24 = .ok (.iload_n 3, 1) := by decide +kernel
theorem dX1_findDefiners_25 : decode cX1_findDefiners 25 = .ok (.invokestatic 72, 3) := by decide +kernel
theorem dX1_findDefiners_28 : decode cX1_findDefiners 28 = .ok (.ifCond .eq 35, 3) := by decide +kernel
theorem dX1_findDefiners_31 : decode cX1_findDefiners 31 = .ok (.aload_n 0, 1) := by decide +kernel
theorem dX1_findDefiners_32 : decode cX1_findDefiners 32 = .ok (.getfield 15, 3) := by decide +kernel
theorem dX1_findDefiners_35 : decode cX1_findDefiners 35 = .ok (.iload_n 3, 1) := by decide +kernel
theorem dX1_findDefiners_36 : decode cX1_findDefiners 36 = .ok (.aload_n 0, 1) := by decide +kernel
theorem dX1_findDefiners_37 : decode cX1_findDefiners 37 = .ok (.getfield 9, 3) := by decide +kernel
theorem dX1_findDefiners_40 : decode cX1_findDefiners 40 = .ok (.iload_n 3, 1) := by decide +kernel
theorem dX1_findDefiners_41 : decode cX1_findDefiners 41 = .ok (.iaload, 1) := by decide +kernel
theorem dX1_findDefiners_42 : decode cX1_findDefiners 42 = .ok (.ifCond .ne 7, 3) := by decide +kernel
theorem dX1_findDefiners_45 : decode cX1_findDefiners 45 = .ok (.iload_n 2, 1) := by decide +kernel
theorem dX1_findDefiners_46 : decode cX1_findDefiners 46 = .ok (.goto 4, 3) := by decide +kernel
theorem dX1_findDefiners_49 : decode cX1_findDefiners 49 = .ok (.iconst (-1), 1) := by decide +kernel
theorem dX1_findDefiners_50 : decode cX1_findDefiners 50 = .ok (.iastore, 1) := by decide +kernel
theorem dX1_findDefiners_51 : decode cX1_findDefiners 51 = .ok (.aload_n 0, 1) := by decide +kernel
theorem dX1_findDefiners_52 : decode cX1_findDefiners 52 = .ok (.getfield 9, 3) := by decide +kernel
theorem dX1_findDefiners_55 : decode cX1_findDefiners 55 = .ok (.iload_n 3, 1) := by decide +kernel
theorem dX1_findDefiners_56 : decode cX1_findDefiners 56 = .ok (.dup2, 1) := by decide +kernel
theorem dX1_findDefiners_57 : decode cX1_findDefiners 57 = .ok (.iaload, 1) := by decide +kernel
theorem dX1_findDefiners_58 : decode cX1_findDefiners 58 = .ok (.iconst 1, 1) := by decide +kernel
theorem dX1_findDefiners_59 : decode cX1_findDefiners 59 = .ok (.iload_n 2, 1) := by decide +kernel
theorem dX1_findDefiners_60 : decode cX1_findDefiners 60 = .ok (.ishl, 1) := by decide +kernel
theorem dX1_findDefiners_61 : decode cX1_findDefiners 61 = .ok (.ior, 1) := by decide +kernel
theorem dX1_findDefiners_62 : decode cX1_findDefiners 62 = .ok (.iastore, 1) := by decide +kernel
theorem dX1_findDefiners_63 : decode cX1_findDefiners 63 = .ok (.iinc 2 1, 3) := by decide +kernel
theorem dX1_findDefiners_66 : decode cX1_findDefiners 66 = .ok (.goto (-60), 3) := by decide +kernel
theorem dX1_findDefiners_69 : decode cX1_findDefiners 69 = .ok (.return_, 1) := by decide +kernel
theorem dX1_findDependencies_0 : decode cX1_findDependencies 0 = .ok (.iconst 0, 1) := by decide +kernel
theorem dX1_findDependencies_1 : decode cX1_findDependencies 1 = .ok (.istore_n 2, 1) := by decide +kernel
theorem dX1_findDependencies_2 : decode cX1_findDependencies 2 = .ok (.iload_n 2, 1) := by decide +kernel
theorem dX1_findDependencies_3 : decode cX1_findDependencies 3 = .ok (.aload_n 1, 1) := by decide +kernel
theorem dX1_findDependencies_4 : decode cX1_findDependencies 4 = .ok (.getfield 44, 3) := by decide +kernel
theorem dX1_findDependencies_7 : decode cX1_findDependencies 7 = .ok (.if_icmp .ge 42, 3) := by decide +kernel
theorem dX1_findDependencies_10 : decode cX1_findDependencies 10 = .ok (.aload_n 0, 1) := by decide +kernel
theorem dX1_findDependencies_11 : decode cX1_findDependencies 11 = .ok (.getfield 18, 3) := by decide +kernel
theorem dX1_findDependencies_14 : decode cX1_findDependencies 14 = .ok (.iload_n 2, 1) := by decide +kernel
theorem dX1_findDependencies_15 : decode cX1_findDependencies 15 = .ok (.aload_n 0, 1) := by decide +kernel
theorem dX1_findDependencies_16 : decode cX1_findDependencies 16 = .ok (.aload_n 1, 1) := by decide +kernel
theorem dX1_findDependencies_17 : decode cX1_findDependencies 17 = .ok (.getfield 63, 3) := by decide +kernel
theorem dX1_findDependencies_20 : decode cX1_findDependencies 20 = .ok (.iload_n 2, 1) := by decide +kernel
theorem dX1_findDependencies_21 : decode cX1_findDependencies 21 = .ok (.aaload, 1) := by decide +kernel
theorem dX1_findDependencies_22 : decode cX1_findDependencies 22 = .ok (.getfield 75, 3) := by decide +kernel
theorem dX1_findDependencies_25 : decode cX1_findDependencies 25 = .ok (.invokevirtual 78, 3) := by decide +kernel
theorem dX1_findDependencies_28 : decode cX1_findDependencies 28 = .ok (.aload_n 0, 1) := by decide +kernel
theorem dX1_findDependencies_29 : decode cX1_findDependencies 29 = .ok (.aload_n 1, 1) := by decide +kernel
theorem dX1_findDependencies_30 : decode cX1_findDependencies 30 = .ok (.getfield 63, 3) := by decide +kernel
theorem dX1_findDependencies_33 : decode cX1_findDependencies 33 = .ok (.iload_n 2, 1) := by decide +kernel
theorem dX1_findDependencies_34 : decode cX1_findDependencies 34 = .ok (.aaload, 1) := by decide +kernel
theorem dX1_findDependencies_35 : decode cX1_findDependencies 35 = .ok (.getfield 82, 3) := by decide +kernel
theorem dX1_findDependencies_38 : decode cX1_findDependencies 38 = .ok (.invokevirtual 78, 3) := by decide +kernel
theorem dX1_findDependencies_41 : decode cX1_findDependencies 41 = .ok (.ior, 1) := by decide +kernel
theorem dX1_findDependencies_42 : decode cX1_findDependencies 42 = .ok (.iastore, 1) := by decide +kernel
theorem dX1_findDependencies_43 : decode cX1_findDependencies 43 = .ok (.iinc 2 1, 3) := by decide +kernel
theorem dX1_findDependencies_46 : decode cX1_findDependencies 46 = .ok (.goto (-44), 3) := by decide +kernel
theorem dX1_findDependencies_49 : decode cX1_findDependencies 49 = .ok (.return_, 1) := by decide +kernel
theorem dX1_dependencyOn_0 : decode cX1_dependencyOn 0 = .ok (.aload_n 0, 1) := by decide +kernel
theorem dX1_dependencyOn_1 : decode cX1_dependencyOn 1 = .ok (.iload_n 1, 1) := by decide +kernel
theorem dX1_dependencyOn_2 : decode cX1_dependencyOn 2 = .ok (.invokevirtual 85, 3) := by decide +kernel
theorem dX1_dependencyOn_5 : decode cX1_dependencyOn 5 = .ok (.istore_n 2, 1) := by decide +kernel
theorem dX1_dependencyOn_6 : decode cX1_dependencyOn 6 = .ok (.iload_n 2, 1) := by decide +kernel
theorem dX1_dependencyOn_7 : decode cX1_dependencyOn 7 = .ok (.iconst (-1), 1) := by decide +kernel
theorem dX1_dependencyOn_8 : decode cX1_dependencyOn 8 = .ok (.if_icmp .ne 7, 3) := by decide +kernel
theorem dX1_dependencyOn_11 : decode cX1_dependencyOn 11 = .ok (.iconst 0, 1) := by decide +kernel
theorem dX1_dependencyOn_12 : decode cX1_dependencyOn 12 = .ok (.goto 6, 3) := by decide +kernel
theorem dX1_dependencyOn_15 : decode cX1_dependencyOn 15 = .ok (.iconst 1, 1) := by decide +kernel
theorem dX1_dependencyOn_16 : decode cX1_dependencyOn 16 = .ok (.iload_n 2, 1) := by decide +kernel
theorem dX1_dependencyOn_17 : decode cX1_dependencyOn 17 = .ok (.ishl, 1) := by decide +kernel
theorem dX1_dependencyOn_18 : decode cX1_dependencyOn 18 = .ok (.ireturn, 1) := by decide +kernel
theorem dX1_closeDependencies_0 : decode cX1_closeDependencies 0 = .ok (.iconst 0, 1) := by decide +kernel
theorem dX1_closeDependencies_1 : decode cX1_closeDependencies 1 = .ok (.istore_n 2, 1) := by decide +kernel
theorem dX1_closeDependencies_2 : decode cX1_closeDependencies 2 = .ok (.iload_n 2, 1) := by decide +kernel
theorem dX1_closeDependencies_3 : decode cX1_closeDependencies 3 = .ok (.iload_n 1, 1) := by decide +kernel
theorem dX1_closeDependencies_4 : decode cX1_closeDependencies 4 = .ok (.if_icmp .ge 21, 3) := by decide +kernel
theorem dX1_closeDependencies_7 : decode cX1_closeDependencies 7 = .ok (.aload_n 0, 1) := by decide +kernel
theorem dX1_closeDependencies_8 : decode cX1_closeDependencies 8 = .ok (.getfield 21, 3) := by decide +kernel
theorem dX1_closeDependencies_11 : decode cX1_closeDependencies 11 = .ok (.iload_n 2, 1) := by decide +kernel
theorem dX1_closeDependencies_12 : decode cX1_closeDependencies 12 = .ok (.aload_n 0, 1) := by decide +kernel
theorem dX1_closeDependencies_13 : decode cX1_closeDependencies 13 = .ok (.getfield 18, 3) := by decide +kernel
theorem dX1_closeDependencies_16 : decode cX1_closeDependencies 16 = .ok (.iload_n 2, 1) := by decide +kernel
theorem dX1_closeDependencies_17 : decode cX1_closeDependencies 17 = .ok (.iaload, 1) := by decide +kernel
theorem dX1_closeDependencies_18 : decode cX1_closeDependencies 18 = .ok (.iastore, 1) := by decide +kernel
theorem dX1_closeDependencies_19 : decode cX1_closeDependencies 19 = .ok (.iinc 2 1, 3) := by decide +kernel
theorem dX1_closeDependencies_22 : decode cX1_closeDependencies 22 = .ok (.goto (-20), 3) := by decide +kernel
theorem dX1_closeDependencies_25 : decode cX1_closeDependencies 25 = .ok (.iconst 0, 1) := by decide +kernel
theorem dX1_closeDependencies_26 : decode cX1_closeDependencies 26 = .ok (.istore_n 2, 1) := by decide +kernel
theorem dX1_closeDependencies_27 : decode cX1_closeDependencies 27 = .ok (.iload_n 2, 1) := by decide +kernel
theorem dX1_closeDependencies_28 : decode cX1_closeDependencies 28 = .ok (.iload_n 1, 1) := by decide +kernel
theorem dX1_closeDependencies_29 : decode cX1_closeDependencies 29 = .ok (.if_icmp .ge 50, 3) := by decide +kernel
theorem dX1_closeDependencies_32 : decode cX1_closeDependencies 32 = .ok (.iconst 0, 1) := by decide +kernel
theorem dX1_closeDependencies_33 : decode cX1_closeDependencies 33 = .ok (.istore_n 3, 1) := by decide +kernel
theorem dX1_closeDependencies_34 : decode cX1_closeDependencies 34 = .ok (.iload_n 3, 1) := by decide +kernel
theorem dX1_closeDependencies_35 : decode cX1_closeDependencies 35 = .ok (.iload_n 1, 1) := by decide +kernel
theorem dX1_closeDependencies_36 : decode cX1_closeDependencies 36 = .ok (.if_icmp .ge 37, 3) := by decide +kernel
theorem dX1_closeDependencies_39 : decode cX1_closeDependencies 39 = .ok (.aload_n 0, 1) := by decide +kernel
theorem dX1_closeDependencies_40 : decode cX1_closeDependencies 40 = .ok (.getfield 21, 3) := by decide +kernel
theorem dX1_closeDependencies_43 : decode cX1_closeDependencies 43 = .ok (.iload_n 3, 1) := by decide +kernel
theorem dX1_closeDependencies_44 : decode cX1_closeDependencies 44 = .ok (.iaload, 1) := by decide +kernel
theorem dX1_closeDependencies_45 : decode cX1_closeDependencies 45 = .ok (.iload_n 2, 1) := by decide +kernel
theorem dX1_closeDependencies_46 : decode cX1_closeDependencies 46 = .ok (.invokestatic 88, 3) := by decide +kernel
theorem dX1_closeDependencies_49 : decode cX1_closeDependencies 49 = .ok (.ifCond .eq 18, 3) := by decide +kernel
theorem dX1_closeDependencies_52 : decode cX1_closeDependencies 52 = .ok (.aload_n 0, 1) := by decide +kernel
theorem dX1_closeDependencies_53 : decode cX1_closeDependencies 53 = .ok (.getfield 21, 3) := by decide +kernel
theorem dX1_closeDependencies_56 : decode cX1_closeDependencies 56 = .ok (.iload_n 3, 1) := by decide +kernel
theorem dX1_closeDependencies_57 : decode cX1_closeDependencies 57 = .ok (.dup2, 1) := by decide +kernel
theorem dX1_closeDependencies_58 : decode cX1_closeDependencies 58 = .ok (.iaload, 1) := by decide +kernel
theorem dX1_closeDependencies_59 : decode cX1_closeDependencies 59 = .ok (.aload_n 0, 1) := by decide +kernel
theorem dX1_closeDependencies_60 : decode cX1_closeDependencies 60 = .ok (.getfield 21, 3) := by decide +kernel
theorem dX1_closeDependencies_63 : decode cX1_closeDependencies 63 = .ok (.iload_n 2, 1) := by decide +kernel
theorem dX1_closeDependencies_64 : decode cX1_closeDependencies 64 = .ok (.iaload, 1) := by decide +kernel
theorem dX1_closeDependencies_65 : decode cX1_closeDependencies 65 = .ok (.ior, 1) := by decide +kernel
theorem dX1_closeDependencies_66 : decode cX1_closeDependencies 66 = .ok (.iastore, 1) := by decide +kernel
theorem dX1_closeDependencies_67 : decode cX1_closeDependencies 67 = .ok (.iinc 3 1, 3) := by decide +kernel
theorem dX1_closeDependencies_70 : decode cX1_closeDependencies 70 = .ok (.goto (-36), 3) := by decide +kernel
theorem dX1_closeDependencies_73 : decode cX1_closeDependencies 73 = .ok (.iinc 2 1, 3) := by decide +kernel
theorem dX1_closeDependencies_76 : decode cX1_closeDependencies 76 = .ok (.goto (-49), 3) := by decide +kernel
theorem dX1_closeDependencies_79 : decode cX1_closeDependencies 79 = .ok (.return_, 1) := by decide +kernel
theorem dX1_findStaticErrors_0 : decode cX1_findStaticErrors 0 = .ok (.iconst 0, 1) := by decide +kernel
theorem dX1_findStaticErrors_1 : decode cX1_findStaticErrors 1 = .ok (.istore_n 2, 1) := by decide +kernel
theorem dX1_findStaticErrors_2 : decode cX1_findStaticErrors 2 = .ok (.iconst 0, 1) := by decide +kernel
theorem dX1_findStaticErrors_3 : decode cX1_findStaticErrors 3 = .ok (.istore_n 3, 1) := by decide +kernel
theorem dX1_findStaticErrors_4 : decode cX1_findStaticErrors 4 = .ok (.iload_n 3, 1) := by decide +kernel
theorem dX1_findStaticErrors_5 : decode cX1_findStaticErrors 5 = .ok (.aload_n 1, 1) := by decide +kernel
theorem dX1_findStaticErrors_6 : decode cX1_findStaticErrors 6 = .ok (.getfield 44, 3) := by decide +kernel
theorem dX1_findStaticErrors_9 : decode cX1_findStaticErrors 9 = .ok (.if_icmp .ge 41, 3) := by decide +kernel
theorem dX1_findStaticErrors_12 : decode cX1_findStaticErrors 12 = .ok (.aload_n 0, 1) := by decide +kernel
theorem dX1_findStaticErrors_13 : decode cX1_findStaticErrors 13 = .ok (.getfield 24, 3) := by decide +kernel
theorem dX1_findStaticErrors_16 : decode cX1_findStaticErrors 16 = .ok (.iload_n 3, 1) := by decide +kernel
theorem dX1_findStaticErrors_17 : decode cX1_findStaticErrors 17 = .ok (.aload_n 0, 1) := by decide +kernel
theorem dX1_findStaticErrors_18 : decode cX1_findStaticErrors 18 = .ok (.aload_n 1, 1) := by decide +kernel
theorem dX1_findStaticErrors_19 : decode cX1_findStaticErrors 19 = .ok (.getfield 63, 3) := by decide +kernel
theorem dX1_findStaticErrors_22 : decode cX1_findStaticErrors 22 = .ok (.iload_n 3, 1) := by decide +kernel
theorem dX1_findStaticErrors_23 : decode cX1_findStaticErrors 23 = .ok (.aaload, 1) := by decide +kernel
theorem dX1_findStaticErrors_24 : decode cX1_findStaticErrors 24 = .ok (.iload_n 3, 1) := by decide +kernel
theorem dX1_findStaticErrors_25 : decode cX1_findStaticErrors 25 = .ok (.invokevirtual 92, 3) := by decide +kernel
theorem dX1_findStaticErrors_28 : decode cX1_findStaticErrors 28 = .ok (.iastore, 1) := by decide +kernel
theorem dX1_findStaticErrors_29 : decode cX1_findStaticErrors 29 = .ok (.aload_n 0, 1) := by decide +kernel
theorem dX1_findStaticErrors_30 : decode cX1_findStaticErrors 30 = .ok (.getfield 24, 3) := by decide +kernel
theorem dX1_findStaticErrors_33 : decode cX1_findStaticErrors 33 = .ok (.iload_n 3, 1) := by decide +kernel
theorem dX1_findStaticErrors_34 : decode cX1_findStaticErrors 34 = .ok (.iaload, 1) := by decide +kernel
theorem dX1_findStaticErrors_35 : decode cX1_findStaticErrors 35 = .ok (.ifCond .eq 9, 3) := by decide +kernel
theorem dX1_findStaticErrors_38 : decode cX1_findStaticErrors 38 = .ok (.iload_n 2, 1) := by decide +kernel
theorem dX1_findStaticErrors_39 : decode cX1_findStaticErrors 39 = .ok (.iconst 1, 1) := by decide +kernel
theorem dX1_findStaticErrors_40 : decode cX1_findStaticErrors 40 = .ok (.iload_n 3, 1) := by decide +kernel
theorem dX1_findStaticErrors_41 : decode cX1_findStaticErrors 41 = .ok (.ishl, 1) := by decide +kernel
theorem dX1_findStaticErrors_42 : decode cX1_findStaticErrors 42 = .ok (.ior, 1) := by decide +kernel
theorem dX1_findStaticErrors_43 : decode cX1_findStaticErrors 43 = .ok (.istore_n 2, 1) := by decide +kernel
theorem dX1_findStaticErrors_44 : decode cX1_findStaticErrors 44 = .ok (.iinc 3 1, 3) := by decide +kernel
theorem dX1_findStaticErrors_47 : decode cX1_findStaticErrors 47 = .ok (.goto (-43), 3) := by decide +kernel
theorem dX1_findStaticErrors_50 : decode cX1_findStaticErrors 50 = .ok (.aload_n 0, 1) := by decide +kernel
theorem dX1_findStaticErrors_51 : decode cX1_findStaticErrors 51 = .ok (.aload_n 1, 1) := by decide +kernel
theorem dX1_findStaticErrors_52 : decode cX1_findStaticErrors 52 = .ok (.iload_n 2, 1) := by decide +kernel
theorem dX1_findStaticErrors_53 : decode cX1_findStaticErrors 53 = .ok (.invokevirtual 96, 3) := by decide +kernel
theorem dX1_findStaticErrors_56 : decode cX1_findStaticErrors 56 = .ok (.return_, 1) := by decide +kernel
theorem dX1_ownError_0 : decode cX1_ownError 0 = .ok (.aload_n 0, 1) := by decide +kernel
theorem dX1_ownError_1 : decode cX1_ownError 1 = .ok (.bipush 100, 2) := by decide +kernel
theorem dX1_ownError_3 : decode cX1_ownError 3 = .ok (.aload_n 1, 1) := by decide +kernel
theorem dX1_ownError_4 : decode cX1_ownError 4 = .ok (.getfield 67, 3) := by decide +kernel
theorem dX1_ownError_7 : decode cX1_ownError 7 = .ok (.iadd, 1) := by decide +kernel
theorem dX1_ownError_8 : decode cX1_ownError 8 = .ok (.invokevirtual 85, 3) := by decide +kernel
theorem dX1_ownError_11 : decode cX1_ownError 11 = .ok (.iload_n 2, 1) := by decide +kernel
theorem dX1_ownError_12 : decode cX1_ownError 12 = .ok (.if_icmp .eq 5, 3) := by decide +kernel
theorem dX1_ownError_15 : decode cX1_ownError 15 = .ok (.iconst 2, 1) := by decide +kernel
theorem dX1_ownError_16 : decode cX1_ownError 16 = .ok (.ireturn, 1) := by decide +kernel
theorem dX1_ownError_17 : decode cX1_ownError 17 = .ok (.aload_n 0, 1) := by decide +kernel
theorem dX1_ownError_18 : decode cX1_ownError 18 = .ok (.getfield 21, 3) := by decide +kernel
theorem dX1_ownError_21 : decode cX1_ownError 21 = .ok (.iload_n 2, 1) := by decide +kernel
theorem dX1_ownError_22 : decode cX1_ownError 22 = .ok (.iaload, 1) := by decide +kernel
theorem dX1_ownError_23 : decode cX1_ownError 23 = .ok (.iload_n 2, 1) := by decide +kernel
theorem dX1_ownError_24 : decode cX1_ownError 24 = .ok (.invokestatic 88, 3) := by decide +kernel
theorem dX1_ownError_27 : decode cX1_ownError 27 = .ok (.ifCond .eq 5, 3) := by decide +kernel
theorem dX1_ownError_30 : decode cX1_ownError 30 = .ok (.iconst 3, 1) := by decide +kernel
theorem dX1_ownError_31 : decode cX1_ownError 31 = .ok (.ireturn, 1) := by decide +kernel
theorem dX1_ownError_32 : decode cX1_ownError 32 = .ok (.aload_n 0, 1) := by decide +kernel
theorem dX1_ownError_33 : decode cX1_ownError 33 = .ok (.aload_n 1, 1) := by decide +kernel
theorem dX1_ownError_34 : decode cX1_ownError 34 = .ok (.getfield 75, 3) := by decide +kernel
theorem dX1_ownError_37 : decode cX1_ownError 37 = .ok (.invokevirtual 100, 3) := by decide +kernel
theorem dX1_ownError_40 : decode cX1_ownError 40 = .ok (.ifCond .ne 14, 3) := by decide +kernel
theorem dX1_ownError_43 : decode cX1_ownError 43 = .ok (.aload_n 0, 1) := by decide +kernel
theorem dX1_ownError_44 : decode cX1_ownError 44 = .ok (.aload_n 1, 1) := by decide +kernel
theorem dX1_ownError_45 : decode cX1_ownError 45 = .ok (.getfield 82, 3) := by decide +kernel
theorem dX1_ownError_48 : decode cX1_ownError 48 = .ok (.invokevirtual 100, 3) := by decide +kernel
theorem dX1_ownError_51 : decode cX1_ownError 51 = .ok (.ifCond .eq 7, 3) := by decide +kernel
theorem dX1_ownError_54 : decode cX1_ownError 54 = .ok (.iconst 4, 1) := by decide +kernel
theorem dX1_ownError_55 : decode cX1_ownError 55 = .ok (.goto 4, 3) := by decide +kernel
theorem dX1_ownError_58 : decode cX1_ownError 58 = .ok (.iconst 0, 1) := by decide +kernel
theorem dX1_ownError_59 : decode cX1_ownError 59 = .ok (.ireturn, 1) := by decide +kernel
theorem dX1_isUndefined_0 : decode cX1_isUndefined 0 = .ok (.iload_n 1, 1) := by decide +kernel
theorem dX1_isUndefined_1 : decode cX1_isUndefined 1 = .ok (.invokestatic 59, 3) := by decide +kernel
theorem dX1_isUndefined_4 : decode cX1_isUndefined 4 = .ok (.ifCond .eq 15, 3) := by decide +kernel
theorem dX1_isUndefined_7 : decode cX1_isUndefined 7 = .ok (.aload_n 0, 1) := by decide +kernel
theorem dX1_isUndefined_8 : decode cX1_isUndefined 8 = .ok (.iload_n 1, 1) := by decide +kernel
theorem dX1_isUndefined_9 : decode cX1_isUndefined 9 = .ok (.invokevirtual 103, 3) := by decide +kernel
theorem dX1_isUndefined_12 : decode cX1_isUndefined 12 = .ok (.ifCond .ne 7, 3) := by decide +kernel
theorem dX1_isUndefined_15 : decode cX1_isUndefined 15 = .ok (.iconst 1, 1) := by decide +kernel
theorem dX1_isUndefined_16 : decode cX1_isUndefined 16 = .ok (.goto 4, 3) := by decide +kernel
theorem dX1_isUndefined_19 : decode cX1_isUndefined 19 = .ok (.iconst 0, 1) := by decide +kernel
theorem dX1_isUndefined_20 : decode cX1_isUndefined 20 = .ok (.ireturn, 1) := by decide +kernel
theorem dX1_spreadBadInput_0 : decode cX1_spreadBadInput 0 = .ok (.iload_n 2, 1) := by decide +kernel
theorem dX1_spreadBadInput_1 : decode cX1_spreadBadInput 1 = .ok (.istore_n 3, 1) := by decide +kernel
theorem dX1_spreadBadInput_2 : decode cX1_spreadBadInput 2 = .ok (.iconst 0, 1) := by decide +kernel
theorem dX1_spreadBadInput_3 : decode cX1_spreadBadInput 3 = .ok (.istore 4, 2) := by decide +kernel
theorem dX1_spreadBadInput_5 : decode cX1_spreadBadInput 5 = .ok (.iload 4, 2) := by decide +kernel
theorem dX1_spreadBadInput_7 : decode cX1_spreadBadInput 7 = .ok (.aload_n 1, 1) := by decide +kernel
theorem dX1_spreadBadInput_8 : decode cX1_spreadBadInput 8 = .ok (.getfield 44, 3) := by decide +kernel
theorem dX1_spreadBadInput_11 : decode cX1_spreadBadInput 11 = .ok (.if_icmp .ge 90, 3) := by decide +kernel
theorem dX1_spreadBadInput_14 : decode cX1_spreadBadInput 14 = .ok (.iconst 0, 1) := by decide +kernel
theorem dX1_spreadBadInput_15 : decode cX1_spreadBadInput 15 = .ok (.istore 5, 2) := by decide +kernel
theorem dX1_spreadBadInput_17 : decode cX1_spreadBadInput 17 = .ok (.iload 5, 2) := by decide +kernel
theorem dX1_spreadBadInput_19 : decode cX1_spreadBadInput 19 = .ok (.aload_n 1, 1) := by decide +kernel
theorem dX1_spreadBadInput_20 : decode cX1_spreadBadInput 20 = .ok (.getfield 44, 3) := by decide +kernel
theorem dX1_spreadBadInput_23 : decode cX1_spreadBadInput 23 = .ok (.if_icmp .ge 72, 3) := by decide +kernel
theorem dX1_spreadBadInput_26 : decode cX1_spreadBadInput 26 = .ok (.aload_n 0, 1) := by decide +kernel
theorem dX1_spreadBadInput_27 : decode cX1_spreadBadInput 27 = .ok (.aload_n 1, 1) := by decide +kernel
theorem dX1_spreadBadInput_28 : decode cX1_spreadBadInput 28 = .ok (.getfield 63, 3) := by decide +kernel
theorem dX1_spreadBadInput_31 : decode cX1_spreadBadInput 31 = .ok (.iload 5, 2) := by decide +kernel
theorem dX1_spreadBadInput_33 : decode cX1_spreadBadInput 33 = .ok (.aaload, 1) := by decide +kernel
theorem dX1_spreadBadInput_34 : decode cX1_spreadBadInput 34 = .ok (.getfield 75, 3) := by decide +kernel
theorem dX1_spreadBadInput_37 : decode cX1_spreadBadInput 37 = .ok (.invokevirtual 103, 3) := by decide +kernel
theorem dX1_spreadBadInput_40 : decode cX1_spreadBadInput 40 = .ok (.aload_n 0, 1) := by decide +kernel
theorem dX1_spreadBadInput_41 : decode cX1_spreadBadInput 41 = .ok (.aload_n 1, 1) := by decide +kernel
theorem dX1_spreadBadInput_42 : decode cX1_spreadBadInput 42 = .ok (.getfield 63, 3) := by decide +kernel
theorem dX1_spreadBadInput_45 : decode cX1_spreadBadInput 45 = .ok (.iload 5, 2) := by decide +kernel
theorem dX1_spreadBadInput_47 : decode cX1_spreadBadInput 47 = .ok (.aaload, 1) := by decide +kernel
theorem dX1_spreadBadInput_48 : decode cX1_spreadBadInput 48 = .ok (.getfield 82, 3) := by decide +kernel
theorem dX1_spreadBadInput_51 : decode cX1_spreadBadInput 51 = .ok (.invokevirtual 103, 3) := by decide +kernel
theorem dX1_spreadBadInput_54 : decode cX1_spreadBadInput 54 = .ok (.ior, 1) := by decide +kernel
theorem dX1_spreadBadInput_55 : decode cX1_spreadBadInput 55 = .ok (.istore 6, 2) := by decide +kernel
theorem dX1_spreadBadInput_57 : decode cX1_spreadBadInput 57 = .ok (.aload_n 0, 1) := by decide +kernel
theorem dX1_spreadBadInput_58 : decode cX1_spreadBadInput 58 = .ok (.getfield 24, 3) := by decide +kernel
theorem dX1_spreadBadInput_61 : decode cX1_spreadBadInput 61 = .ok (.iload 5, 2) := by decide +kernel
theorem dX1_spreadBadInput_63 : decode cX1_spreadBadInput 63 = .ok (.iaload, 1) := by decide +kernel
theorem dX1_spreadBadInput_64 : decode cX1_spreadBadInput 64 = .ok (.ifCond .ne 25, 3) := by decide +kernel
theorem dX1_spreadBadInput_67 : decode cX1_spreadBadInput 67 = .ok (.iload 6, 2) := by decide +kernel
theorem dX1_spreadBadInput_69 : decode cX1_spreadBadInput 69 = .ok (.iload_n 3, 1) := by decide +kernel
theorem dX1_spreadBadInput_70 : decode cX1_spreadBadInput 70 = .ok (.iand, 1) := by decide +kernel
theorem dX1_spreadBadInput_71 : decode cX1_spreadBadInput 71 = .ok (.ifCond .eq 18, 3) := by decide +kernel
theorem dX1_spreadBadInput_74 : decode cX1_spreadBadInput 74 = .ok (.aload_n 0, 1) := by decide +kernel
theorem dX1_spreadBadInput_75 : decode cX1_spreadBadInput 75 = .ok (.getfield 24, 3) := by decide +kernel
theorem dX1_spreadBadInput_78 : decode cX1_spreadBadInput 78 = .ok (.iload 5, 2) := by decide +kernel
theorem dX1_spreadBadInput_80 : decode cX1_spreadBadInput 80 = .ok (.iconst 5, 1) := by decide +kernel
theorem dX1_spreadBadInput_81 : decode cX1_spreadBadInput 81 = .ok (.iastore, 1) := by decide +kernel
theorem dX1_spreadBadInput_82 : decode cX1_spreadBadInput 82 = .ok (.iload_n 3, 1) := by decide +kernel
theorem dX1_spreadBadInput_83 : decode cX1_spreadBadInput 83 = .ok (.iconst 1, 1) := by decide +kernel
theorem dX1_spreadBadInput_84 : decode cX1_spreadBadInput 84 = .ok (.iload 5, 2) := by decide +kernel
theorem dX1_spreadBadInput_86 : decode cX1_spreadBadInput 86 = .ok (.ishl, 1) := by decide +kernel
theorem dX1_spreadBadInput_87 : decode cX1_spreadBadInput 87 = .ok (.ior, 1) := by decide +kernel
theorem dX1_spreadBadInput_88 : decode cX1_spreadBadInput 88 = .ok (.istore_n 3, 1) := by decide +kernel
theorem dX1_spreadBadInput_89 : decode cX1_spreadBadInput 89 = .ok (.iinc 5 1, 3) := by decide +kernel
theorem dX1_spreadBadInput_92 : decode cX1_spreadBadInput 92 = .ok (.goto (-75), 3) := by decide +kernel
theorem dX1_spreadBadInput_95 : decode cX1_spreadBadInput 95 = .ok (.iinc 4 1, 3) := by decide +kernel
theorem dX1_spreadBadInput_98 : decode cX1_spreadBadInput 98 = .ok (.goto (-93), 3) := by decide +kernel
theorem dX1_spreadBadInput_101 : decode cX1_spreadBadInput 101 = .ok (.return_, 1) := by decide +kernel
theorem dX1_buildRunOrder_0 : decode cX1_buildRunOrder 0 = .ok (.iconst 0, 1) := by decide +kernel
theorem dX1_buildRunOrder_1 : decode cX1_buildRunOrder 1 = .ok (.istore_n 2, 1) := by decide +kernel
theorem dX1_buildRunOrder_2 : decode cX1_buildRunOrder 2 = .ok (.aload_n 0, 1) := by decide +kernel
theorem dX1_buildRunOrder_3 : decode cX1_buildRunOrder 3 = .ok (.iconst 0, 1) := by decide +kernel
theorem dX1_buildRunOrder_4 : decode cX1_buildRunOrder 4 = .ok (.putfield 30, 3) := by decide +kernel
theorem dX1_buildRunOrder_7 : decode cX1_buildRunOrder 7 = .ok (.iconst 0, 1) := by decide +kernel
theorem dX1_buildRunOrder_8 : decode cX1_buildRunOrder 8 = .ok (.istore_n 3, 1) := by decide +kernel
theorem dX1_buildRunOrder_9 : decode cX1_buildRunOrder 9 = .ok (.iload_n 3, 1) := by decide +kernel
theorem dX1_buildRunOrder_10 : decode cX1_buildRunOrder 10 = .ok (.iload_n 1, 1) := by decide +kernel
theorem dX1_buildRunOrder_11 : decode cX1_buildRunOrder 11 = .ok (.if_icmp .ge 46, 3) := by decide +kernel
theorem dX1_buildRunOrder_14 : decode cX1_buildRunOrder 14 = .ok (.aload_n 0, 1) := by decide +kernel
theorem dX1_buildRunOrder_15 : decode cX1_buildRunOrder 15 = .ok (.iload_n 1, 1) := by decide +kernel
theorem dX1_buildRunOrder_16 : decode cX1_buildRunOrder 16 = .ok (.iload_n 2, 1) := by decide +kernel
theorem dX1_buildRunOrder_17 : decode cX1_buildRunOrder 17 = .ok (.invokevirtual 106, 3) := by decide +kernel
theorem dX1_buildRunOrder_20 : decode cX1_buildRunOrder 20 = .ok (.istore 4, 2) := by decide +kernel
theorem dX1_buildRunOrder_22 : decode cX1_buildRunOrder 22 = .ok (.iload 4, 2) := by decide +kernel
theorem dX1_buildRunOrder_24 : decode cX1_buildRunOrder 24 = .ok (.iconst (-1), 1) := by decide +kernel
theorem dX1_buildRunOrder_25 : decode cX1_buildRunOrder 25 = .ok (.if_icmp .ne 4, 3) := by decide +kernel
theorem dX1_buildRunOrder_28 : decode cX1_buildRunOrder 28 = .ok (.return_, 1) := by decide +kernel
theorem dX1_buildRunOrder_29 : decode cX1_buildRunOrder 29 = .ok (.aload_n 0, 1) := by decide +kernel
theorem dX1_buildRunOrder_30 : decode cX1_buildRunOrder 30 = .ok (.getfield 27, 3) := by decide +kernel
theorem dX1_buildRunOrder_33 : decode cX1_buildRunOrder 33 = .ok (.iload_n 3, 1) := by decide +kernel
theorem dX1_buildRunOrder_34 : decode cX1_buildRunOrder 34 = .ok (.iload 4, 2) := by decide +kernel
theorem dX1_buildRunOrder_36 : decode cX1_buildRunOrder 36 = .ok (.iastore, 1) := by decide +kernel
theorem dX1_buildRunOrder_37 : decode cX1_buildRunOrder 37 = .ok (.aload_n 0, 1) := by decide +kernel
theorem dX1_buildRunOrder_38 : decode cX1_buildRunOrder 38 = .ok (.iload_n 3, 1) := by decide +kernel
theorem dX1_buildRunOrder_39 : decode cX1_buildRunOrder 39 = .ok (.iconst 1, 1) := by decide +kernel
theorem dX1_buildRunOrder_40 : decode cX1_buildRunOrder 40 = .ok (.iadd, 1) := by decide +kernel
theorem dX1_buildRunOrder_41 : decode cX1_buildRunOrder 41 = .ok (.putfield 30, 3) := by decide +kernel
theorem dX1_buildRunOrder_44 : decode cX1_buildRunOrder 44 = .ok (.iload_n 2, 1) := by decide +kernel
theorem dX1_buildRunOrder_45 : decode cX1_buildRunOrder 45 = .ok (.iconst 1, 1) := by decide +kernel
theorem dX1_buildRunOrder_46 : decode cX1_buildRunOrder 46 = .ok (.iload 4, 2) := by decide +kernel
theorem dX1_buildRunOrder_48 : decode cX1_buildRunOrder 48 = .ok (.ishl, 1) := by decide +kernel
theorem dX1_buildRunOrder_49 : decode cX1_buildRunOrder 49 = .ok (.ior, 1) := by decide +kernel
theorem dX1_buildRunOrder_50 : decode cX1_buildRunOrder 50 = .ok (.istore_n 2, 1) := by decide +kernel
theorem dX1_buildRunOrder_51 : decode cX1_buildRunOrder 51 = .ok (.iinc 3 1, 3) := by decide +kernel
theorem dX1_buildRunOrder_54 : decode cX1_buildRunOrder 54 = .ok (.goto (-45), 3) := by decide +kernel
theorem dX1_buildRunOrder_57 : decode cX1_buildRunOrder 57 = .ok (.return_, 1) := by decide +kernel
theorem dX1_lowestReady_0 : decode cX1_lowestReady 0 = .ok (.iconst 0, 1) := by decide +kernel
theorem dX1_lowestReady_1 : decode cX1_lowestReady 1 = .ok (.istore_n 3, 1) := by decide +kernel
theorem dX1_lowestReady_2 : decode cX1_lowestReady 2 = .ok (.iload_n 3, 1) := by decide +kernel
theorem dX1_lowestReady_3 : decode cX1_lowestReady 3 = .ok (.iload_n 1, 1) := by decide +kernel
theorem dX1_lowestReady_4 : decode cX1_lowestReady 4 = .ok (.if_icmp .ge 53, 3) := by decide +kernel
theorem dX1_lowestReady_7 : decode cX1_lowestReady 7 = .ok (.aload_n 0, 1) := by decide +kernel
theorem dX1_lowestReady_8 : decode cX1_lowestReady 8 = .ok (.getfield 18, 3) := by decide +kernel
theorem dX1_lowestReady_11 : decode cX1_lowestReady 11 = .ok (.iload_n 3, 1) := by decide +kernel
theorem dX1_lowestReady_12 : decode cX1_lowestReady 12 = .ok (.iaload, 1) := by decide +kernel
theorem dX1_lowestReady_13 : decode cX1_lowestReady 13 = .ok (.iload_n 2, 1) := by decide +kernel
theorem dX1_lowestReady_14 : decode cX1_lowestReady 14 = .ok (.iconst (-1), 1) := by decide +kernel
theorem dX1_lowestReady_15 : decode cX1_lowestReady 15 = .ok (.ixor, 1) := by decide +kernel
theorem dX1_lowestReady_16 : decode cX1_lowestReady 16 = .ok (.iand, 1) := by decide +kernel
theorem dX1_lowestReady_17 : decode cX1_lowestReady 17 = .ok (.ifCond .ne 7, 3) := by decide +kernel
theorem dX1_lowestReady_20 : decode cX1_lowestReady 20 = .ok (.iconst 1, 1) := by decide +kernel
theorem dX1_lowestReady_21 : decode cX1_lowestReady 21 = .ok (.goto 4, 3) := by decide +kernel
theorem dX1_lowestReady_24 : decode cX1_lowestReady 24 = .ok (.iconst 0, 1) := by decide +kernel
theorem dX1_lowestReady_25 : decode cX1_lowestReady 25 = .ok (.istore 4, 2) := by decide +kernel
theorem dX1_lowestReady_27 : decode cX1_lowestReady 27 = .ok (.aload_n 0, 1) := by decide +kernel
theorem dX1_lowestReady_28 : decode cX1_lowestReady 28 = .ok (.getfield 24, 3) := by decide +kernel
theorem dX1_lowestReady_31 : decode cX1_lowestReady 31 = .ok (.iload_n 3, 1) := by decide +kernel
theorem dX1_lowestReady_32 : decode cX1_lowestReady 32 = .ok (.iaload, 1) := by decide +kernel
theorem dX1_lowestReady_33 : decode cX1_lowestReady 33 = .ok (.ifCond .ne 18, 3) := by decide +kernel
theorem dX1_lowestReady_36 : decode cX1_lowestReady 36 = .ok (.iload_n 2, 1) := by decide +kernel
theorem dX1_lowestReady_37 : decode cX1_lowestReady 37 = .ok (.iload_n 3, 1) := by decide +kernel
theorem dX1_lowestReady_38 : decode cX1_lowestReady 38 = .ok (.invokestatic 88, 3) := by decide +kernel
theorem dX1_lowestReady_41 : decode cX1_lowestReady 41 = .ok (.ifCond .ne 10, 3) := by decide +kernel
theorem dX1_lowestReady_44 : decode cX1_lowestReady 44 = .ok (.iload 4, 2) := by decide +kernel
theorem dX1_lowestReady_46 : decode cX1_lowestReady 46 = .ok (.ifCond .eq 5, 3) := by decide +kernel
theorem dX1_lowestReady_49 : decode cX1_lowestReady 49 = .ok (.iload_n 3, 1) := by decide +kernel
theorem dX1_lowestReady_50 : decode cX1_lowestReady 50 = .ok (.ireturn, 1) := by decide +kernel
theorem dX1_lowestReady_51 : decode cX1_lowestReady 51 = .ok (.iinc 3 1, 3) := by decide +kernel
theorem dX1_lowestReady_54 : decode cX1_lowestReady 54 = .ok (.goto (-52), 3) := by decide +kernel
theorem dX1_lowestReady_57 : decode cX1_lowestReady 57 = .ok (.iconst (-1), 1) := by decide +kernel
theorem dX1_lowestReady_58 : decode cX1_lowestReady 58 = .ok (.ireturn, 1) := by decide +kernel
theorem dX2_init_0 : decode cX2_init 0 = .ok (.aload_n 0, 1) := by decide +kernel
theorem dX2_init_1 : decode cX2_init 1 = .ok (.invokespecial 3, 3) := by decide +kernel
theorem dX2_init_4 : decode cX2_init 4 = .ok (.aload_n 0, 1) := by decide +kernel
theorem dX2_init_5 : decode cX2_init 5 = .ok (.bipush 12, 2) := by decide +kernel
theorem dX2_init_7 : decode cX2_init 7 = .ok (.anewarray 9, 3) := by decide +kernel
theorem dX2_init_10 : decode cX2_init 10 = .ok (.putfield 11, 3) := by decide +kernel
theorem dX2_init_13 : decode cX2_init 13 = .ok (.aload_n 0, 1) := by decide +kernel
theorem dX2_init_14 : decode cX2_init 14 = .ok (.iconst 0, 1) := by decide +kernel
theorem dX2_init_15 : decode cX2_init 15 = .ok (.putfield 17, 3) := by decide +kernel
theorem dX2_init_18 : decode cX2_init 18 = .ok (.aload_n 0, 1) := by decide +kernel
theorem dX2_init_19 : decode cX2_init 19 = .ok (.iconst 0, 1) := by decide +kernel
theorem dX2_init_20 : decode cX2_init 20 = .ok (.putfield 21, 3) := by decide +kernel
theorem dX2_init_23 : decode cX2_init 23 = .ok (.aload_n 0, 1) := by decide +kernel
theorem dX2_init_24 : decode cX2_init 24 = .ok (.iconst 0, 1) := by decide +kernel
theorem dX2_init_25 : decode cX2_init 25 = .ok (.putfield 24, 3) := by decide +kernel
theorem dX2_init_28 : decode cX2_init 28 = .ok (.aload_n 0, 1) := by decide +kernel
theorem dX2_init_29 : decode cX2_init 29 = .ok (.iconst 0, 1) := by decide +kernel
theorem dX2_init_30 : decode cX2_init 30 = .ok (.putfield 27, 3) := by decide +kernel
theorem dX2_init_33 : decode cX2_init 33 = .ok (.aload_n 0, 1) := by decide +kernel
theorem dX2_init_34 : decode cX2_init 34 = .ok (.bipush 12, 2) := by decide +kernel
theorem dX2_init_36 : decode cX2_init 36 = .ok (.newarray .int, 2) := by decide +kernel
theorem dX2_init_38 : decode cX2_init 38 = .ok (.putfield 30, 3) := by decide +kernel
theorem dX2_init_41 : decode cX2_init 41 = .ok (.aload_n 0, 1) := by decide +kernel
theorem dX2_init_42 : decode cX2_init 42 = .ok (.iconst 0, 1) := by decide +kernel
theorem dX2_init_43 : decode cX2_init 43 = .ok (.putfield 34, 3) := by decide +kernel
theorem dX2_init_46 : decode cX2_init 46 = .ok (.iconst 0, 1) := by decide +kernel
theorem dX2_init_47 : decode cX2_init 47 = .ok (.istore_n 1, 1) := by decide +kernel
theorem dX2_init_48 : decode cX2_init 48 = .ok (.iload_n 1, 1) := by decide +kernel
theorem dX2_init_49 : decode cX2_init 49 = .ok (.bipush 12, 2) := by decide +kernel
theorem dX2_init_51 : decode cX2_init 51 = .ok (.if_icmp .ge 22, 3) := by decide +kernel
theorem dX2_init_54 : decode cX2_init 54 = .ok (.aload_n 0, 1) := by decide +kernel
theorem dX2_init_55 : decode cX2_init 55 = .ok (.getfield 11, 3) := by decide +kernel
theorem dX2_init_58 : decode cX2_init 58 = .ok (.iload_n 1, 1) := by decide +kernel
theorem dX2_init_59 : decode cX2_init 59 = .ok (.new 9, 3) := by decide +kernel
theorem dX2_init_62 : decode cX2_init 62 = .ok (.dup, 1) := by decide +kernel
theorem dX2_init_63 : decode cX2_init 63 = .ok (.invokespecial 37, 3) := by decide +kernel
theorem dX2_init_66 : decode cX2_init 66 = .ok (.aastore, 1) := by decide +kernel
theorem dX2_init_67 : decode cX2_init 67 = .ok (.iinc 1 1, 3) := by decide +kernel
theorem dX2_init_70 : decode cX2_init 70 = .ok (.goto (-22), 3) := by decide +kernel
theorem dX2_init_73 : decode cX2_init 73 = .ok (.return_, 1) := by decide +kernel
theorem dX2_copyFrom_0 : decode cX2_copyFrom 0 = .ok (.aload_n 0, 1) := by decide +kernel
theorem dX2_copyFrom_1 : decode cX2_copyFrom 1 = .ok (.aload_n 1, 1) := by decide +kernel
theorem dX2_copyFrom_2 : decode cX2_copyFrom 2 = .ok (.getfield 17, 3) := by decide +kernel
theorem dX2_copyFrom_5 : decode cX2_copyFrom 5 = .ok (.putfield 17, 3) := by decide +kernel
theorem dX2_copyFrom_8 : decode cX2_copyFrom 8 = .ok (.aload_n 0, 1) := by decide +kernel
theorem dX2_copyFrom_9 : decode cX2_copyFrom 9 = .ok (.aload_n 1, 1) := by decide +kernel
theorem dX2_copyFrom_10 : decode cX2_copyFrom 10 = .ok (.getfield 21, 3) := by decide +kernel
theorem dX2_copyFrom_13 : decode cX2_copyFrom 13 = .ok (.putfield 21, 3) := by decide +kernel
theorem dX2_copyFrom_16 : decode cX2_copyFrom 16 = .ok (.aload_n 0, 1) := by decide +kernel
theorem dX2_copyFrom_17 : decode cX2_copyFrom 17 = .ok (.aload_n 1, 1) := by decide +kernel
theorem dX2_copyFrom_18 : decode cX2_copyFrom 18 = .ok (.getfield 24, 3) := by decide +kernel
theorem dX2_copyFrom_21 : decode cX2_copyFrom 21 = .ok (.putfield 24, 3) := by decide +kernel
theorem dX2_copyFrom_24 : decode cX2_copyFrom 24 = .ok (.aload_n 0, 1) := by decide +kernel
theorem dX2_copyFrom_25 : decode cX2_copyFrom 25 = .ok (.aload_n 1, 1) := by decide +kernel
theorem dX2_copyFrom_26 : decode cX2_copyFrom 26 = .ok (.getfield 27, 3) := by decide +kernel
theorem dX2_copyFrom_29 : decode cX2_copyFrom 29 = .ok (.putfield 27, 3) := by decide +kernel
theorem dX2_copyFrom_32 : decode cX2_copyFrom 32 = .ok (.aload_n 0, 1) := by decide +kernel
theorem dX2_copyFrom_33 : decode cX2_copyFrom 33 = .ok (.aload_n 1, 1) := by decide +kernel
theorem dX2_copyFrom_34 : decode cX2_copyFrom 34 = .ok (.getfield 34, 3) := by decide +kernel
theorem dX2_copyFrom_37 : decode cX2_copyFrom 37 = .ok (.putfield 34, 3) := by decide +kernel
theorem dX2_copyFrom_40 : decode cX2_copyFrom 40 = .ok (.iconst 0, 1) := by decide +kernel
theorem dX2_copyFrom_41 : decode cX2_copyFrom 41 = .ok (.istore_n 2, 1) := by decide +kernel
theorem dX2_copyFrom_42 : decode cX2_copyFrom 42 = .ok (.iload_n 2, 1) := by decide +kernel
theorem dX2_copyFrom_43 : decode cX2_copyFrom 43 = .ok (.bipush 12, 2) := by decide +kernel
theorem dX2_copyFrom_45 : decode cX2_copyFrom 45 = .ok (.if_icmp .ge 36, 3) := by decide +kernel
theorem dX2_copyFrom_48 : decode cX2_copyFrom 48 = .ok (.aload_n 0, 1) := by decide +kernel
theorem dX2_copyFrom_49 : decode cX2_copyFrom 49 = .ok (.getfield 11, 3) := by decide +kernel
theorem dX2_copyFrom_52 : decode cX2_copyFrom 52 = .ok (.iload_n 2, 1) := by decide +kernel
theorem dX2_copyFrom_53 : decode cX2_copyFrom 53 = .ok (.aaload, 1) := by decide +kernel
theorem dX2_copyFrom_54 : decode cX2_copyFrom 54 = .ok (.aload_n 1, 1) := by decide +kernel
theorem dX2_copyFrom_55 : decode cX2_copyFrom 55 = .ok (.getfield 11, 3) := by decide +kernel
theorem dX2_copyFrom_58 : decode cX2_copyFrom 58 = .ok (.iload_n 2, 1) := by decide +kernel
theorem dX2_copyFrom_59 : decode cX2_copyFrom 59 = .ok (.aaload, 1) := by decide +kernel
theorem dX2_copyFrom_60 : decode cX2_copyFrom 60 = .ok (.invokevirtual 38, 3) := by decide +kernel
theorem dX2_copyFrom_63 : decode cX2_copyFrom 63 = .ok (.aload_n 0, 1) := by decide +kernel
theorem dX2_copyFrom_64 : decode cX2_copyFrom 64 = .ok (.getfield 30, 3) := by decide +kernel
theorem dX2_copyFrom_67 : decode cX2_copyFrom 67 = .ok (.iload_n 2, 1) := by decide +kernel
theorem dX2_copyFrom_68 : decode cX2_copyFrom 68 = .ok (.aload_n 1, 1) := by decide +kernel
theorem dX2_copyFrom_69 : decode cX2_copyFrom 69 = .ok (.getfield 30, 3) := by decide +kernel
theorem dX2_copyFrom_72 : decode cX2_copyFrom 72 = .ok (.iload_n 2, 1) := by decide +kernel
theorem dX2_copyFrom_73 : decode cX2_copyFrom 73 = .ok (.iaload, 1) := by decide +kernel
theorem dX2_copyFrom_74 : decode cX2_copyFrom 74 = .ok (.iastore, 1) := by decide +kernel
theorem dX2_copyFrom_75 : decode cX2_copyFrom 75 = .ok (.iinc 2 1, 3) := by decide +kernel
theorem dX2_copyFrom_78 : decode cX2_copyFrom 78 = .ok (.goto (-36), 3) := by decide +kernel
theorem dX2_copyFrom_81 : decode cX2_copyFrom 81 = .ok (.return_, 1) := by decide +kernel
theorem dX2_append_0 : decode cX2_append 0 = .ok (.aload_n 0, 1) := by decide +kernel
theorem dX2_append_1 : decode cX2_append 1 = .ok (.getfield 17, 3) := by decide +kernel
theorem dX2_append_4 : decode cX2_append 4 = .ok (.bipush 12, 2) := by decide +kernel
theorem dX2_append_6 : decode cX2_append 6 = .ok (.if_icmp .lt 4, 3) := by decide +kernel
theorem dX2_append_9 : decode cX2_append 9 = .ok (.return_, 1) := by decide +kernel
theorem dX2_append_10 : decode cX2_append 10 = .ok (.aload_n 0, 1) := by decide +kernel
theorem dX2_append_11 : decode cX2_append 11 = .ok (.getfield 11, 3) := by decide +kernel
theorem dX2_append_14 : decode cX2_append 14 = .ok (.aload_n 0, 1) := by decide +kernel
theorem dX2_append_15 : decode cX2_append 15 = .ok (.getfield 17, 3) := by decide +kernel
theorem dX2_append_18 : decode cX2_append 18 = .ok (.aaload, 1) := by decide +kernel
theorem dX2_append_19 : decode cX2_append 19 = .ok (.astore 5, 2) := by decide +kernel
theorem dX2_append_21 : decode cX2_append 21 = .ok (.aload 5, 2) := by decide +kernel
theorem dX2_append_23 : decode cX2_append 23 = .ok (.iload_n 1, 1) := by decide +kernel
theorem dX2_append_24 : decode cX2_append 24 = .ok (.iload_n 2, 1) := by decide +kernel
theorem dX2_append_25 : decode cX2_append 25 = .ok (.iload_n 3, 1) := by decide +kernel
theorem dX2_append_26 : decode cX2_append 26 = .ok (.iload 4, 2) := by decide +kernel
theorem dX2_append_28 : decode cX2_append 28 = .ok (.invokevirtual 42, 3) := by decide +kernel
theorem dX2_append_31 : decode cX2_append 31 = .ok (.aload 5, 2) := by decide +kernel
theorem dX2_append_33 : decode cX2_append 33 = .ok (.iconst 0, 1) := by decide +kernel
theorem dX2_append_34 : decode cX2_append 34 = .ok (.putfield 46, 3) := by decide +kernel
theorem dX2_append_37 : decode cX2_append 37 = .ok (.aload_n 0, 1) := by decide +kernel
theorem dX2_append_38 : decode cX2_append 38 = .ok (.dup, 1) := by decide +kernel
theorem dX2_append_39 : decode cX2_append 39 = .ok (.getfield 17, 3) := by decide +kernel
theorem dX2_append_42 : decode cX2_append 42 = .ok (.iconst 1, 1) := by decide +kernel
theorem dX2_append_43 : decode cX2_append 43 = .ok (.iadd, 1) := by decide +kernel
theorem dX2_append_44 : decode cX2_append 44 = .ok (.putfield 17, 3) := by decide +kernel
theorem dX2_append_47 : decode cX2_append 47 = .ok (.return_, 1) := by decide +kernel
theorem dX2_remove_0 : decode cX2_remove 0 = .ok (.aload_n 0, 1) := by decide +kernel
theorem dX2_remove_1 : decode cX2_remove 1 = .ok (.iload_n 1, 1) := by decide +kernel
theorem dX2_remove_2 : decode cX2_remove 2 = .ok (.aload_n 0, 1) := by decide +kernel
theorem dX2_remove_3 : decode cX2_remove 3 = .ok (.getfield 17, 3) := by decide +kernel
theorem dX2_remove_6 : decode cX2_remove 6 = .ok (.iconst 1, 1) := by decide +kernel
theorem dX2_remove_7 : decode cX2_remove 7 = .ok (.isub, 1) := by decide +kernel
theorem dX2_remove_8 : decode cX2_remove 8 = .ok (.invokevirtual 49, 3) := by decide +kernel
theorem dX2_remove_11 : decode cX2_remove 11 = .ok (.aload_n 0, 1) := by decide +kernel
theorem dX2_remove_12 : decode cX2_remove 12 = .ok (.dup, 1) := by decide +kernel
theorem dX2_remove_13 : decode cX2_remove 13 = .ok (.getfield 17, 3) := by decide +kernel
theorem dX2_remove_16 : decode cX2_remove 16 = .ok (.iconst 1, 1) := by decide +kernel
theorem dX2_remove_17 : decode cX2_remove 17 = .ok (.isub, 1) := by decide +kernel
theorem dX2_remove_18 : decode cX2_remove 18 = .ok (.putfield 17, 3) := by decide +kernel
theorem dX2_remove_21 : decode cX2_remove 21 = .ok (.return_, 1) := by decide +kernel
theorem dX2_move_0 : decode cX2_move 0 = .ok (.aload_n 0, 1) := by decide +kernel
theorem dX2_move_1 : decode cX2_move 1 = .ok (.getfield 11, 3) := by decide +kernel
theorem dX2_move_4 : decode cX2_move 4 = .ok (.iload_n 1, 1) := by decide +kernel
theorem dX2_move_5 : decode cX2_move 5 = .ok (.aaload, 1) := by decide +kernel
theorem dX2_move_6 : decode cX2_move 6 = .ok (.astore_n 3, 1) := by decide +kernel
theorem dX2_move_7 : decode cX2_move 7 = .ok (.iload_n 1, 1) := by decide +kernel
theorem dX2_move_8 : decode cX2_move 8 = .ok (.istore 4, 2) := by decide +kernel
theorem dX2_move_10 : decode cX2_move 10 = .ok (.iload 4, 2) := by decide +kernel
theorem dX2_move_12 : decode cX2_move 12 = .ok (.iload_n 2, 1) := by decide +kernel
theorem dX2_move_13 : decode cX2_move 13 = .ok (.if_icmp .ge 25, 3) := by decide +kernel
theorem dX2_move_16 : decode cX2_move 16 = .ok (.aload_n 0, 1) := by decide +kernel
theorem dX2_move_17 : decode cX2_move 17 = .ok (.getfield 11, 3) := by decide +kernel
theorem dX2_move_20 : decode cX2_move 20 = .ok (.iload 4, 2) := by decide +kernel
theorem dX2_move_22 : decode cX2_move 22 = .ok (.aload_n 0, 1) := by decide +kernel
theorem dX2_move_23 : decode cX2_move 23 = .ok (.getfield 11, 3) := by decide +kernel
theorem dX2_move_26 : decode cX2_move 26 = .ok (.iload 4, 2) := by decide +kernel
theorem dX2_move_28 : decode cX2_move 28 = .ok (.iconst 1, 1) := by decide +kernel
theorem dX2_move_29 : decode cX2_move 29 = .ok (.iadd, 1) := by decide +kernel
theorem dX2_move_30 : decode cX2_move 30 = .ok (.aaload, 1) := by decide +kernel
theorem dX2_move_31 : decode cX2_move 31 = .ok (.aastore, 1) := by decide +kernel
theorem dX2_move_32 : decode cX2_move 32 = .ok (.iinc 4 1, 3) := by decide +kernel
theorem dX2_move_35 : decode cX2_move 35 = .ok (.goto (-25), 3) := by decide +kernel
theorem dX2_move_38 : decode cX2_move 38 = .ok (.iload_n 1, 1) := by decide +kernel
theorem dX2_move_39 : decode cX2_move 39 = .ok (.istore 4, 2) := by decide +kernel
theorem dX2_move_41 : decode cX2_move 41 = .ok (.iload 4, 2) := by decide +kernel
theorem dX2_move_43 : decode cX2_move 43 = .ok (.iload_n 2, 1) := by decide +kernel
theorem dX2_move_44 : decode cX2_move 44 = .ok (.if_icmp .le 25, 3) := by decide +kernel
theorem dX2_move_47 : decode cX2_move 47 = .ok (.aload_n 0, 1) := by decide +kernel
theorem dX2_move_48 : decode cX2_move 48 = .ok (.getfield 11, 3) := by decide +kernel
theorem dX2_move_51 : decode cX2_move 51 = .ok (.iload 4, 2) := by decide +kernel
theorem dX2_move_53 : decode cX2_move 53 = .ok (.aload_n 0, 1) := by decide +kernel
theorem dX2_move_54 : decode cX2_move 54 = .ok (.getfield 11, 3) := by decide +kernel
theorem dX2_move_57 : decode cX2_move 57 = .ok (.iload 4, 2) := by decide +kernel
theorem dX2_move_59 : decode cX2_move 59 = .ok (.iconst 1, 1) := by decide +kernel
theorem dX2_move_60 : decode cX2_move 60 = .ok (.isub, 1) := by decide +kernel
theorem dX2_move_61 : decode cX2_move 61 = .ok (.aaload, 1) := by decide +kernel
theorem dX2_move_62 : decode cX2_move 62 = .ok (.aastore, 1) := by decide +kernel
theorem dX2_move_63 : decode cX2_move 63 = .ok (.iinc 4 (-1), 3) := by decide +kernel
theorem dX2_move_66 : decode cX2_move 66 = .ok (.goto (-25), 3) := by decide +kernel
theorem dX2_move_69 : decode cX2_move 69 = .ok (.aload_n 0, 1) := by decide +kernel
theorem dX2_move_70 : decode cX2_move 70 = .ok (.getfield 11, 3) := by decide +kernel
theorem dX2_move_73 : decode cX2_move 73 = .ok (.iload_n 2, 1) := by decide +kernel
theorem dX2_move_74 : decode cX2_move 74 = .ok (.aload_n 3, 1) := by decide +kernel
theorem dX2_move_75 : decode cX2_move 75 = .ok (.aastore, 1) := by decide +kernel
theorem dX2_move_76 : decode cX2_move 76 = .ok (.return_, 1) := by decide +kernel
theorem dX2_recordRun_0 : decode cX2_recordRun 0 = .ok (.aload_n 0, 1) := by decide +kernel
theorem dX2_recordRun_1 : decode cX2_recordRun 1 = .ok (.dup, 1) := by decide +kernel
theorem dX2_recordRun_2 : decode cX2_recordRun 2 = .ok (.getfield 24, 3) := by decide +kernel
theorem dX2_recordRun_5 : decode cX2_recordRun 5 = .ok (.iconst 1, 1) := by decide +kernel
theorem dX2_recordRun_6 : decode cX2_recordRun 6 = .ok (.iadd, 1) := by decide +kernel
theorem dX2_recordRun_7 : decode cX2_recordRun 7 = .ok (.putfield 24, 3) := by decide +kernel
theorem dX2_recordRun_10 : decode cX2_recordRun 10 = .ok (.aload_n 0, 1) := by decide +kernel
theorem dX2_recordRun_11 : decode cX2_recordRun 11 = .ok (.getfield 34, 3) := by decide +kernel
theorem dX2_recordRun_14 : decode cX2_recordRun 14 = .ok (.bipush 12, 2) := by decide +kernel
theorem dX2_recordRun_16 : decode cX2_recordRun 16 = .ok (.if_icmp .ge 23, 3) := by decide +kernel
theorem dX2_recordRun_19 : decode cX2_recordRun 19 = .ok (.aload_n 0, 1) := by decide +kernel
theorem dX2_recordRun_20 : decode cX2_recordRun 20 = .ok (.getfield 30, 3) := by decide +kernel
theorem dX2_recordRun_23 : decode cX2_recordRun 23 = .ok (.aload_n 0, 1) := by decide +kernel
theorem dX2_recordRun_24 : decode cX2_recordRun 24 = .ok (.getfield 34, 3) := by decide +kernel
theorem dX2_recordRun_27 : decode cX2_recordRun 27 = .ok (.iload_n 1, 1) := by decide +kernel
theorem dX2_recordRun_28 : decode cX2_recordRun 28 = .ok (.iastore, 1) := by decide +kernel
theorem dX2_recordRun_29 : decode cX2_recordRun 29 = .ok (.aload_n 0, 1) := by decide +kernel
theorem dX2_recordRun_30 : decode cX2_recordRun 30 = .ok (.dup, 1) := by decide +kernel
theorem dX2_recordRun_31 : decode cX2_recordRun 31 = .ok (.getfield 34, 3) := by decide +kernel
theorem dX2_recordRun_34 : decode cX2_recordRun 34 = .ok (.iconst 1, 1) := by decide +kernel
theorem dX2_recordRun_35 : decode cX2_recordRun 35 = .ok (.iadd, 1) := by decide +kernel
theorem dX2_recordRun_36 : decode cX2_recordRun 36 = .ok (.putfield 34, 3) := by decide +kernel
theorem dX2_recordRun_39 : decode cX2_recordRun 39 = .ok (.return_, 1) := by decide +kernel
theorem dX3_init_0 : decode cX3_init 0 = .ok (.aload_n 0, 1) := by decide +kernel
theorem dX3_init_1 : decode cX3_init 1 = .ok (.invokespecial 3, 3) := by decide +kernel
theorem dX3_init_4 : decode cX3_init 4 = .ok (.aload_n 0, 1) := by decide +kernel
theorem dX3_init_5 : decode cX3_init 5 = .ok (.new 9, 3) := by decide +kernel
theorem dX3_init_8 : decode cX3_init 8 = .ok (.dup, 1) := by decide +kernel
theorem dX3_init_9 : decode cX3_init 9 = .ok (.invokespecial 11, 3) := by decide +kernel
theorem dX3_init_12 : decode cX3_init 12 = .ok (.putfield 12, 3) := by decide +kernel
theorem dX3_init_15 : decode cX3_init 15 = .ok (.aload_n 0, 1) := by decide +kernel
theorem dX3_init_16 : decode cX3_init 16 = .ok (.iconst 4, 1) := by decide +kernel
theorem dX3_init_17 : decode cX3_init 17 = .ok (.anewarray 9, 3) := by decide +kernel
theorem dX3_init_20 : decode cX3_init 20 = .ok (.putfield 16, 3) := by decide +kernel
theorem dX3_init_23 : decode cX3_init 23 = .ok (.aload_n 0, 1) := by decide +kernel
theorem dX3_init_24 : decode cX3_init 24 = .ok (.iconst 0, 1) := by decide +kernel
theorem dX3_init_25 : decode cX3_init 25 = .ok (.putfield 20, 3) := by decide +kernel
theorem dX3_init_28 : decode cX3_init 28 = .ok (.aload_n 0, 1) := by decide +kernel
theorem dX3_init_29 : decode cX3_init 29 = .ok (.iconst 3, 1) := by decide +kernel
theorem dX3_init_30 : decode cX3_init 30 = .ok (.newarray .int, 2) := by decide +kernel
theorem dX3_init_32 : decode cX3_init 32 = .ok (.putfield 24, 3) := by decide +kernel
theorem dX3_init_35 : decode cX3_init 35 = .ok (.aload_n 0, 1) := by decide +kernel
theorem dX3_init_36 : decode cX3_init 36 = .ok (.new 28, 3) := by decide +kernel
theorem dX3_init_39 : decode cX3_init 39 = .ok (.dup, 1) := by decide +kernel
theorem dX3_init_40 : decode cX3_init 40 = .ok (.invokespecial 30, 3) := by decide +kernel
theorem dX3_init_43 : decode cX3_init 43 = .ok (.putfield 31, 3) := by decide +kernel
theorem dX3_init_46 : decode cX3_init 46 = .ok (.aload_n 0, 1) := by decide +kernel
theorem dX3_init_47 : decode cX3_init 47 = .ok (.iconst 0, 1) := by decide +kernel
theorem dX3_init_48 : decode cX3_init 48 = .ok (.putfield 35, 3) := by decide +kernel
theorem dX3_init_51 : decode cX3_init 51 = .ok (.iconst 0, 1) := by decide +kernel
theorem dX3_init_52 : decode cX3_init 52 = .ok (.istore_n 1, 1) := by decide +kernel
theorem dX3_init_53 : decode cX3_init 53 = .ok (.iload_n 1, 1) := by decide +kernel
theorem dX3_init_54 : decode cX3_init 54 = .ok (.iconst 4, 1) := by decide +kernel
theorem dX3_init_55 : decode cX3_init 55 = .ok (.if_icmp .ge 22, 3) := by decide +kernel
theorem dX3_init_58 : decode cX3_init 58 = .ok (.aload_n 0, 1) := by decide +kernel
theorem dX3_init_59 : decode cX3_init 59 = .ok (.getfield 16, 3) := by decide +kernel
theorem dX3_init_62 : decode cX3_init 62 = .ok (.iload_n 1, 1) := by decide +kernel
theorem dX3_init_63 : decode cX3_init 63 = .ok (.new 9, 3) := by decide +kernel
theorem dX3_init_66 : decode cX3_init 66 = .ok (.dup, 1) := by decide +kernel
theorem dX3_init_67 : decode cX3_init 67 = .ok (.invokespecial 11, 3) := by decide +kernel
theorem dX3_init_70 : decode cX3_init 70 = .ok (.aastore, 1) := by decide +kernel
theorem dX3_init_71 : decode cX3_init 71 = .ok (.iinc 1 1, 3) := by decide +kernel
theorem dX3_init_74 : decode cX3_init 74 = .ok (.goto (-21), 3) := by decide +kernel
theorem dX3_init_77 : decode cX3_init 77 = .ok (.return_, 1) := by decide +kernel
theorem dX3_addCell_0 : decode cX3_addCell 0 = .ok (.iload_n 1, 1) := by decide +kernel
theorem dX3_addCell_1 : decode cX3_addCell 1 = .ok (.iload_n 2, 1) := by decide +kernel
theorem dX3_addCell_2 : decode cX3_addCell 2 = .ok (.iload_n 3, 1) := by decide +kernel
theorem dX3_addCell_3 : decode cX3_addCell 3 = .ok (.iload 4, 2) := by decide +kernel
theorem dX3_addCell_5 : decode cX3_addCell 5 = .ok (.invokestatic 38, 3) := by decide +kernel
theorem dX3_addCell_8 : decode cX3_addCell 8 = .ok (.ifCond .ne 11, 3) := by decide +kernel
theorem dX3_addCell_11 : decode cX3_addCell 11 = .ok (.aload_n 0, 1) := by decide +kernel
theorem dX3_addCell_12 : decode cX3_addCell 12 = .ok (.sipush (-10002), 3) := by decide +kernel
theorem dX3_addCell_15 : decode cX3_addCell 15 = .ok (.invokevirtual 42, 3) := by decide +kernel
theorem dX3_addCell_18 : decode cX3_addCell 18 = .ok (.ireturn, 1) := by decide +kernel
theorem dX3_addCell_19 : decode cX3_addCell 19 = .ok (.aload_n 0, 1) := by decide +kernel
theorem dX3_addCell_20 : decode cX3_addCell 20 = .ok (.getfield 12, 3) := by decide +kernel
theorem dX3_addCell_23 : decode cX3_addCell 23 = .ok (.getfield 46, 3) := by decide +kernel
theorem dX3_addCell_26 : decode cX3_addCell 26 = .ok (.bipush 12, 2) := by decide +kernel
theorem dX3_addCell_28 : decode cX3_addCell 28 = .ok (.if_icmp .lt 11, 3) := by decide +kernel
theorem dX3_addCell_31 : decode cX3_addCell 31 = .ok (.aload_n 0, 1) := by decide +kernel
theorem dX3_addCell_32 : decode cX3_addCell 32 = .ok (.sipush (-10004), 3) := by decide +kernel
theorem dX3_addCell_35 : decode cX3_addCell 35 = .ok (.invokevirtual 42, 3) := by decide +kernel
theorem dX3_addCell_38 : decode cX3_addCell 38 = .ok (.ireturn, 1) := by decide +kernel
theorem dX3_addCell_39 : decode cX3_addCell 39 = .ok (.aload_n 0, 1) := by decide +kernel
theorem dX3_addCell_40 : decode cX3_addCell 40 = .ok (.invokevirtual 49, 3) := by decide +kernel
theorem dX3_addCell_43 : decode cX3_addCell 43 = .ok (.aload_n 0, 1) := by decide +kernel
theorem dX3_addCell_44 : decode cX3_addCell 44 = .ok (.getfield 12, 3) := by decide +kernel
theorem dX3_addCell_47 : decode cX3_addCell 47 = .ok (.iload_n 1, 1) := by decide +kernel
theorem dX3_addCell_48 : decode cX3_addCell 48 = .ok (.iload_n 2, 1) := by decide +kernel
theorem dX3_addCell_49 : decode cX3_addCell 49 = .ok (.iload_n 3, 1) := by decide +kernel
theorem dX3_addCell_50 : decode cX3_addCell 50 = .ok (.iload 4, 2) := by decide +kernel
theorem dX3_addCell_52 : decode cX3_addCell 52 = .ok (.invokevirtual 52, 3) := by decide +kernel
theorem dX3_addCell_55 : decode cX3_addCell 55 = .ok (.aload_n 0, 1) := by decide +kernel
theorem dX3_addCell_56 : decode cX3_addCell 56 = .ok (.invokevirtual 56, 3) := by decide +kernel
theorem dX3_addCell_59 : decode cX3_addCell 59 = .ok (.aload_n 0, 1) := by decide +kernel
theorem dX3_addCell_60 : decode cX3_addCell 60 = .ok (.getfield 12, 3) := by decide +kernel
theorem dX3_addCell_63 : decode cX3_addCell 63 = .ok (.getfield 46, 3) := by decide +kernel
theorem dX3_addCell_66 : decode cX3_addCell 66 = .ok (.iconst 1, 1) := by decide +kernel
theorem dX3_addCell_67 : decode cX3_addCell 67 = .ok (.isub, 1) := by decide +kernel
theorem dX3_addCell_68 : decode cX3_addCell 68 = .ok (.ireturn, 1) := by decide +kernel
theorem dX3_editCell_0 : decode cX3_editCell 0 = .ok (.aload_n 0, 1) := by decide +kernel
theorem dX3_editCell_1 : decode cX3_editCell 1 = .ok (.iload_n 1, 1) := by decide +kernel
theorem dX3_editCell_2 : decode cX3_editCell 2 = .ok (.invokevirtual 59, 3) := by decide +kernel
theorem dX3_editCell_5 : decode cX3_editCell 5 = .ok (.ifCond .eq 15, 3) := by decide +kernel
theorem dX3_editCell_8 : decode cX3_editCell 8 = .ok (.iload_n 2, 1) := by decide +kernel
theorem dX3_editCell_9 : decode cX3_editCell 9 = .ok (.iload_n 3, 1) := by decide +kernel
theorem dX3_editCell_10 : decode cX3_editCell 10 = .ok (.iload 4, 2) := by decide +kernel
theorem dX3_editCell_12 : decode cX3_editCell 12 = .ok (.iload 5, 2) := by decide +kernel
theorem dX3_editCell_14 : decode cX3_editCell 14 = .ok (.invokestatic 38, 3) := by decide +kernel
theorem dX3_editCell_17 : decode cX3_editCell 17 = .ok (.ifCond .ne 11, 3) := by decide +kernel
theorem dX3_editCell_20 : decode cX3_editCell 20 = .ok (.aload_n 0, 1) := by decide +kernel
theorem dX3_editCell_21 : decode cX3_editCell 21 = .ok (.sipush (-10002), 3) := by decide +kernel
theorem dX3_editCell_24 : decode cX3_editCell 24 = .ok (.invokevirtual 42, 3) := by decide +kernel
theorem dX3_editCell_27 : decode cX3_editCell 27 = .ok (.ireturn, 1) := by decide +kernel
theorem dX3_editCell_28 : decode cX3_editCell 28 = .ok (.aload_n 0, 1) := by decide +kernel
theorem dX3_editCell_29 : decode cX3_editCell 29 = .ok (.invokevirtual 49, 3) := by decide +kernel
theorem dX3_editCell_32 : decode cX3_editCell 32 = .ok (.aload_n 0, 1) := by decide +kernel
theorem dX3_editCell_33 : decode cX3_editCell 33 = .ok (.getfield 12, 3) := by decide +kernel
theorem dX3_editCell_36 : decode cX3_editCell 36 = .ok (.getfield 63, 3) := by decide +kernel
theorem dX3_editCell_39 : decode cX3_editCell 39 = .ok (.iload_n 1, 1) := by decide +kernel
theorem dX3_editCell_40 : decode cX3_editCell 40 = .ok (.aaload, 1) := by decide +kernel
theorem dX3_editCell_41 : decode cX3_editCell 41 = .ok (.astore 6, 2) := by decide +kernel
theorem dX3_editCell_43 : decode cX3_editCell 43 = .ok (.aload 6, 2) := by decide +kernel
theorem dX3_editCell_45 : decode cX3_editCell 45 = .ok (.getfield 67, 3) := by decide +kernel
theorem dX3_editCell_48 : decode cX3_editCell 48 = .ok (.istore 7, 2) := by decide +kernel
theorem dX3_editCell_50 : decode cX3_editCell 50 = .ok (.aload 6, 2) := by decide +kernel
theorem dX3_editCell_52 : decode cX3_editCell 52 = .ok (.iload_n 2, 1) := by decide +kernel
theorem dX3_editCell_53 : decode cX3_editCell 53 = .ok (.iload_n 3, 1) := by decide +kernel
theorem dX3_editCell_54 : decode cX3_editCell 54 = .ok (.iload 4, 2) := by decide +kernel
theorem dX3_editCell_56 : decode cX3_editCell 56 = .ok (.iload 5, 2) := by decide +kernel
theorem dX3_editCell_58 : decode cX3_editCell 58 = .ok (.invokevirtual 72, 3) := by decide +kernel
theorem dX3_editCell_61 : decode cX3_editCell 61 = .ok (.aload_n 0, 1) := by decide +kernel
theorem dX3_editCell_62 : decode cX3_editCell 62 = .ok (.invokevirtual 56, 3) := by decide +kernel
theorem dX3_editCell_65 : decode cX3_editCell 65 = .ok (.iload 7, 2) := by decide +kernel
theorem dX3_editCell_67 : decode cX3_editCell 67 = .ok (.ireturn, 1) := by decide +kernel
theorem dX3_deleteCell_0 : decode cX3_deleteCell 0 = .ok (.aload_n 0, 1) := by decide +kernel
theorem dX3_deleteCell_1 : decode cX3_deleteCell 1 = .ok (.iload_n 1, 1) := by decide +kernel
theorem dX3_deleteCell_2 : decode cX3_deleteCell 2 = .ok (.invokevirtual 59, 3) := by decide +kernel
theorem dX3_deleteCell_5 : decode cX3_deleteCell 5 = .ok (.ifCond .ne 11, 3) := by decide +kernel
theorem dX3_deleteCell_8 : decode cX3_deleteCell 8 = .ok (.aload_n 0, 1) := by decide +kernel
theorem dX3_deleteCell_9 : decode cX3_deleteCell 9 = .ok (.sipush (-10002), 3) := by decide +kernel
theorem dX3_deleteCell_12 : decode cX3_deleteCell 12 = .ok (.invokevirtual 42, 3) := by decide +kernel
theorem dX3_deleteCell_15 : decode cX3_deleteCell 15 = .ok (.ireturn, 1) := by decide +kernel
theorem dX3_deleteCell_16 : decode cX3_deleteCell 16 = .ok (.aload_n 0, 1) := by decide +kernel
theorem dX3_deleteCell_17 : decode cX3_deleteCell 17 = .ok (.invokevirtual 49, 3) := by decide +kernel
theorem dX3_deleteCell_20 : decode cX3_deleteCell 20 = .ok (.aload_n 0, 1) := by decide +kernel
theorem dX3_deleteCell_21 : decode cX3_deleteCell 21 = .ok (.getfield 12, 3) := by decide +kernel
theorem dX3_deleteCell_24 : decode cX3_deleteCell 24 = .ok (.iload_n 1, 1) := by decide +kernel
theorem dX3_deleteCell_25 : decode cX3_deleteCell 25 = .ok (.invokevirtual 75, 3) := by decide +kernel
theorem dX3_deleteCell_28 : decode cX3_deleteCell 28 = .ok (.aload_n 0, 1) := by decide +kernel
theorem dX3_deleteCell_29 : decode cX3_deleteCell 29 = .ok (.invokevirtual 56, 3) := by decide +kernel
theorem dX3_deleteCell_32 : decode cX3_deleteCell 32 = .ok (.aload_n 0, 1) := by decide +kernel
theorem dX3_deleteCell_33 : decode cX3_deleteCell 33 = .ok (.getfield 12, 3) := by decide +kernel
theorem dX3_deleteCell_36 : decode cX3_deleteCell 36 = .ok (.getfield 46, 3) := by decide +kernel
theorem dX3_deleteCell_39 : decode cX3_deleteCell 39 = .ok (.ireturn, 1) := by decide +kernel
theorem dX3_moveCell_0 : decode cX3_moveCell 0 = .ok (.aload_n 0, 1) := by decide +kernel
theorem dX3_moveCell_1 : decode cX3_moveCell 1 = .ok (.iload_n 1, 1) := by decide +kernel
theorem dX3_moveCell_2 : decode cX3_moveCell 2 = .ok (.invokevirtual 59, 3) := by decide +kernel
theorem dX3_moveCell_5 : decode cX3_moveCell 5 = .ok (.ifCond .eq 11, 3) := by decide +kernel
theorem dX3_moveCell_8 : decode cX3_moveCell 8 = .ok (.aload_n 0, 1) := by decide +kernel
theorem dX3_moveCell_9 : decode cX3_moveCell 9 = .ok (.iload_n 2, 1) := by decide +kernel
theorem dX3_moveCell_10 : decode cX3_moveCell 10 = .ok (.invokevirtual 59, 3) := by decide +kernel
theorem dX3_moveCell_13 : decode cX3_moveCell 13 = .ok (.ifCond .ne 11, 3) := by decide +kernel
theorem dX3_moveCell_16 : decode cX3_moveCell 16 = .ok (.aload_n 0, 1) := by decide +kernel
theorem dX3_moveCell_17 : decode cX3_moveCell 17 = .ok (.sipush (-10002), 3) := by decide +kernel
theorem dX3_moveCell_20 : decode cX3_moveCell 20 = .ok (.invokevirtual 42, 3) := by decide +kernel
theorem dX3_moveCell_23 : decode cX3_moveCell 23 = .ok (.ireturn, 1) := by decide +kernel
theorem dX3_moveCell_24 : decode cX3_moveCell 24 = .ok (.aload_n 0, 1) := by decide +kernel
theorem dX3_moveCell_25 : decode cX3_moveCell 25 = .ok (.invokevirtual 49, 3) := by decide +kernel
theorem dX3_moveCell_28 : decode cX3_moveCell 28 = .ok (.aload_n 0, 1) := by decide +kernel
theorem dX3_moveCell_29 : decode cX3_moveCell 29 = .ok (.getfield 12, 3) := by decide +kernel
theorem dX3_moveCell_32 : decode cX3_moveCell 32 = .ok (.iload_n 1, 1) := by decide +kernel
theorem dX3_moveCell_33 : decode cX3_moveCell 33 = .ok (.iload_n 2, 1) := by decide +kernel
theorem dX3_moveCell_34 : decode cX3_moveCell 34 = .ok (.invokevirtual 79, 3) := by decide +kernel
theorem dX3_moveCell_37 : decode cX3_moveCell 37 = .ok (.aload_n 0, 1) := by decide +kernel
theorem dX3_moveCell_38 : decode cX3_moveCell 38 = .ok (.invokevirtual 56, 3) := by decide +kernel
theorem dX3_moveCell_41 : decode cX3_moveCell 41 = .ok (.iload_n 1, 1) := by decide +kernel
theorem dX3_moveCell_42 : decode cX3_moveCell 42 = .ok (.iload_n 2, 1) := by decide +kernel
theorem dX3_moveCell_43 : decode cX3_moveCell 43 = .ok (.if_icmp .ne 7, 3) := by decide +kernel
theorem dX3_moveCell_46 : decode cX3_moveCell 46 = .ok (.iconst 0, 1) := by decide +kernel
theorem dX3_moveCell_47 : decode cX3_moveCell 47 = .ok (.goto 11, 3) := by decide +kernel
theorem dX3_moveCell_50 : decode cX3_moveCell 50 = .ok (.iload_n 2, 1) := by decide +kernel
theorem dX3_moveCell_51 : decode cX3_moveCell 51 = .ok (.iload_n 1, 1) := by decide +kernel
theorem dX3_moveCell_52 : decode cX3_moveCell 52 = .ok (.isub, 1) := by decide +kernel
theorem dX3_moveCell_53 : decode cX3_moveCell 53 = .ok (.invokestatic 83, 3) := by decide +kernel
theorem dX3_moveCell_56 : decode cX3_moveCell 56 = .ok (.iconst 1, 1) := by decide +kernel
theorem dX3_moveCell_57 : decode cX3_moveCell 57 = .ok (.iadd, 1) := by decide +kernel
theorem dX3_moveCell_58 : decode cX3_moveCell 58 = .ok (.ireturn, 1) := by decide +kernel
theorem dX3_setEager_0 : decode cX3_setEager 0 = .ok (.iload_n 1, 1) := by decide +kernel
theorem dX3_setEager_1 : decode cX3_setEager 1 = .ok (.ifCond .eq 16, 3) := by decide +kernel
theorem dX3_setEager_4 : decode cX3_setEager 4 = .ok (.iload_n 1, 1) := by decide +kernel
theorem dX3_setEager_5 : decode cX3_setEager 5 = .ok (.iconst 1, 1) := by decide +kernel
theorem dX3_setEager_6 : decode cX3_setEager 6 = .ok (.if_icmp .eq 11, 3) := by decide +kernel
theorem dX3_setEager_9 : decode cX3_setEager 9 = .ok (.aload_n 0, 1) := by decide +kernel
theorem dX3_setEager_10 : decode cX3_setEager 10 = .ok (.sipush (-10002), 3) := by decide +kernel
theorem dX3_setEager_13 : decode cX3_setEager 13 = .ok (.invokevirtual 42, 3) := by decide +kernel
theorem dX3_setEager_16 : decode cX3_setEager 16 = .ok (.ireturn, 1) := by decide +kernel
theorem dX3_setEager_17 : decode cX3_setEager 17 = .ok (.aload_n 0, 1) := by decide +kernel
theorem dX3_setEager_18 : decode cX3_setEager 18 = .ok (.invokevirtual 49, 3) := by decide +kernel
theorem dX3_setEager_21 : decode cX3_setEager 21 = .ok (.aload_n 0, 1) := by decide +kernel
theorem dX3_setEager_22 : decode cX3_setEager 22 = .ok (.getfield 12, 3) := by decide +kernel
theorem dX3_setEager_25 : decode cX3_setEager 25 = .ok (.getfield 88, 3) := by decide +kernel
theorem dX3_setEager_28 : decode cX3_setEager 28 = .ok (.istore_n 2, 1) := by decide +kernel
theorem dX3_setEager_29 : decode cX3_setEager 29 = .ok (.aload_n 0, 1) := by decide +kernel
theorem dX3_setEager_30 : decode cX3_setEager 30 = .ok (.getfield 12, 3) := by decide +kernel
theorem dX3_setEager_33 : decode cX3_setEager 33 = .ok (.iload_n 1, 1) := by decide +kernel
theorem dX3_setEager_34 : decode cX3_setEager 34 = .ok (.putfield 88, 3) := by decide +kernel
theorem dX3_setEager_37 : decode cX3_setEager 37 = .ok (.aload_n 0, 1) := by decide +kernel
theorem dX3_setEager_38 : decode cX3_setEager 38 = .ok (.invokevirtual 56, 3) := by decide +kernel
theorem dX3_setEager_41 : decode cX3_setEager 41 = .ok (.iload_n 2, 1) := by decide +kernel
theorem dX3_setEager_42 : decode cX3_setEager 42 = .ok (.ireturn, 1) := by decide +kernel
theorem dX3_runStale_0 : decode cX3_runStale 0 = .ok (.aload_n 0, 1) := by decide +kernel
theorem dX3_runStale_1 : decode cX3_runStale 1 = .ok (.invokevirtual 49, 3) := by decide +kernel
theorem dX3_runStale_4 : decode cX3_runStale 4 = .ok (.aload_n 0, 1) := by decide +kernel
theorem dX3_runStale_5 : decode cX3_runStale 5 = .ok (.invokevirtual 91, 3) := by decide +kernel
theorem dX3_runStale_8 : decode cX3_runStale 8 = .ok (.aload_n 0, 1) := by decide +kernel
theorem dX3_runStale_9 : decode cX3_runStale 9 = .ok (.sipush 4095, 3) := by decide +kernel
theorem dX3_runStale_12 : decode cX3_runStale 12 = .ok (.invokevirtual 94, 3) := by decide +kernel
theorem dX3_runStale_15 : decode cX3_runStale 15 = .ok (.aload_n 0, 1) := by decide +kernel
theorem dX3_runStale_16 : decode cX3_runStale 16 = .ok (.getfield 12, 3) := by decide +kernel
theorem dX3_runStale_19 : decode cX3_runStale 19 = .ok (.getfield 97, 3) := by decide +kernel
theorem dX3_runStale_22 : decode cX3_runStale 22 = .ok (.ireturn, 1) := by decide +kernel
theorem dX3_runCell_0 : decode cX3_runCell 0 = .ok (.aload_n 0, 1) := by decide +kernel
theorem dX3_runCell_1 : decode cX3_runCell 1 = .ok (.iload_n 1, 1) := by decide +kernel
theorem dX3_runCell_2 : decode cX3_runCell 2 = .ok (.invokevirtual 59, 3) := by decide +kernel
theorem dX3_runCell_5 : decode cX3_runCell 5 = .ok (.ifCond .ne 11, 3) := by decide +kernel
theorem dX3_runCell_8 : decode cX3_runCell 8 = .ok (.aload_n 0, 1) := by decide +kernel
theorem dX3_runCell_9 : decode cX3_runCell 9 = .ok (.sipush (-10002), 3) := by decide +kernel
theorem dX3_runCell_12 : decode cX3_runCell 12 = .ok (.invokevirtual 42, 3) := by decide +kernel
theorem dX3_runCell_15 : decode cX3_runCell 15 = .ok (.ireturn, 1) := by decide +kernel
theorem dX3_runCell_16 : decode cX3_runCell 16 = .ok (.aload_n 0, 1) := by decide +kernel
theorem dX3_runCell_17 : decode cX3_runCell 17 = .ok (.getfield 31, 3) := by decide +kernel
theorem dX3_runCell_20 : decode cX3_runCell 20 = .ok (.getfield 100, 3) := by decide +kernel
theorem dX3_runCell_23 : decode cX3_runCell 23 = .ok (.iload_n 1, 1) := by decide +kernel
theorem dX3_runCell_24 : decode cX3_runCell 24 = .ok (.iaload, 1) := by decide +kernel
theorem dX3_runCell_25 : decode cX3_runCell 25 = .ok (.ifCond .eq 11, 3) := by decide +kernel
theorem dX3_runCell_28 : decode cX3_runCell 28 = .ok (.aload_n 0, 1) := by decide +kernel
theorem dX3_runCell_29 : decode cX3_runCell 29 = .ok (.sipush (-10003), 3) := by decide +kernel
theorem dX3_runCell_32 : decode cX3_runCell 32 = .ok (.invokevirtual 42, 3) := by decide +kernel
theorem dX3_runCell_35 : decode cX3_runCell 35 = .ok (.ireturn, 1) := by decide +kernel
theorem dX3_runCell_36 : decode cX3_runCell 36 = .ok (.aload_n 0, 1) := by decide +kernel
theorem dX3_runCell_37 : decode cX3_runCell 37 = .ok (.invokevirtual 49, 3) := by decide +kernel
theorem dX3_runCell_40 : decode cX3_runCell 40 = .ok (.aload_n 0, 1) := by decide +kernel
theorem dX3_runCell_41 : decode cX3_runCell 41 = .ok (.invokevirtual 91, 3) := by decide +kernel
theorem dX3_runCell_44 : decode cX3_runCell 44 = .ok (.aload_n 0, 1) := by decide +kernel
theorem dX3_runCell_45 : decode cX3_runCell 45 = .ok (.aload_n 0, 1) := by decide +kernel
theorem dX3_runCell_46 : decode cX3_runCell 46 = .ok (.getfield 31, 3) := by decide +kernel
theorem dX3_runCell_49 : decode cX3_runCell 49 = .ok (.getfield 103, 3) := by decide +kernel
theorem dX3_runCell_52 : decode cX3_runCell 52 = .ok (.iload_n 1, 1) := by decide +kernel
theorem dX3_runCell_53 : decode cX3_runCell 53 = .ok (.iaload, 1) := by decide +kernel
theorem dX3_runCell_54 : decode cX3_runCell 54 = .ok (.iconst 1, 1) := by decide +kernel
theorem dX3_runCell_55 : decode cX3_runCell 55 = .ok (.iload_n 1, 1) := by decide +kernel
theorem dX3_runCell_56 : decode cX3_runCell 56 = .ok (.ishl, 1) := by decide +kernel
theorem dX3_runCell_57 : decode cX3_runCell 57 = .ok (.ior, 1) := by decide +kernel
theorem dX3_runCell_58 : decode cX3_runCell 58 = .ok (.invokevirtual 94, 3) := by decide +kernel
theorem dX3_runCell_61 : decode cX3_runCell 61 = .ok (.aload_n 0, 1) := by decide +kernel
theorem dX3_runCell_62 : decode cX3_runCell 62 = .ok (.getfield 12, 3) := by decide +kernel
theorem dX3_runCell_65 : decode cX3_runCell 65 = .ok (.getfield 97, 3) := by decide +kernel
theorem dX3_runCell_68 : decode cX3_runCell 68 = .ok (.ireturn, 1) := by decide +kernel
theorem dX3_lastRunCount_0 : decode cX3_lastRunCount 0 = .ok (.aload_n 0, 1) := by decide +kernel
theorem dX3_lastRunCount_1 : decode cX3_lastRunCount 1 = .ok (.getfield 12, 3) := by decide +kernel
theorem dX3_lastRunCount_4 : decode cX3_lastRunCount 4 = .ok (.getfield 97, 3) := by decide +kernel
theorem dX3_lastRunCount_7 : decode cX3_lastRunCount 7 = .ok (.ireturn, 1) := by decide +kernel
theorem dX3_lastRun_0 : decode cX3_lastRun 0 = .ok (.iload_n 1, 1) := by decide +kernel
theorem dX3_lastRun_1 : decode cX3_lastRun 1 = .ok (.ifCond .ge 11, 3) := by decide +kernel
theorem dX3_lastRun_4 : decode cX3_lastRun 4 = .ok (.aload_n 0, 1) := by decide +kernel
theorem dX3_lastRun_5 : decode cX3_lastRun 5 = .ok (.sipush (-10002), 3) := by decide +kernel
theorem dX3_lastRun_8 : decode cX3_lastRun 8 = .ok (.invokevirtual 42, 3) := by decide +kernel
theorem dX3_lastRun_11 : decode cX3_lastRun 11 = .ok (.ireturn, 1) := by decide +kernel
theorem dX3_lastRun_12 : decode cX3_lastRun 12 = .ok (.iload_n 1, 1) := by decide +kernel
theorem dX3_lastRun_13 : decode cX3_lastRun 13 = .ok (.aload_n 0, 1) := by decide +kernel
theorem dX3_lastRun_14 : decode cX3_lastRun 14 = .ok (.getfield 12, 3) := by decide +kernel
theorem dX3_lastRun_17 : decode cX3_lastRun 17 = .ok (.getfield 97, 3) := by decide +kernel
theorem dX3_lastRun_20 : decode cX3_lastRun 20 = .ok (.if_icmp .ge 15, 3) := by decide +kernel
theorem dX3_lastRun_23 : decode cX3_lastRun 23 = .ok (.aload_n 0, 1) := by decide +kernel
theorem dX3_lastRun_24 : decode cX3_lastRun 24 = .ok (.getfield 12, 3) := by decide +kernel
theorem dX3_lastRun_27 : decode cX3_lastRun 27 = .ok (.getfield 106, 3) := by decide +kernel
theorem dX3_lastRun_30 : decode cX3_lastRun 30 = .ok (.iload_n 1, 1) := by decide +kernel
theorem dX3_lastRun_31 : decode cX3_lastRun 31 = .ok (.iaload, 1) := by decide +kernel
theorem dX3_lastRun_32 : decode cX3_lastRun 32 = .ok (.goto 6, 3) := by decide +kernel
theorem dX3_lastRun_35 : decode cX3_lastRun 35 = .ok (.sipush (-10001), 3) := by decide +kernel
theorem dX3_lastRun_38 : decode cX3_lastRun 38 = .ok (.ireturn, 1) := by decide +kernel
theorem dX3_cellCount_0 : decode cX3_cellCount 0 = .ok (.aload_n 0, 1) := by decide +kernel
theorem dX3_cellCount_1 : decode cX3_cellCount 1 = .ok (.getfield 12, 3) := by decide +kernel
theorem dX3_cellCount_4 : decode cX3_cellCount 4 = .ok (.getfield 46, 3) := by decide +kernel
theorem dX3_cellCount_7 : decode cX3_cellCount 7 = .ok (.ireturn, 1) := by decide +kernel
theorem dX3_variable_0 : decode cX3_variable 0 = .ok (.aload_n 0, 1) := by decide +kernel
theorem dX3_variable_1 : decode cX3_variable 1 = .ok (.iload_n 1, 1) := by decide +kernel
theorem dX3_variable_2 : decode cX3_variable 2 = .ok (.invokevirtual 59, 3) := by decide +kernel
theorem dX3_variable_5 : decode cX3_variable 5 = .ok (.ifCond .eq 18, 3) := by decide +kernel
theorem dX3_variable_8 : decode cX3_variable 8 = .ok (.aload_n 0, 1) := by decide +kernel
theorem dX3_variable_9 : decode cX3_variable 9 = .ok (.getfield 12, 3) := by decide +kernel
theorem dX3_variable_12 : decode cX3_variable 12 = .ok (.getfield 63, 3) := by decide +kernel
theorem dX3_variable_15 : decode cX3_variable 15 = .ok (.iload_n 1, 1) := by decide +kernel
theorem dX3_variable_16 : decode cX3_variable 16 = .ok (.aaload, 1) := by decide +kernel
theorem dX3_variable_17 : decode cX3_variable 17 = .ok (.getfield 67, 3) := by decide +kernel
theorem dX3_variable_20 : decode cX3_variable 20 = .ok (.goto 10, 3) := by decide +kernel
theorem dX3_variable_23 : decode cX3_variable 23 = .ok (.aload_n 0, 1) := by decide +kernel
theorem dX3_variable_24 : decode cX3_variable 24 = .ok (.sipush (-10002), 3) := by decide +kernel
theorem dX3_variable_27 : decode cX3_variable 27 = .ok (.invokevirtual 42, 3) := by decide +kernel
theorem dX3_variable_30 : decode cX3_variable 30 = .ok (.ireturn, 1) := by decide +kernel
theorem dX3_status_0 : decode cX3_status 0 = .ok (.aload_n 0, 1) := by decide +kernel
theorem dX3_status_1 : decode cX3_status 1 = .ok (.iload_n 1, 1) := by decide +kernel
theorem dX3_status_2 : decode cX3_status 2 = .ok (.invokevirtual 59, 3) := by decide +kernel
theorem dX3_status_5 : decode cX3_status 5 = .ok (.ifCond .eq 11, 3) := by decide +kernel
theorem dX3_status_8 : decode cX3_status 8 = .ok (.aload_n 0, 1) := by decide +kernel
theorem dX3_status_9 : decode cX3_status 9 = .ok (.iload_n 1, 1) := by decide +kernel
theorem dX3_status_10 : decode cX3_status 10 = .ok (.invokevirtual 109, 3) := by decide +kernel
theorem dX3_status_13 : decode cX3_status 13 = .ok (.goto 10, 3) := by decide +kernel
theorem dX3_status_16 : decode cX3_status 16 = .ok (.aload_n 0, 1) := by decide +kernel
theorem dX3_status_17 : decode cX3_status 17 = .ok (.sipush (-10002), 3) := by decide +kernel
theorem dX3_status_20 : decode cX3_status 20 = .ok (.invokevirtual 42, 3) := by decide +kernel
theorem dX3_status_23 : decode cX3_status 23 = .ok (.ireturn, 1) := by decide +kernel
theorem dX3_value_0 : decode cX3_value 0 = .ok (.aload_n 0, 1) := by decide +kernel
theorem dX3_value_1 : decode cX3_value 1 = .ok (.iload_n 1, 1) := by decide +kernel
theorem dX3_value_2 : decode cX3_value 2 = .ok (.invokevirtual 59, 3) := by decide +kernel
theorem dX3_value_5 : decode cX3_value 5 = .ok (.ifCond .eq 11, 3) := by decide +kernel
theorem dX3_value_8 : decode cX3_value 8 = .ok (.aload_n 0, 1) := by decide +kernel
theorem dX3_value_9 : decode cX3_value 9 = .ok (.iload_n 1, 1) := by decide +kernel
theorem dX3_value_10 : decode cX3_value 10 = .ok (.invokevirtual 112, 3) := by decide +kernel
theorem dX3_value_13 : decode cX3_value 13 = .ok (.goto 10, 3) := by decide +kernel
theorem dX3_value_16 : decode cX3_value 16 = .ok (.aload_n 0, 1) := by decide +kernel
theorem dX3_value_17 : decode cX3_value 17 = .ok (.sipush (-10002), 3) := by decide +kernel
theorem dX3_value_20 : decode cX3_value 20 = .ok (.invokevirtual 42, 3) := by decide +kernel
theorem dX3_value_23 : decode cX3_value 23 = .ok (.ireturn, 1) := by decide +kernel
theorem dX3_valueOf_0 : decode cX3_valueOf 0 = .ok (.iload_n 1, 1) := by decide +kernel
theorem dX3_valueOf_1 : decode cX3_valueOf 1 = .ok (.invokestatic 115, 3) := by decide +kernel
theorem dX3_valueOf_4 : decode cX3_valueOf 4 = .ok (.ifCond .ne 11, 3) := by decide +kernel
theorem dX3_valueOf_7 : decode cX3_valueOf 7 = .ok (.aload_n 0, 1) := by decide +kernel
theorem dX3_valueOf_8 : decode cX3_valueOf 8 = .ok (.sipush (-10002), 3) := by decide +kernel
theorem dX3_valueOf_11 : decode cX3_valueOf 11 = .ok (.invokevirtual 42, 3) := by decide +kernel
theorem dX3_valueOf_14 : decode cX3_valueOf 14 = .ok (.ireturn, 1) := by decide +kernel
theorem dX3_valueOf_15 : decode cX3_valueOf 15 = .ok (.aload_n 0, 1) := by decide +kernel
theorem dX3_valueOf_16 : decode cX3_valueOf 16 = .ok (.getfield 31, 3) := by decide +kernel
theorem dX3_valueOf_19 : decode cX3_valueOf 19 = .ok (.getfield 118, 3) := by decide +kernel
theorem dX3_valueOf_22 : decode cX3_valueOf 22 = .ok (.iload_n 1, 1) := by decide +kernel
theorem dX3_valueOf_23 : decode cX3_valueOf 23 = .ok (.iaload, 1) := by decide +kernel
theorem dX3_valueOf_24 : decode cX3_valueOf 24 = .ok (.istore_n 2, 1) := by decide +kernel
theorem dX3_valueOf_25 : decode cX3_valueOf 25 = .ok (.iload_n 2, 1) := by decide +kernel
theorem dX3_valueOf_26 : decode cX3_valueOf 26 = .ok (.iconst (-1), 1) := by decide +kernel
theorem dX3_valueOf_27 : decode cX3_valueOf 27 = .ok (.if_icmp .ne 9, 3) := by decide +kernel
theorem dX3_valueOf_30 : decode cX3_valueOf 30 = .ok (.sipush (-10001), 3) := by decide +kernel
theorem dX3_valueOf_33 : decode cX3_valueOf 33 = .ok (.goto 8, 3) := by decide +kernel
theorem dX3_valueOf_36 : decode cX3_valueOf 36 = .ok (.aload_n 0, 1) := by decide +kernel
theorem dX3_valueOf_37 : decode cX3_valueOf 37 = .ok (.iload_n 2, 1) := by decide +kernel
theorem dX3_valueOf_38 : decode cX3_valueOf 38 = .ok (.invokevirtual 112, 3) := by decide +kernel
theorem dX3_valueOf_41 : decode cX3_valueOf 41 = .ok (.ireturn, 1) := by decide +kernel
theorem dX3_version_0 : decode cX3_version 0 = .ok (.aload_n 0, 1) := by decide +kernel
theorem dX3_version_1 : decode cX3_version 1 = .ok (.iload_n 1, 1) := by decide +kernel
theorem dX3_version_2 : decode cX3_version 2 = .ok (.invokevirtual 59, 3) := by decide +kernel
theorem dX3_version_5 : decode cX3_version 5 = .ok (.ifCond .eq 18, 3) := by decide +kernel
theorem dX3_version_8 : decode cX3_version 8 = .ok (.aload_n 0, 1) := by decide +kernel
theorem dX3_version_9 : decode cX3_version 9 = .ok (.getfield 12, 3) := by decide +kernel
theorem dX3_version_12 : decode cX3_version 12 = .ok (.getfield 63, 3) := by decide +kernel
theorem dX3_version_15 : decode cX3_version 15 = .ok (.iload_n 1, 1) := by decide +kernel
theorem dX3_version_16 : decode cX3_version 16 = .ok (.aaload, 1) := by decide +kernel
theorem dX3_version_17 : decode cX3_version 17 = .ok (.getfield 121, 3) := by decide +kernel
theorem dX3_version_20 : decode cX3_version 20 = .ok (.goto 10, 3) := by decide +kernel
theorem dX3_version_23 : decode cX3_version 23 = .ok (.aload_n 0, 1) := by decide +kernel
theorem dX3_version_24 : decode cX3_version 24 = .ok (.sipush (-10002), 3) := by decide +kernel
theorem dX3_version_27 : decode cX3_version 27 = .ok (.invokevirtual 42, 3) := by decide +kernel
theorem dX3_version_30 : decode cX3_version 30 = .ok (.ireturn, 1) := by decide +kernel
theorem dX3_runs_0 : decode cX3_runs 0 = .ok (.aload_n 0, 1) := by decide +kernel
theorem dX3_runs_1 : decode cX3_runs 1 = .ok (.iload_n 1, 1) := by decide +kernel
theorem dX3_runs_2 : decode cX3_runs 2 = .ok (.invokevirtual 59, 3) := by decide +kernel
theorem dX3_runs_5 : decode cX3_runs 5 = .ok (.ifCond .eq 18, 3) := by decide +kernel
theorem dX3_runs_8 : decode cX3_runs 8 = .ok (.aload_n 0, 1) := by decide +kernel
theorem dX3_runs_9 : decode cX3_runs 9 = .ok (.getfield 12, 3) := by decide +kernel
theorem dX3_runs_12 : decode cX3_runs 12 = .ok (.getfield 63, 3) := by decide +kernel
theorem dX3_runs_15 : decode cX3_runs 15 = .ok (.iload_n 1, 1) := by decide +kernel
theorem dX3_runs_16 : decode cX3_runs 16 = .ok (.aaload, 1) := by decide +kernel
theorem dX3_runs_17 : decode cX3_runs 17 = .ok (.getfield 124, 3) := by decide +kernel
theorem dX3_runs_20 : decode cX3_runs 20 = .ok (.goto 10, 3) := by decide +kernel
theorem dX3_runs_23 : decode cX3_runs 23 = .ok (.aload_n 0, 1) := by decide +kernel
