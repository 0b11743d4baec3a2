theorem dX0_init_0 : decode cX0_init 0 = .ok (.aload_n 0, 1) := by decide +kernel
theorem dX0_init_1 : decode cX0_init 1 = .ok (.invokespecial 3, 3) := by decide +kernel
theorem dX0_init_4 : decode cX0_init 4 = .ok (.aload_n 0, 1) := by decide +kernel
theorem dX0_init_5 : decode cX0_init 5 = .ok (.iconst 2, 1) := by decide +kernel
theorem dX0_init_6 : decode cX0_init 6 = .ok (.bipush 6, 2) := by decide +kernel
theorem dX0_init_8 : decode cX0_init 8 = .ok (.multianewarray 9 2, 4) := by decide +kernel
theorem dX0_init_12 : decode cX0_init 12 = .ok (.putfield 11, 3) := by decide +kernel
theorem dX0_init_15 : decode cX0_init 15 = .ok (.aload_n 0, 1) := by decide +kernel
theorem dX0_init_16 : decode cX0_init 16 = .ok (.iconst 2, 1) := by decide +kernel
theorem dX0_init_17 : decode cX0_init 17 = .ok (.bipush 6, 2) := by decide +kernel
theorem dX0_init_19 : decode cX0_init 19 = .ok (.multianewarray 9 2, 4) := by decide +kernel
theorem dX0_init_23 : decode cX0_init 23 = .ok (.putfield 16, 3) := by decide +kernel
theorem dX0_init_26 : decode cX0_init 26 = .ok (.aload_n 0, 1) := by decide +kernel
theorem dX0_init_27 : decode cX0_init 27 = .ok (.iconst 0, 1) := by decide +kernel
theorem dX0_init_28 : decode cX0_init 28 = .ok (.putfield 19, 3) := by decide +kernel
theorem dX0_init_31 : decode cX0_init 31 = .ok (.aload_n 0, 1) := by decide +kernel
theorem dX0_init_32 : decode cX0_init 32 = .ok (.iconst 2, 1) := by decide +kernel
theorem dX0_init_33 : decode cX0_init 33 = .ok (.putfield 23, 3) := by decide +kernel
theorem dX0_init_36 : decode cX0_init 36 = .ok (.aload_n 0, 1) := by decide +kernel
theorem dX0_init_37 : decode cX0_init 37 = .ok (.iconst 0, 1) := by decide +kernel
theorem dX0_init_38 : decode cX0_init 38 = .ok (.putfield 26, 3) := by decide +kernel
theorem dX0_init_41 : decode cX0_init 41 = .ok (.aload_n 0, 1) := by decide +kernel
theorem dX0_init_42 : decode cX0_init 42 = .ok (.iconst 0, 1) := by decide +kernel
theorem dX0_init_43 : decode cX0_init 43 = .ok (.putfield 29, 3) := by decide +kernel
theorem dX0_init_46 : decode cX0_init 46 = .ok (.aload_n 0, 1) := by decide +kernel
theorem dX0_init_47 : decode cX0_init 47 = .ok (.iconst 0, 1) := by decide +kernel
theorem dX0_init_48 : decode cX0_init 48 = .ok (.putfield 32, 3) := by decide +kernel
theorem dX0_init_51 : decode cX0_init 51 = .ok (.return_, 1) := by decide +kernel
theorem dX0_become_0 : decode cX0_become 0 = .ok (.iconst 0, 1) := by decide +kernel
theorem dX0_become_1 : decode cX0_become 1 = .ok (.istore_n 2, 1) := by decide +kernel
theorem dX0_become_2 : decode cX0_become 2 = .ok (.iload_n 2, 1) := by decide +kernel
theorem dX0_become_3 : decode cX0_become 3 = .ok (.iconst 1, 1) := by decide +kernel
theorem dX0_become_4 : decode cX0_become 4 = .ok (.if_icmp .gt 47, 3) := by decide +kernel
theorem dX0_become_7 : decode cX0_become 7 = .ok (.aload_n 1, 1) := by decide +kernel
theorem dX0_become_8 : decode cX0_become 8 = .ok (.getfield 11, 3) := by decide +kernel
theorem dX0_become_11 : decode cX0_become 11 = .ok (.iload_n 2, 1) := by decide +kernel
theorem dX0_become_12 : decode cX0_become 12 = .ok (.aaload, 1) := by decide +kernel
theorem dX0_become_13 : decode cX0_become 13 = .ok (.iconst 0, 1) := by decide +kernel
theorem dX0_become_14 : decode cX0_become 14 = .ok (.aload_n 0, 1) := by decide +kernel
theorem dX0_become_15 : decode cX0_become 15 = .ok (.getfield 11, 3) := by decide +kernel
theorem dX0_become_18 : decode cX0_become 18 = .ok (.iload_n 2, 1) := by decide +kernel
theorem dX0_become_19 : decode cX0_become 19 = .ok (.aaload, 1) := by decide +kernel
theorem dX0_become_20 : decode cX0_become 20 = .ok (.iconst 0, 1) := by decide +kernel
theorem dX0_become_21 : decode cX0_become 21 = .ok (.bipush 6, 2) := by decide +kernel
theorem dX0_become_23 : decode cX0_become 23 = .ok (.invokestatic 36, 3) := by decide +kernel
theorem dX0_become_26 : decode cX0_become 26 = .ok (.aload_n 1, 1) := by decide +kernel
theorem dX0_become_27 : decode cX0_become 27 = .ok (.getfield 16, 3) := by decide +kernel
theorem dX0_become_30 : decode cX0_become 30 = .ok (.iload_n 2, 1) := by decide +kernel
theorem dX0_become_31 : decode cX0_become 31 = .ok (.aaload, 1) := by decide +kernel
theorem dX0_become_32 : decode cX0_become 32 = .ok (.iconst 0, 1) := by decide +kernel
theorem dX0_become_33 : decode cX0_become 33 = .ok (.aload_n 0, 1) := by decide +kernel
theorem dX0_become_34 : decode cX0_become 34 = .ok (.getfield 16, 3) := by decide +kernel
theorem dX0_become_37 : decode cX0_become 37 = .ok (.iload_n 2, 1) := by decide +kernel
theorem dX0_become_38 : decode cX0_become 38 = .ok (.aaload, 1) := by decide +kernel
theorem dX0_become_39 : decode cX0_become 39 = .ok (.iconst 0, 1) := by decide +kernel
theorem dX0_become_40 : decode cX0_become 40 = .ok (.bipush 6, 2) := by decide +kernel
theorem dX0_become_42 : decode cX0_become 42 = .ok (.invokestatic 36, 3) := by decide +kernel
theorem dX0_become_45 : decode cX0_become 45 = .ok (.iinc 2 1, 3) := by decide +kernel
theorem dX0_become_48 : decode cX0_become 48 = .ok (.goto (-46), 3) := by decide +kernel
theorem dX0_become_51 : decode cX0_become 51 = .ok (.aload_n 0, 1) := by decide +kernel
theorem dX0_become_52 : decode cX0_become 52 = .ok (.aload_n 1, 1) := by decide +kernel
theorem dX0_become_53 : decode cX0_become 53 = .ok (.getfield 19, 3) := by decide +kernel
theorem dX0_become_56 : decode cX0_become 56 = .ok (.putfield 19, 3) := by decide +kernel
theorem dX0_become_59 : decode cX0_become 59 = .ok (.aload_n 0, 1) := by decide +kernel
theorem dX0_become_60 : decode cX0_become 60 = .ok (.aload_n 1, 1) := by decide +kernel
theorem dX0_become_61 : decode cX0_become 61 = .ok (.getfield 23, 3) := by decide +kernel
theorem dX0_become_64 : decode cX0_become 64 = .ok (.putfield 23, 3) := by decide +kernel
theorem dX0_become_67 : decode cX0_become 67 = .ok (.aload_n 0, 1) := by decide +kernel
theorem dX0_become_68 : decode cX0_become 68 = .ok (.aload_n 1, 1) := by decide +kernel
theorem dX0_become_69 : decode cX0_become 69 = .ok (.getfield 26, 3) := by decide +kernel
theorem dX0_become_72 : decode cX0_become 72 = .ok (.putfield 26, 3) := by decide +kernel
theorem dX0_become_75 : decode cX0_become 75 = .ok (.aload_n 0, 1) := by decide +kernel
theorem dX0_become_76 : decode cX0_become 76 = .ok (.aload_n 1, 1) := by decide +kernel
theorem dX0_become_77 : decode cX0_become 77 = .ok (.getfield 29, 3) := by decide +kernel
theorem dX0_become_80 : decode cX0_become 80 = .ok (.putfield 29, 3) := by decide +kernel
theorem dX0_become_83 : decode cX0_become 83 = .ok (.aload_n 0, 1) := by decide +kernel
theorem dX0_become_84 : decode cX0_become 84 = .ok (.aload_n 1, 1) := by decide +kernel
theorem dX0_become_85 : decode cX0_become 85 = .ok (.getfield 32, 3) := by decide +kernel
theorem dX0_become_88 : decode cX0_become 88 = .ok (.putfield 32, 3) := by decide +kernel
theorem dX0_become_91 : decode cX0_become 91 = .ok (.return_, 1) := by decide +kernel
theorem dX0_grow_0 : decode cX0_grow 0 = .ok (.aload_n 0, 1) := by decide +kernel
theorem dX0_grow_1 : decode cX0_grow 1 = .ok (.getfield 19, 3) := by decide +kernel
theorem dX0_grow_4 : decode cX0_grow 4 = .ok (.bipush 6, 2) := by decide +kernel
theorem dX0_grow_6 : decode cX0_grow 6 = .ok (.if_icmp .ge 13, 3) := by decide +kernel
theorem dX0_grow_9 : decode cX0_grow 9 = .ok (.aload_n 0, 1) := by decide +kernel
theorem dX0_grow_10 : decode cX0_grow 10 = .ok (.dup, 1) := by decide +kernel
theorem dX0_grow_11 : decode cX0_grow 11 = .ok (.getfield 19, 3) := by decide +kernel
theorem dX0_grow_14 : decode cX0_grow 14 = .ok (.iconst 1, 1) := by decide +kernel
theorem dX0_grow_15 : decode cX0_grow 15 = .ok (.iadd, 1) := by decide +kernel
theorem dX0_grow_16 : decode cX0_grow 16 = .ok (.putfield 19, 3) := by decide +kernel
theorem dX0_grow_19 : decode cX0_grow 19 = .ok (.return_, 1) := by decide +kernel
theorem dX0_has_0 : decode cX0_has 0 = .ok (.iload_n 1, 1) := by decide +kernel
theorem dX0_has_1 : decode cX0_has 1 = .ok (.ifCond .lt 15, 3) := by decide +kernel
theorem dX0_has_4 : decode cX0_has 4 = .ok (.iload_n 1, 1) := by decide +kernel
theorem dX0_has_5 : decode cX0_has 5 = .ok (.aload_n 0, 1) := by decide +kernel
theorem dX0_has_6 : decode cX0_has 6 = .ok (.getfield 19, 3) := by decide +kernel
theorem dX0_has_9 : decode cX0_has 9 = .ok (.if_icmp .ge 7, 3) := by decide +kernel
theorem dX0_has_12 : decode cX0_has 12 = .ok (.iconst 1, 1) := by decide +kernel
theorem dX0_has_13 : decode cX0_has 13 = .ok (.goto 4, 3) := by decide +kernel
theorem dX0_has_16 : decode cX0_has 16 = .ok (.iconst 0, 1) := by decide +kernel
theorem dX0_has_17 : decode cX0_has 17 = .ok (.ireturn, 1) := by decide +kernel
theorem dX0_pass_0 : decode cX0_pass 0 = .ok (.iconst 0, 1) := by decide +kernel
theorem dX0_pass_1 : decode cX0_pass 1 = .ok (.istore_n 3, 1) := by decide +kernel
theorem dX0_pass_2 : decode cX0_pass 2 = .ok (.iconst 0, 1) := by decide +kernel
theorem dX0_pass_3 : decode cX0_pass 3 = .ok (.istore 4, 2) := by decide +kernel
theorem dX0_pass_5 : decode cX0_pass 5 = .ok (.iload 4, 2) := by decide +kernel
theorem dX0_pass_7 : decode cX0_pass 7 = .ok (.iload_n 2, 1) := by decide +kernel
theorem dX0_pass_8 : decode cX0_pass 8 = .ok (.if_icmp .ge 37, 3) := by decide +kernel
theorem dX0_pass_11 : decode cX0_pass 11 = .ok (.iload_n 3, 1) := by decide +kernel
theorem dX0_pass_12 : decode cX0_pass 12 = .ok (.aload_n 0, 1) := by decide +kernel
theorem dX0_pass_13 : decode cX0_pass 13 = .ok (.aload_n 1, 1) := by decide +kernel
theorem dX0_pass_14 : decode cX0_pass 14 = .ok (.invokevirtual 42, 3) := by decide +kernel
theorem dX0_pass_17 : decode cX0_pass 17 = .ok (.iadd, 1) := by decide +kernel
theorem dX0_pass_18 : decode cX0_pass 18 = .ok (.istore_n 3, 1) := by decide +kernel
theorem dX0_pass_19 : decode cX0_pass 19 = .ok (.aload_n 0, 1) := by decide +kernel
theorem dX0_pass_20 : decode cX0_pass 20 = .ok (.iconst 0, 1) := by decide +kernel
theorem dX0_pass_21 : decode cX0_pass 21 = .ok (.invokevirtual 46, 3) := by decide +kernel
theorem dX0_pass_24 : decode cX0_pass 24 = .ok (.aload_n 0, 1) := by decide +kernel
theorem dX0_pass_25 : decode cX0_pass 25 = .ok (.iconst 1, 1) := by decide +kernel
theorem dX0_pass_26 : decode cX0_pass 26 = .ok (.invokevirtual 46, 3) := by decide +kernel
theorem dX0_pass_29 : decode cX0_pass 29 = .ok (.aload_n 0, 1) := by decide +kernel
theorem dX0_pass_30 : decode cX0_pass 30 = .ok (.dup, 1) := by decide +kernel
theorem dX0_pass_31 : decode cX0_pass 31 = .ok (.getfield 26, 3) := by decide +kernel
theorem dX0_pass_34 : decode cX0_pass 34 = .ok (.iconst 1, 1) := by decide +kernel
theorem dX0_pass_35 : decode cX0_pass 35 = .ok (.iadd, 1) := by decide +kernel
theorem dX0_pass_36 : decode cX0_pass 36 = .ok (.putfield 26, 3) := by decide +kernel
theorem dX0_pass_39 : decode cX0_pass 39 = .ok (.iinc 4 1, 3) := by decide +kernel
theorem dX0_pass_42 : decode cX0_pass 42 = .ok (.goto (-37), 3) := by decide +kernel
theorem dX0_pass_45 : decode cX0_pass 45 = .ok (.iload_n 3, 1) := by decide +kernel
theorem dX0_pass_46 : decode cX0_pass 46 = .ok (.ireturn, 1) := by decide +kernel
theorem dX0_land_0 : decode cX0_land 0 = .ok (.aload_n 1, 1) := by decide +kernel
theorem dX0_land_1 : decode cX0_land 1 = .ok (.aload_n 0, 1) := by decide +kernel
theorem dX0_land_2 : decode cX0_land 2 = .ok (.getfield 26, 3) := by decide +kernel
theorem dX0_land_5 : decode cX0_land 5 = .ok (.invokevirtual 50, 3) := by decide +kernel
theorem dX0_land_8 : decode cX0_land 8 = .ok (.istore_n 2, 1) := by decide +kernel
theorem dX0_land_9 : decode cX0_land 9 = .ok (.aload_n 0, 1) := by decide +kernel
theorem dX0_land_10 : decode cX0_land 10 = .ok (.getfield 32, 3) := by decide +kernel
theorem dX0_land_13 : decode cX0_land 13 = .ok (.ifCond .ne 20, 3) := by decide +kernel
theorem dX0_land_16 : decode cX0_land 16 = .ok (.aload_n 0, 1) := by decide +kernel
theorem dX0_land_17 : decode cX0_land 17 = .ok (.getfield 19, 3) := by decide +kernel
theorem dX0_land_20 : decode cX0_land 20 = .ok (.ifCond .eq 13, 3) := by decide +kernel
theorem dX0_land_23 : decode cX0_land 23 = .ok (.aload_n 1, 1) := by decide +kernel
theorem dX0_land_24 : decode cX0_land 24 = .ok (.getfield 56, 3) := by decide +kernel
theorem dX0_land_27 : decode cX0_land 27 = .ok (.iload_n 2, 1) := by decide +kernel
theorem dX0_land_28 : decode cX0_land 28 = .ok (.iaload, 1) := by decide +kernel
theorem dX0_land_29 : decode cX0_land 29 = .ok (.iconst (-1), 1) := by decide +kernel
theorem dX0_land_30 : decode cX0_land 30 = .ok (.if_icmp .ne 5, 3) := by decide +kernel
theorem dX0_land_33 : decode cX0_land 33 = .ok (.iconst 0, 1) := by decide +kernel
theorem dX0_land_34 : decode cX0_land 34 = .ok (.ireturn, 1) := by decide +kernel
theorem dX0_land_35 : decode cX0_land 35 = .ok (.aload_n 0, 1) := by decide +kernel
theorem dX0_land_36 : decode cX0_land 36 = .ok (.iconst 0, 1) := by decide +kernel
theorem dX0_land_37 : decode cX0_land 37 = .ok (.aload_n 1, 1) := by decide +kernel
theorem dX0_land_38 : decode cX0_land 38 = .ok (.getfield 56, 3) := by decide +kernel
theorem dX0_land_41 : decode cX0_land 41 = .ok (.iload_n 2, 1) := by decide +kernel
theorem dX0_land_42 : decode cX0_land 42 = .ok (.iaload, 1) := by decide +kernel
theorem dX0_land_43 : decode cX0_land 43 = .ok (.aload_n 1, 1) := by decide +kernel
theorem dX0_land_44 : decode cX0_land 44 = .ok (.getfield 60, 3) := by decide +kernel
theorem dX0_land_47 : decode cX0_land 47 = .ok (.iload_n 2, 1) := by decide +kernel
theorem dX0_land_48 : decode cX0_land 48 = .ok (.iaload, 1) := by decide +kernel
theorem dX0_land_49 : decode cX0_land 49 = .ok (.invokevirtual 63, 3) := by decide +kernel
theorem dX0_land_52 : decode cX0_land 52 = .ok (.ireturn, 1) := by decide +kernel
theorem dX0_drift_0 : decode cX0_drift 0 = .ok (.aload_n 0, 1) := by decide +kernel
theorem dX0_drift_1 : decode cX0_drift 1 = .ok (.getfield 19, 3) := by decide +kernel
theorem dX0_drift_4 : decode cX0_drift 4 = .ok (.iconst 2, 1) := by decide +kernel
theorem dX0_drift_5 : decode cX0_drift 5 = .ok (.isub, 1) := by decide +kernel
theorem dX0_drift_6 : decode cX0_drift 6 = .ok (.istore_n 2, 1) := by decide +kernel
theorem dX0_drift_7 : decode cX0_drift 7 = .ok (.iload_n 2, 1) := by decide +kernel
theorem dX0_drift_8 : decode cX0_drift 8 = .ok (.ifCond .lt 48, 3) := by decide +kernel
theorem dX0_drift_11 : decode cX0_drift 11 = .ok (.aload_n 0, 1) := by decide +kernel
theorem dX0_drift_12 : decode cX0_drift 12 = .ok (.getfield 11, 3) := by decide +kernel
theorem dX0_drift_15 : decode cX0_drift 15 = .ok (.iload_n 1, 1) := by decide +kernel
theorem dX0_drift_16 : decode cX0_drift 16 = .ok (.aaload, 1) := by decide +kernel
theorem dX0_drift_17 : decode cX0_drift 17 = .ok (.iload_n 2, 1) := by decide +kernel
theorem dX0_drift_18 : decode cX0_drift 18 = .ok (.iaload, 1) := by decide +kernel
theorem dX0_drift_19 : decode cX0_drift 19 = .ok (.aload_n 0, 1) := by decide +kernel
theorem dX0_drift_20 : decode cX0_drift 20 = .ok (.getfield 23, 3) := by decide +kernel
theorem dX0_drift_23 : decode cX0_drift 23 = .ok (.imul, 1) := by decide +kernel
theorem dX0_drift_24 : decode cX0_drift 24 = .ok (.bipush 10, 2) := by decide +kernel
theorem dX0_drift_26 : decode cX0_drift 26 = .ok (.idiv, 1) := by decide +kernel
theorem dX0_drift_27 : decode cX0_drift 27 = .ok (.istore_n 3, 1) := by decide +kernel
theorem dX0_drift_28 : decode cX0_drift 28 = .ok (.aload_n 0, 1) := by decide +kernel
theorem dX0_drift_29 : decode cX0_drift 29 = .ok (.getfield 11, 3) := by decide +kernel
theorem dX0_drift_32 : decode cX0_drift 32 = .ok (.iload_n 1, 1) := by decide +kernel
theorem dX0_drift_33 : decode cX0_drift 33 = .ok (.aaload, 1) := by decide +kernel
theorem dX0_drift_34 : decode cX0_drift 34 = .ok (.iload_n 2, 1) := by decide +kernel
theorem dX0_drift_35 : decode cX0_drift 35 = .ok (.dup2, 1) := by decide +kernel
theorem dX0_drift_36 : decode cX0_drift 36 = .ok (.iaload, 1) := by decide +kernel
theorem dX0_drift_37 : decode cX0_drift 37 = .ok (.iload_n 3, 1) := by decide +kernel
theorem dX0_drift_38 : decode cX0_drift 38 = .ok (.isub, 1) := by decide +kernel
theorem dX0_drift_39 : decode cX0_drift 39 = .ok (.iastore, 1) := by decide +kernel
theorem dX0_drift_40 : decode cX0_drift 40 = .ok (.aload_n 0, 1) := by decide +kernel
theorem dX0_drift_41 : decode cX0_drift 41 = .ok (.iload_n 2, 1) := by decide +kernel
theorem dX0_drift_42 : decode cX0_drift 42 = .ok (.iconst 1, 1) := by decide +kernel
theorem dX0_drift_43 : decode cX0_drift 43 = .ok (.iadd, 1) := by decide +kernel
theorem dX0_drift_44 : decode cX0_drift 44 = .ok (.iload_n 1, 1) := by decide +kernel
theorem dX0_drift_45 : decode cX0_drift 45 = .ok (.iload_n 3, 1) := by decide +kernel
theorem dX0_drift_46 : decode cX0_drift 46 = .ok (.invokevirtual 63, 3) := by decide +kernel
theorem dX0_drift_49 : decode cX0_drift 49 = .ok (.pop, 1) := by decide +kernel
theorem dX0_drift_50 : decode cX0_drift 50 = .ok (.iinc 2 (-1), 3) := by decide +kernel
theorem dX0_drift_53 : decode cX0_drift 53 = .ok (.goto (-46), 3) := by decide +kernel
theorem dX0_drift_56 : decode cX0_drift 56 = .ok (.return_, 1) := by decide +kernel
theorem dX0_add_0 : decode cX0_add 0 = .ok (.aload_n 0, 1) := by decide +kernel
theorem dX0_add_1 : decode cX0_add 1 = .ok (.iload_n 1, 1) := by decide +kernel
theorem dX0_add_2 : decode cX0_add 2 = .ok (.invokevirtual 67, 3) := by decide +kernel
theorem dX0_add_5 : decode cX0_add 5 = .ok (.ifCond .eq 10, 3) := by decide +kernel
theorem dX0_add_8 : decode cX0_add 8 = .ok (.iload_n 2, 1) := by decide +kernel
theorem dX0_add_9 : decode cX0_add 9 = .ok (.invokestatic 71, 3) := by decide +kernel
theorem dX0_add_12 : decode cX0_add 12 = .ok (.ifCond .ne 5, 3) := by decide +kernel
theorem dX0_add_15 : decode cX0_add 15 = .ok (.iconst 0, 1) := by decide +kernel
theorem dX0_add_16 : decode cX0_add 16 = .ok (.ireturn, 1) := by decide +kernel
theorem dX0_add_17 : decode cX0_add 17 = .ok (.aload_n 0, 1) := by decide +kernel
theorem dX0_add_18 : decode cX0_add 18 = .ok (.getfield 11, 3) := by decide +kernel
theorem dX0_add_21 : decode cX0_add 21 = .ok (.iload_n 2, 1) := by decide +kernel
theorem dX0_add_22 : decode cX0_add 22 = .ok (.aaload, 1) := by decide +kernel
theorem dX0_add_23 : decode cX0_add 23 = .ok (.iload_n 1, 1) := by decide +kernel
theorem dX0_add_24 : decode cX0_add 24 = .ok (.iaload, 1) := by decide +kernel
theorem dX0_add_25 : decode cX0_add 25 = .ok (.istore 4, 2) := by decide +kernel
theorem dX0_add_27 : decode cX0_add 27 = .ok (.aload_n 0, 1) := by decide +kernel
theorem dX0_add_28 : decode cX0_add 28 = .ok (.getfield 11, 3) := by decide +kernel
theorem dX0_add_31 : decode cX0_add 31 = .ok (.iload_n 2, 1) := by decide +kernel
theorem dX0_add_32 : decode cX0_add 32 = .ok (.aaload, 1) := by decide +kernel
theorem dX0_add_33 : decode cX0_add 33 = .ok (.iload_n 1, 1) := by decide +kernel
theorem dX0_add_34 : decode cX0_add 34 = .ok (.ldc 74, 2) := by decide +kernel
theorem dX0_add_36 : decode cX0_add 36 = .ok (.iload 4, 2) := by decide +kernel
theorem dX0_add_38 : decode cX0_add 38 = .ok (.iload_n 3, 1) := by decide +kernel
theorem dX0_add_39 : decode cX0_add 39 = .ok (.iadd, 1) := by decide +kernel
theorem dX0_add_40 : decode cX0_add 40 = .ok (.invokestatic 75, 3) := by decide +kernel
theorem dX0_add_43 : decode cX0_add 43 = .ok (.iastore, 1) := by decide +kernel
theorem dX0_add_44 : decode cX0_add 44 = .ok (.aload_n 0, 1) := by decide +kernel
theorem dX0_add_45 : decode cX0_add 45 = .ok (.getfield 11, 3) := by decide +kernel
theorem dX0_add_48 : decode cX0_add 48 = .ok (.iload_n 2, 1) := by decide +kernel
theorem dX0_add_49 : decode cX0_add 49 = .ok (.aaload, 1) := by decide +kernel
theorem dX0_add_50 : decode cX0_add 50 = .ok (.iload_n 1, 1) := by decide +kernel
theorem dX0_add_51 : decode cX0_add 51 = .ok (.iaload, 1) := by decide +kernel
theorem dX0_add_52 : decode cX0_add 52 = .ok (.iload 4, 2) := by decide +kernel
theorem dX0_add_54 : decode cX0_add 54 = .ok (.isub, 1) := by decide +kernel
theorem dX0_add_55 : decode cX0_add 55 = .ok (.ireturn, 1) := by decide +kernel
theorem dX0_mayMove_0 : decode cX0_mayMove 0 = .ok (.aload_n 0, 1) := by decide +kernel
theorem dX0_mayMove_1 : decode cX0_mayMove 1 = .ok (.iload_n 1, 1) := by decide +kernel
theorem dX0_mayMove_2 : decode cX0_mayMove 2 = .ok (.invokevirtual 67, 3) := by decide +kernel
theorem dX0_mayMove_5 : decode cX0_mayMove 5 = .ok (.ifCond .eq 25, 3) := by decide +kernel
theorem dX0_mayMove_8 : decode cX0_mayMove 8 = .ok (.iload_n 2, 1) := by decide +kernel
theorem dX0_mayMove_9 : decode cX0_mayMove 9 = .ok (.invokestatic 71, 3) := by decide +kernel
theorem dX0_mayMove_12 : decode cX0_mayMove 12 = .ok (.ifCond .eq 18, 3) := by decide +kernel
theorem dX0_mayMove_15 : decode cX0_mayMove 15 = .ok (.iload_n 3, 1) := by decide +kernel
theorem dX0_mayMove_16 : decode cX0_mayMove 16 = .ok (.iconst 1, 1) := by decide +kernel
theorem dX0_mayMove_17 : decode cX0_mayMove 17 = .ok (.sipush 9999, 3) := by decide +kernel
theorem dX0_mayMove_20 : decode cX0_mayMove 20 = .ok (.invokestatic 81, 3) := by decide +kernel
theorem dX0_mayMove_23 : decode cX0_mayMove 23 = .ok (.ifCond .eq 7, 3) := by decide +kernel
theorem dX0_mayMove_26 : decode cX0_mayMove 26 = .ok (.iconst 1, 1) := by decide +kernel
theorem dX0_mayMove_27 : decode cX0_mayMove 27 = .ok (.goto 4, 3) := by decide +kernel
theorem dX0_mayMove_30 : decode cX0_mayMove 30 = .ok (.iconst 0, 1) := by decide +kernel
theorem dX0_mayMove_31 : decode cX0_mayMove 31 = .ok (.ireturn, 1) := by decide +kernel
theorem dX0_bring_0 : decode cX0_bring 0 = .ok (.aload_n 0, 1) := by decide +kernel
theorem dX0_bring_1 : decode cX0_bring 1 = .ok (.iload_n 1, 1) := by decide +kernel
theorem dX0_bring_2 : decode cX0_bring 2 = .ok (.iload_n 2, 1) := by decide +kernel
theorem dX0_bring_3 : decode cX0_bring 3 = .ok (.iload_n 3, 1) := by decide +kernel
theorem dX0_bring_4 : decode cX0_bring 4 = .ok (.invokevirtual 85, 3) := by decide +kernel
theorem dX0_bring_7 : decode cX0_bring 7 = .ok (.ifCond .ne 5, 3) := by decide +kernel
theorem dX0_bring_10 : decode cX0_bring 10 = .ok (.iconst (-1), 1) := by decide +kernel
theorem dX0_bring_11 : decode cX0_bring 11 = .ok (.ireturn, 1) := by decide +kernel
theorem dX0_bring_12 : decode cX0_bring 12 = .ok (.aload_n 0, 1) := by decide +kernel
theorem dX0_bring_13 : decode cX0_bring 13 = .ok (.iload_n 1, 1) := by decide +kernel
theorem dX0_bring_14 : decode cX0_bring 14 = .ok (.iload_n 2, 1) := by decide +kernel
theorem dX0_bring_15 : decode cX0_bring 15 = .ok (.iload_n 3, 1) := by decide +kernel
theorem dX0_bring_16 : decode cX0_bring 16 = .ok (.invokevirtual 63, 3) := by decide +kernel
theorem dX0_bring_19 : decode cX0_bring 19 = .ok (.pop, 1) := by decide +kernel
theorem dX0_bring_20 : decode cX0_bring 20 = .ok (.aload_n 0, 1) := by decide +kernel
theorem dX0_bring_21 : decode cX0_bring 21 = .ok (.getfield 11, 3) := by decide +kernel
theorem dX0_bring_24 : decode cX0_bring 24 = .ok (.iload_n 2, 1) := by decide +kernel
theorem dX0_bring_25 : decode cX0_bring 25 = .ok (.aaload, 1) := by decide +kernel
theorem dX0_bring_26 : decode cX0_bring 26 = .ok (.iload_n 1, 1) := by decide +kernel
theorem dX0_bring_27 : decode cX0_bring 27 = .ok (.iaload, 1) := by decide +kernel
theorem dX0_bring_28 : decode cX0_bring 28 = .ok (.ireturn, 1) := by decide +kernel
theorem dX0_layBy_0 : decode cX0_layBy 0 = .ok (.aload_n 0, 1) := by decide +kernel
theorem dX0_layBy_1 : decode cX0_layBy 1 = .ok (.iload_n 1, 1) := by decide +kernel
theorem dX0_layBy_2 : decode cX0_layBy 2 = .ok (.iload_n 2, 1) := by decide +kernel
theorem dX0_layBy_3 : decode cX0_layBy 3 = .ok (.iload_n 3, 1) := by decide +kernel
theorem dX0_layBy_4 : decode cX0_layBy 4 = .ok (.invokevirtual 85, 3) := by decide +kernel
theorem dX0_layBy_7 : decode cX0_layBy 7 = .ok (.ifCond .ne 5, 3) := by decide +kernel
theorem dX0_layBy_10 : decode cX0_layBy 10 = .ok (.iconst (-1), 1) := by decide +kernel
theorem dX0_layBy_11 : decode cX0_layBy 11 = .ok (.ireturn, 1) := by decide +kernel
theorem dX0_layBy_12 : decode cX0_layBy 12 = .ok (.aload_n 0, 1) := by decide +kernel
theorem dX0_layBy_13 : decode cX0_layBy 13 = .ok (.getfield 11, 3) := by decide +kernel
theorem dX0_layBy_16 : decode cX0_layBy 16 = .ok (.iload_n 2, 1) := by decide +kernel
theorem dX0_layBy_17 : decode cX0_layBy 17 = .ok (.aaload, 1) := by decide +kernel
theorem dX0_layBy_18 : decode cX0_layBy 18 = .ok (.iload_n 1, 1) := by decide +kernel
theorem dX0_layBy_19 : decode cX0_layBy 19 = .ok (.iaload, 1) := by decide +kernel
theorem dX0_layBy_20 : decode cX0_layBy 20 = .ok (.iload_n 3, 1) := by decide +kernel
theorem dX0_layBy_21 : decode cX0_layBy 21 = .ok (.if_icmp .ge 6, 3) := by decide +kernel
theorem dX0_layBy_24 : decode cX0_layBy 24 = .ok (.bipush (-2), 2) := by decide +kernel
theorem dX0_layBy_26 : decode cX0_layBy 26 = .ok (.ireturn, 1) := by decide +kernel
theorem dX0_layBy_27 : decode cX0_layBy 27 = .ok (.aload_n 0, 1) := by decide +kernel
theorem dX0_layBy_28 : decode cX0_layBy 28 = .ok (.getfield 16, 3) := by decide +kernel
theorem dX0_layBy_31 : decode cX0_layBy 31 = .ok (.iload_n 2, 1) := by decide +kernel
theorem dX0_layBy_32 : decode cX0_layBy 32 = .ok (.aaload, 1) := by decide +kernel
theorem dX0_layBy_33 : decode cX0_layBy 33 = .ok (.iload_n 1, 1) := by decide +kernel
theorem dX0_layBy_34 : decode cX0_layBy 34 = .ok (.iaload, 1) := by decide +kernel
theorem dX0_layBy_35 : decode cX0_layBy 35 = .ok (.iload_n 3, 1) := by decide +kernel
theorem dX0_layBy_36 : decode cX0_layBy 36 = .ok (.iadd, 1) := by decide +kernel
theorem dX0_layBy_37 : decode cX0_layBy 37 = .ok (.ldc 74, 2) := by decide +kernel
theorem dX0_layBy_39 : decode cX0_layBy 39 = .ok (.if_icmp .le 6, 3) := by decide +kernel
theorem dX0_layBy_42 : decode cX0_layBy 42 = .ok (.bipush (-3), 2) := by decide +kernel
theorem dX0_layBy_44 : decode cX0_layBy 44 = .ok (.ireturn, 1) := by decide +kernel
theorem dX0_layBy_45 : decode cX0_layBy 45 = .ok (.aload_n 0, 1) := by decide +kernel
theorem dX0_layBy_46 : decode cX0_layBy 46 = .ok (.getfield 11, 3) := by decide +kernel
theorem dX0_layBy_49 : decode cX0_layBy 49 = .ok (.iload_n 2, 1) := by decide +kernel
theorem dX0_layBy_50 : decode cX0_layBy 50 = .ok (.aaload, 1) := by decide +kernel
theorem dX0_layBy_51 : decode cX0_layBy 51 = .ok (.iload_n 1, 1) := by decide +kernel
theorem dX0_layBy_52 : decode cX0_layBy 52 = .ok (.dup2, 1) := by decide +kernel
theorem dX0_layBy_53 : decode cX0_layBy 53 = .ok (.iaload, 1) := by decide +kernel
theorem dX0_layBy_54 : decode cX0_layBy 54 = .ok (.iload_n 3, 1) := by decide +kernel
theorem dX0_layBy_55 : decode cX0_layBy 55 = .ok (.isub, 1) := by decide +kernel
theorem dX0_layBy_56 : decode cX0_layBy 56 = .ok (.iastore, 1) := by decide +kernel
theorem dX0_layBy_57 : decode cX0_layBy 57 = .ok (.aload_n 0, 1) := by decide +kernel
theorem dX0_layBy_58 : decode cX0_layBy 58 = .ok (.getfield 16, 3) := by decide +kernel
theorem dX0_layBy_61 : decode cX0_layBy 61 = .ok (.iload_n 2, 1) := by decide +kernel
theorem dX0_layBy_62 : decode cX0_layBy 62 = .ok (.aaload, 1) := by decide +kernel
theorem dX0_layBy_63 : decode cX0_layBy 63 = .ok (.iload_n 1, 1) := by decide +kernel
theorem dX0_layBy_64 : decode cX0_layBy 64 = .ok (.dup2, 1) := by decide +kernel
theorem dX0_layBy_65 : decode cX0_layBy 65 = .ok (.iaload, 1) := by decide +kernel
theorem dX0_layBy_66 : decode cX0_layBy 66 = .ok (.iload_n 3, 1) := by decide +kernel
theorem dX0_layBy_67 : decode cX0_layBy 67 = .ok (.iadd, 1) := by decide +kernel
theorem dX0_layBy_68 : decode cX0_layBy 68 = .ok (.iastore, 1) := by decide +kernel
theorem dX0_layBy_69 : decode cX0_layBy 69 = .ok (.aload_n 0, 1) := by decide +kernel
theorem dX0_layBy_70 : decode cX0_layBy 70 = .ok (.getfield 16, 3) := by decide +kernel
theorem dX0_layBy_73 : decode cX0_layBy 73 = .ok (.iload_n 2, 1) := by decide +kernel
theorem dX0_layBy_74 : decode cX0_layBy 74 = .ok (.aaload, 1) := by decide +kernel
theorem dX0_layBy_75 : decode cX0_layBy 75 = .ok (.iload_n 1, 1) := by decide +kernel
theorem dX0_layBy_76 : decode cX0_layBy 76 = .ok (.iaload, 1) := by decide +kernel
theorem dX0_layBy_77 : decode cX0_layBy 77 = .ok (.ireturn, 1) := by decide +kernel
theorem dX0_spend_0 : decode cX0_spend 0 = .ok (.aload_n 0, 1) := by decide +kernel
theorem dX0_spend_1 : decode cX0_spend 1 = .ok (.iload_n 1, 1) := by decide +kernel
theorem dX0_spend_2 : decode cX0_spend 2 = .ok (.iload_n 2, 1) := by decide +kernel
theorem dX0_spend_3 : decode cX0_spend 3 = .ok (.iload_n 3, 1) := by decide +kernel
theorem dX0_spend_4 : decode cX0_spend 4 = .ok (.invokevirtual 85, 3) := by decide +kernel
theorem dX0_spend_7 : decode cX0_spend 7 = .ok (.ifCond .ne 5, 3) := by decide +kernel
theorem dX0_spend_10 : decode cX0_spend 10 = .ok (.iconst (-1), 1) := by decide +kernel
theorem dX0_spend_11 : decode cX0_spend 11 = .ok (.ireturn, 1) := by decide +kernel
theorem dX0_spend_12 : decode cX0_spend 12 = .ok (.aload_n 0, 1) := by decide +kernel
theorem dX0_spend_13 : decode cX0_spend 13 = .ok (.getfield 16, 3) := by decide +kernel
theorem dX0_spend_16 : decode cX0_spend 16 = .ok (.iload_n 2, 1) := by decide +kernel
theorem dX0_spend_17 : decode cX0_spend 17 = .ok (.aaload, 1) := by decide +kernel
theorem dX0_spend_18 : decode cX0_spend 18 = .ok (.iload_n 1, 1) := by decide +kernel
theorem dX0_spend_19 : decode cX0_spend 19 = .ok (.iaload, 1) := by decide +kernel
theorem dX0_spend_20 : decode cX0_spend 20 = .ok (.iload_n 3, 1) := by decide +kernel
theorem dX0_spend_21 : decode cX0_spend 21 = .ok (.if_icmp .ge 6, 3) := by decide +kernel
theorem dX0_spend_24 : decode cX0_spend 24 = .ok (.bipush (-2), 2) := by decide +kernel
theorem dX0_spend_26 : decode cX0_spend 26 = .ok (.ireturn, 1) := by decide +kernel
theorem dX0_spend_27 : decode cX0_spend 27 = .ok (.aload_n 0, 1) := by decide +kernel
theorem dX0_spend_28 : decode cX0_spend 28 = .ok (.getfield 16, 3) := by decide +kernel
theorem dX0_spend_31 : decode cX0_spend 31 = .ok (.iload_n 2, 1) := by decide +kernel
theorem dX0_spend_32 : decode cX0_spend 32 = .ok (.aaload, 1) := by decide +kernel
theorem dX0_spend_33 : decode cX0_spend 33 = .ok (.iload_n 1, 1) := by decide +kernel
theorem dX0_spend_34 : decode cX0_spend 34 = .ok (.dup2, 1) := by decide +kernel
theorem dX0_spend_35 : decode cX0_spend 35 = .ok (.iaload, 1) := by decide +kernel
theorem dX0_spend_36 : decode cX0_spend 36 = .ok (.iload_n 3, 1) := by decide +kernel
theorem dX0_spend_37 : decode cX0_spend 37 = .ok (.isub, 1) := by decide +kernel
theorem dX0_spend_38 : decode cX0_spend 38 = .ok (.iastore, 1) := by decide +kernel
theorem dX0_spend_39 : decode cX0_spend 39 = .ok (.aload_n 0, 1) := by decide +kernel
theorem dX0_spend_40 : decode cX0_spend 40 = .ok (.iload_n 1, 1) := by decide +kernel
theorem dX0_spend_41 : decode cX0_spend 41 = .ok (.iload_n 2, 1) := by decide +kernel
theorem dX0_spend_42 : decode cX0_spend 42 = .ok (.iload_n 3, 1) := by decide +kernel
theorem dX0_spend_43 : decode cX0_spend 43 = .ok (.invokevirtual 63, 3) := by decide +kernel
theorem dX0_spend_46 : decode cX0_spend 46 = .ok (.pop, 1) := by decide +kernel
theorem dX0_spend_47 : decode cX0_spend 47 = .ok (.aload_n 0, 1) := by decide +kernel
theorem dX0_spend_48 : decode cX0_spend 48 = .ok (.getfield 16, 3) := by decide +kernel
theorem dX0_spend_51 : decode cX0_spend 51 = .ok (.iload_n 2, 1) := by decide +kernel
theorem dX0_spend_52 : decode cX0_spend 52 = .ok (.aaload, 1) := by decide +kernel
theorem dX0_spend_53 : decode cX0_spend 53 = .ok (.iload_n 1, 1) := by decide +kernel
theorem dX0_spend_54 : decode cX0_spend 54 = .ok (.iaload, 1) := by decide +kernel
theorem dX0_spend_55 : decode cX0_spend 55 = .ok (.ireturn, 1) := by decide +kernel
theorem dX0_tax_0 : decode cX0_tax 0 = .ok (.aload_n 0, 1) := by decide +kernel
theorem dX0_tax_1 : decode cX0_tax 1 = .ok (.iload_n 1, 1) := by decide +kernel
theorem dX0_tax_2 : decode cX0_tax 2 = .ok (.invokevirtual 67, 3) := by decide +kernel
theorem dX0_tax_5 : decode cX0_tax 5 = .ok (.ifCond .eq 13, 3) := by decide +kernel
theorem dX0_tax_8 : decode cX0_tax 8 = .ok (.iload_n 2, 1) := by decide +kernel
theorem dX0_tax_9 : decode cX0_tax 9 = .ok (.iconst 1, 1) := by decide +kernel
theorem dX0_tax_10 : decode cX0_tax 10 = .ok (.bipush 9, 2) := by decide +kernel
theorem dX0_tax_12 : decode cX0_tax 12 = .ok (.invokestatic 81, 3) := by decide +kernel
theorem dX0_tax_15 : decode cX0_tax 15 = .ok (.ifCond .ne 5, 3) := by decide +kernel
theorem dX0_tax_18 : decode cX0_tax 18 = .ok (.iconst (-1), 1) := by decide +kernel
theorem dX0_tax_19 : decode cX0_tax 19 = .ok (.ireturn, 1) := by decide +kernel
theorem dX0_tax_20 : decode cX0_tax 20 = .ok (.iconst 0, 1) := by decide +kernel
theorem dX0_tax_21 : decode cX0_tax 21 = .ok (.istore_n 3, 1) := by decide +kernel
theorem dX0_tax_22 : decode cX0_tax 22 = .ok (.iload_n 3, 1) := by decide +kernel
theorem dX0_tax_23 : decode cX0_tax 23 = .ok (.iconst 1, 1) := by decide +kernel
theorem dX0_tax_24 : decode cX0_tax 24 = .ok (.if_icmp .gt 53, 3) := by decide +kernel
theorem dX0_tax_27 : decode cX0_tax 27 = .ok (.aload_n 0, 1) := by decide +kernel
theorem dX0_tax_28 : decode cX0_tax 28 = .ok (.getfield 11, 3) := by decide +kernel
theorem dX0_tax_31 : decode cX0_tax 31 = .ok (.iload_n 3, 1) := by decide +kernel
theorem dX0_tax_32 : decode cX0_tax 32 = .ok (.aaload, 1) := by decide +kernel
theorem dX0_tax_33 : decode cX0_tax 33 = .ok (.iload_n 1, 1) := by decide +kernel
theorem dX0_tax_34 : decode cX0_tax 34 = .ok (.iaload, 1) := by decide +kernel
theorem dX0_tax_35 : decode cX0_tax 35 = .ok (.iload_n 2, 1) := by decide +kernel
theorem dX0_tax_36 : decode cX0_tax 36 = .ok (.imul, 1) := by decide +kernel
theorem dX0_tax_37 : decode cX0_tax 37 = .ok (.bipush 10, 2) := by decide +kernel
theorem dX0_tax_39 : decode cX0_tax 39 = .ok (.idiv, 1) := by decide +kernel
theorem dX0_tax_40 : decode cX0_tax 40 = .ok (.istore 4, 2) := by decide +kernel
theorem dX0_tax_42 : decode cX0_tax 42 = .ok (.aload_n 0, 1) := by decide +kernel
theorem dX0_tax_43 : decode cX0_tax 43 = .ok (.getfield 11, 3) := by decide +kernel
theorem dX0_tax_46 : decode cX0_tax 46 = .ok (.iload_n 3, 1) := by decide +kernel
theorem dX0_tax_47 : decode cX0_tax 47 = .ok (.aaload, 1) := by decide +kernel
theorem dX0_tax_48 : decode cX0_tax 48 = .ok (.iload_n 1, 1) := by decide +kernel
theorem dX0_tax_49 : decode cX0_tax 49 = .ok (.dup2, 1) := by decide +kernel
theorem dX0_tax_50 : decode cX0_tax 50 = .ok (.iaload, 1) := by decide +kernel
theorem dX0_tax_51 : decode cX0_tax 51 = .ok (.iload 4, 2) := by decide +kernel
theorem dX0_tax_53 : decode cX0_tax 53 = .ok (.isub, 1) := by decide +kernel
theorem dX0_tax_54 : decode cX0_tax 54 = .ok (.iastore, 1) := by decide +kernel
theorem dX0_tax_55 : decode cX0_tax 55 = .ok (.aload_n 0, 1) := by decide +kernel
theorem dX0_tax_56 : decode cX0_tax 56 = .ok (.ldc 88, 2) := by decide +kernel
theorem dX0_tax_58 : decode cX0_tax 58 = .ok (.aload_n 0, 1) := by decide +kernel
theorem dX0_tax_59 : decode cX0_tax 59 = .ok (.getfield 29, 3) := by decide +kernel
theorem dX0_tax_62 : decode cX0_tax 62 = .ok (.iload 4, 2) := by decide +kernel
theorem dX0_tax_64 : decode cX0_tax 64 = .ok (.iadd, 1) := by decide +kernel
theorem dX0_tax_65 : decode cX0_tax 65 = .ok (.invokestatic 75, 3) := by decide +kernel
theorem dX0_tax_68 : decode cX0_tax 68 = .ok (.putfield 29, 3) := by decide +kernel
theorem dX0_tax_71 : decode cX0_tax 71 = .ok (.iinc 3 1, 3) := by decide +kernel
theorem dX0_tax_74 : decode cX0_tax 74 = .ok (.goto (-52), 3) := by decide +kernel
theorem dX0_tax_77 : decode cX0_tax 77 = .ok (.aload_n 0, 1) := by decide +kernel
theorem dX0_tax_78 : decode cX0_tax 78 = .ok (.getfield 29, 3) := by decide +kernel
theorem dX0_tax_81 : decode cX0_tax 81 = .ok (.ireturn, 1) := by decide +kernel
theorem dX0_burn_0 : decode cX0_burn 0 = .ok (.aload_n 0, 1) := by decide +kernel
theorem dX0_burn_1 : decode cX0_burn 1 = .ok (.iload_n 1, 1) := by decide +kernel
theorem dX0_burn_2 : decode cX0_burn 2 = .ok (.invokevirtual 67, 3) := by decide +kernel
theorem dX0_burn_5 : decode cX0_burn 5 = .ok (.ifCond .ne 5, 3) := by decide +kernel
theorem dX0_burn_8 : decode cX0_burn 8 = .ok (.iconst (-1), 1) := by decide +kernel
theorem dX0_burn_9 : decode cX0_burn 9 = .ok (.ireturn, 1) := by decide +kernel
theorem dX0_burn_10 : decode cX0_burn 10 = .ok (.aload_n 0, 1) := by decide +kernel
theorem dX0_burn_11 : decode cX0_burn 11 = .ok (.getfield 11, 3) := by decide +kernel
theorem dX0_burn_14 : decode cX0_burn 14 = .ok (.iconst 1, 1) := by decide +kernel
theorem dX0_burn_15 : decode cX0_burn 15 = .ok (.aaload, 1) := by decide +kernel
theorem dX0_burn_16 : decode cX0_burn 16 = .ok (.iload_n 1, 1) := by decide +kernel
theorem dX0_burn_17 : decode cX0_burn 17 = .ok (.iaload, 1) := by decide +kernel
theorem dX0_burn_18 : decode cX0_burn 18 = .ok (.istore_n 2, 1) := by decide +kernel
theorem dX0_burn_19 : decode cX0_burn 19 = .ok (.aload_n 0, 1) := by decide +kernel
theorem dX0_burn_20 : decode cX0_burn 20 = .ok (.getfield 11, 3) := by decide +kernel
theorem dX0_burn_23 : decode cX0_burn 23 = .ok (.iconst 1, 1) := by decide +kernel
theorem dX0_burn_24 : decode cX0_burn 24 = .ok (.aaload, 1) := by decide +kernel
theorem dX0_burn_25 : decode cX0_burn 25 = .ok (.iload_n 1, 1) := by decide +kernel
theorem dX0_burn_26 : decode cX0_burn 26 = .ok (.iconst 0, 1) := by decide +kernel
theorem dX0_burn_27 : decode cX0_burn 27 = .ok (.iastore, 1) := by decide +kernel
theorem dX0_burn_28 : decode cX0_burn 28 = .ok (.iload_n 2, 1) := by decide +kernel
theorem dX0_burn_29 : decode cX0_burn 29 = .ok (.ifCond .ne 8, 3) := by decide +kernel
theorem dX0_burn_32 : decode cX0_burn 32 = .ok (.bipush (-2), 2) := by decide +kernel
theorem dX0_burn_34 : decode cX0_burn 34 = .ok (.goto 4, 3) := by decide +kernel
theorem dX0_burn_37 : decode cX0_burn 37 = .ok (.iload_n 2, 1) := by decide +kernel
theorem dX0_burn_38 : decode cX0_burn 38 = .ok (.ireturn, 1) := by decide +kernel
theorem dX0_turnPort_0 : decode cX0_turnPort 0 = .ok (.aload_n 0, 1) := by decide +kernel
theorem dX0_turnPort_1 : decode cX0_turnPort 1 = .ok (.aload_n 0, 1) := by decide +kernel
theorem dX0_turnPort_2 : decode cX0_turnPort 2 = .ok (.getfield 32, 3) := by decide +kernel
theorem dX0_turnPort_5 : decode cX0_turnPort 5 = .ok (.ifCond .ne 7, 3) := by decide +kernel
theorem dX0_turnPort_8 : decode cX0_turnPort 8 = .ok (.iconst 1, 1) := by decide +kernel
theorem dX0_turnPort_9 : decode cX0_turnPort 9 = .ok (.goto 4, 3) := by decide +kernel
theorem dX0_turnPort_12 : decode cX0_turnPort 12 = .ok (.iconst 0, 1) := by decide +kernel
theorem dX0_turnPort_13 : decode cX0_turnPort 13 = .ok (.putfield 32, 3) := by decide +kernel
theorem dX0_turnPort_16 : decode cX0_turnPort 16 = .ok (.aload_n 0, 1) := by decide +kernel
theorem dX0_turnPort_17 : decode cX0_turnPort 17 = .ok (.getfield 32, 3) := by decide +kernel
theorem dX0_turnPort_20 : decode cX0_turnPort 20 = .ok (.ifCond .eq 7, 3) := by decide +kernel
theorem dX0_turnPort_23 : decode cX0_turnPort 23 = .ok (.iconst 1, 1) := by decide +kernel
theorem dX0_turnPort_24 : decode cX0_turnPort 24 = .ok (.goto 4, 3) := by decide +kernel
theorem dX0_turnPort_27 : decode cX0_turnPort 27 = .ok (.iconst 0, 1) := by decide +kernel
theorem dX0_turnPort_28 : decode cX0_turnPort 28 = .ok (.ireturn, 1) := by decide +kernel
theorem dX0_setFlow_0 : decode cX0_setFlow 0 = .ok (.iload_n 1, 1) := by decide +kernel
theorem dX0_setFlow_1 : decode cX0_setFlow 1 = .ok (.iconst 0, 1) := by decide +kernel
theorem dX0_setFlow_2 : decode cX0_setFlow 2 = .ok (.bipush 9, 2) := by decide +kernel
theorem dX0_setFlow_4 : decode cX0_setFlow 4 = .ok (.invokestatic 81, 3) := by decide +kernel
theorem dX0_setFlow_7 : decode cX0_setFlow 7 = .ok (.ifCond .ne 5, 3) := by decide +kernel
theorem dX0_setFlow_10 : decode cX0_setFlow 10 = .ok (.iconst (-1), 1) := by decide +kernel
theorem dX0_setFlow_11 : decode cX0_setFlow 11 = .ok (.ireturn, 1) := by decide +kernel
theorem dX0_setFlow_12 : decode cX0_setFlow 12 = .ok (.aload_n 0, 1) := by decide +kernel
theorem dX0_setFlow_13 : decode cX0_setFlow 13 = .ok (.getfield 23, 3) := by decide +kernel
theorem dX0_setFlow_16 : decode cX0_setFlow 16 = .ok (.istore_n 2, 1) := by decide +kernel
theorem dX0_setFlow_17 : decode cX0_setFlow 17 = .ok (.aload_n 0, 1) := by decide +kernel
theorem dX0_setFlow_18 : decode cX0_setFlow 18 = .ok (.iload_n 1, 1) := by decide +kernel
theorem dX0_setFlow_19 : decode cX0_setFlow 19 = .ok (.putfield 23, 3) := by decide +kernel
theorem dX0_setFlow_22 : decode cX0_setFlow 22 = .ok (.iload_n 2, 1) := by decide +kernel
theorem dX0_setFlow_23 : decode cX0_setFlow 23 = .ok (.ireturn, 1) := by decide +kernel
theorem dX0_sumThere_0 : decode cX0_sumThere 0 = .ok (.iconst 0, 1) := by decide +kernel
theorem dX0_sumThere_1 : decode cX0_sumThere 1 = .ok (.istore_n 2, 1) := by decide +kernel
theorem dX0_sumThere_2 : decode cX0_sumThere 2 = .ok (.iconst 0, 1) := by decide +kernel
theorem dX0_sumThere_3 : decode cX0_sumThere 3 = .ok (.istore_n 3, 1) := by decide +kernel
theorem dX0_sumThere_4 : decode cX0_sumThere 4 = .ok (.iload_n 3, 1) := by decide +kernel
theorem dX0_sumThere_5 : decode cX0_sumThere 5 = .ok (.aload_n 0, 1) := by decide +kernel
theorem dX0_sumThere_6 : decode cX0_sumThere 6 = .ok (.getfield 19, 3) := by decide +kernel
theorem dX0_sumThere_9 : decode cX0_sumThere 9 = .ok (.if_icmp .ge 27, 3) := by decide +kernel
theorem dX0_sumThere_12 : decode cX0_sumThere 12 = .ok (.iload_n 1, 1) := by decide +kernel
theorem dX0_sumThere_13 : decode cX0_sumThere 13 = .ok (.invokestatic 71, 3) := by decide +kernel
theorem dX0_sumThere_16 : decode cX0_sumThere 16 = .ok (.ifCond .eq 20, 3) := by decide +kernel
theorem dX0_sumThere_19 : decode cX0_sumThere 19 = .ok (.iload_n 2, 1) := by decide +kernel
theorem dX0_sumThere_20 : decode cX0_sumThere 20 = .ok (.aload_n 0, 1) := by decide +kernel
theorem dX0_sumThere_21 : decode cX0_sumThere 21 = .ok (.getfield 11, 3) := by decide +kernel
theorem dX0_sumThere_24 : decode cX0_sumThere 24 = .ok (.iload_n 1, 1) := by decide +kernel
theorem dX0_sumThere_25 : decode cX0_sumThere 25 = .ok (.aaload, 1) := by decide +kernel
theorem dX0_sumThere_26 : decode cX0_sumThere 26 = .ok (.iload_n 3, 1) := by decide +kernel
theorem dX0_sumThere_27 : decode cX0_sumThere 27 = .ok (.iaload, 1) := by decide +kernel
theorem dX0_sumThere_28 : decode cX0_sumThere 28 = .ok (.iadd, 1) := by decide +kernel
theorem dX0_sumThere_29 : decode cX0_sumThere 29 = .ok (.istore_n 2, 1) := by decide +kernel
theorem dX0_sumThere_30 : decode cX0_sumThere 30 = .ok (.iinc 3 1, 3) := by decide +kernel
theorem dX0_sumThere_33 : decode cX0_sumThere 33 = .ok (.goto (-29), 3) := by decide +kernel
theorem dX0_sumThere_36 : decode cX0_sumThere 36 = .ok (.iload_n 2, 1) := by decide +kernel
theorem dX0_sumThere_37 : decode cX0_sumThere 37 = .ok (.ireturn, 1) := by decide +kernel
theorem dX0_sumLaidBy_0 : decode cX0_sumLaidBy 0 = .ok (.iconst 0, 1) := by decide +kernel
theorem dX0_sumLaidBy_1 : decode cX0_sumLaidBy 1 = .ok (.istore_n 1, 1) := by decide +kernel
theorem dX0_sumLaidBy_2 : decode cX0_sumLaidBy 2 = .ok (.iconst 0, 1) := by decide +kernel
theorem dX0_sumLaidBy_3 : decode cX0_sumLaidBy 3 = .ok (.istore_n 2, 1) := by decide +kernel
theorem dX0_sumLaidBy_4 : decode cX0_sumLaidBy 4 = .ok (.iload_n 2, 1) := by decide +kernel
theorem dX0_sumLaidBy_5 : decode cX0_sumLaidBy 5 = .ok (.aload_n 0, 1) := by decide +kernel
theorem dX0_sumLaidBy_6 : decode cX0_sumLaidBy 6 = .ok (.getfield 19, 3) := by decide +kernel
theorem dX0_sumLaidBy_9 : decode cX0_sumLaidBy 9 = .ok (.if_icmp .ge 29, 3) := by decide +kernel
theorem dX0_sumLaidBy_12 : decode cX0_sumLaidBy 12 = .ok (.iload_n 1, 1) := by decide +kernel
theorem dX0_sumLaidBy_13 : decode cX0_sumLaidBy 13 = .ok (.aload_n 0, 1) := by decide +kernel
theorem dX0_sumLaidBy_14 : decode cX0_sumLaidBy 14 = .ok (.getfield 16, 3) := by decide +kernel
theorem dX0_sumLaidBy_17 : decode cX0_sumLaidBy 17 = .ok (.iconst 0, 1) := by decide +kernel
theorem dX0_sumLaidBy_18 : decode cX0_sumLaidBy 18 = .ok (.aaload, 1) := by decide +kernel
theorem dX0_sumLaidBy_19 : decode cX0_sumLaidBy 19 = .ok (.iload_n 2, 1) := by decide +kernel
theorem dX0_sumLaidBy_20 : decode cX0_sumLaidBy 20 = .ok (.iaload, 1) := by decide +kernel
theorem dX0_sumLaidBy_21 : decode cX0_sumLaidBy 21 = .ok (.aload_n 0, 1) := by decide +kernel
theorem dX0_sumLaidBy_22 : decode cX0_sumLaidBy 22 = .ok (.getfield 16, 3) := by decide +kernel
theorem dX0_sumLaidBy_25 : decode cX0_sumLaidBy 25 = .ok (.iconst 1, 1) := by decide +kernel
theorem dX0_sumLaidBy_26 : decode cX0_sumLaidBy 26 = .ok (.aaload, 1) := by decide +kernel
theorem dX0_sumLaidBy_27 : decode cX0_sumLaidBy 27 = .ok (.iload_n 2, 1) := by decide +kernel
theorem dX0_sumLaidBy_28 : decode cX0_sumLaidBy 28 = .ok (.iaload, 1) := by decide +kernel
theorem dX0_sumLaidBy_29 : decode cX0_sumLaidBy 29 = .ok (.iadd, 1) := by decide +kernel
theorem dX0_sumLaidBy_30 : decode cX0_sumLaidBy 30 = .ok (.iadd, 1) := by decide +kernel
theorem dX0_sumLaidBy_31 : decode cX0_sumLaidBy 31 = .ok (.istore_n 1, 1) := by decide +kernel
theorem dX0_sumLaidBy_32 : decode cX0_sumLaidBy 32 = .ok (.iinc 2 1, 3) := by decide +kernel
theorem dX0_sumLaidBy_35 : decode cX0_sumLaidBy 35 = .ok (.goto (-31), 3) := by decide +kernel
theorem dX0_sumLaidBy_38 : decode cX0_sumLaidBy 38 = .ok (.iload_n 1, 1) := by decide +kernel
theorem dX0_sumLaidBy_39 : decode cX0_sumLaidBy 39 = .ok (.ireturn, 1) := by decide +kernel
theorem dX1_init_0 : decode cX1_init 0 = .ok (.aload_n 0, 1) := by decide +kernel
theorem dX1_init_1 : decode cX1_init 1 = .ok (.invokespecial 3, 3) := by decide +kernel
theorem dX1_init_4 : decode cX1_init 4 = .ok (.aload_n 0, 1) := by decide +kernel
theorem dX1_init_5 : decode cX1_init 5 = .ok (.bipush 8, 2) := by decide +kernel
theorem dX1_init_7 : decode cX1_init 7 = .ok (.newarray .int, 2) := by decide +kernel
theorem dX1_init_9 : decode cX1_init 9 = .ok (.putfield 9, 3) := by decide +kernel
theorem dX1_init_12 : decode cX1_init 12 = .ok (.aload_n 0, 1) := by decide +kernel
theorem dX1_init_13 : decode cX1_init 13 = .ok (.bipush 8, 2) := by decide +kernel
theorem dX1_init_15 : decode cX1_init 15 = .ok (.newarray .int, 2) := by decide +kernel
theorem dX1_init_17 : decode cX1_init 17 = .ok (.putfield 15, 3) := by decide +kernel
theorem dX1_init_20 : decode cX1_init 20 = .ok (.aload_n 0, 1) := by decide +kernel
theorem dX1_init_21 : decode cX1_init 21 = .ok (.getfield 9, 3) := by decide +kernel
theorem dX1_init_24 : decode cX1_init 24 = .ok (.iconst 0, 1) := by decide +kernel
theorem dX1_init_25 : decode cX1_init 25 = .ok (.iconst (-1), 1) := by decide +kernel
theorem dX1_init_26 : decode cX1_init 26 = .ok (.iastore, 1) := by decide +kernel
theorem dX1_init_27 : decode cX1_init 27 = .ok (.aload_n 0, 1) := by decide +kernel
theorem dX1_init_28 : decode cX1_init 28 = .ok (.iconst 1, 1) := by decide +kernel
theorem dX1_init_29 : decode cX1_init 29 = .ok (.putfield 18, 3) := by decide +kernel
theorem dX1_init_32 : decode cX1_init 32 = .ok (.return_, 1) := by decide +kernel
theorem dX1_read_0 : decode cX1_read 0 = .ok (.aload_n 1, 1) := by decide +kernel
theorem dX1_read_1 : decode cX1_read 1 = .ok (.getfield 22, 3) := by decide +kernel
theorem dX1_read_4 : decode cX1_read 4 = .ok (.bipush 32, 2) := by decide +kernel
theorem dX1_read_6 : decode cX1_read 6 = .ok (.invokestatic 27, 3) := by decide +kernel
theorem dX1_read_9 : decode cX1_read 9 = .ok (.istore_n 2, 1) := by decide +kernel
theorem dX1_read_10 : decode cX1_read 10 = .ok (.iconst 0, 1) := by decide +kernel
theorem dX1_read_11 : decode cX1_read 11 = .ok (.istore_n 3, 1) := by decide +kernel
theorem dX1_read_12 : decode cX1_read 12 = .ok (.aload_n 0, 1) := by decide +kernel
theorem dX1_read_13 : decode cX1_read 13 = .ok (.iconst 0, 1) := by decide +kernel
theorem dX1_read_14 : decode cX1_read 14 = .ok (.putfield 18, 3) := by decide +kernel
theorem dX1_read_17 : decode cX1_read 17 = .ok (.iload_n 3, 1) := by decide +kernel
theorem dX1_read_18 : decode cX1_read 18 = .ok (.iload_n 2, 1) := by decide +kernel
theorem dX1_read_19 : decode cX1_read 19 = .ok (.if_icmp .ge 154, 3) := by decide +kernel
theorem dX1_read_22 : decode cX1_read 22 = .ok (.aload_n 1, 1) := by decide +kernel
theorem dX1_read_23 : decode cX1_read 23 = .ok (.iload_n 3, 1) := by decide +kernel
theorem dX1_read_24 : decode cX1_read 24 = .ok (.iload_n 2, 1) := by decide +kernel
theorem dX1_read_25 : decode cX1_read 25 = .ok (.invokevirtual 33, 3) := by decide +kernel
theorem dX1_read_28 : decode cX1_read 28 = .ok (.istore 4, 2) := by decide +kernel
theorem dX1_read_30 : decode cX1_read 30 = .ok (.aload_n 0, 1) := by decide +kernel
theorem dX1_read_31 : decode cX1_read 31 = .ok (.getfield 18, 3) := by decide +kernel
theorem dX1_read_34 : decode cX1_read 34 = .ok (.bipush 8, 2) := by decide +kernel
theorem dX1_read_36 : decode cX1_read 36 = .ok (.if_icmp .eq 24, 3) := by decide +kernel
theorem dX1_read_39 : decode cX1_read 39 = .ok (.iload 4, 2) := by decide +kernel
theorem dX1_read_41 : decode cX1_read 41 = .ok (.bipush 46, 2) := by decide +kernel
theorem dX1_read_43 : decode cX1_read 43 = .ok (.if_icmp .eq 19, 3) := by decide +kernel
theorem dX1_read_46 : decode cX1_read 46 = .ok (.iload 4, 2) := by decide +kernel
theorem dX1_read_48 : decode cX1_read 48 = .ok (.bipush 111, 2) := by decide +kernel
theorem dX1_read_50 : decode cX1_read 50 = .ok (.if_icmp .eq 12, 3) := by decide +kernel
theorem dX1_read_53 : decode cX1_read 53 = .ok (.iload 4, 2) := by decide +kernel
theorem dX1_read_55 : decode cX1_read 55 = .ok (.bipush 110, 2) := by decide +kernel
theorem dX1_read_57 : decode cX1_read 57 = .ok (.if_icmp .eq 5, 3) := by decide +kernel
theorem dX1_read_60 : decode cX1_read 60 = .ok (.iload_n 3, 1) := by decide +kernel
theorem dX1_read_61 : decode cX1_read 61 = .ok (.ireturn, 1) := by decide +kernel
theorem dX1_read_62 : decode cX1_read 62 = .ok (.iload 4, 2) := by decide +kernel
theorem dX1_read_64 : decode cX1_read 64 = .ok (.bipush 46, 2) := by decide +kernel
theorem dX1_read_66 : decode cX1_read 66 = .ok (.if_icmp .ne 7, 3) := by decide +kernel
theorem dX1_read_69 : decode cX1_read 69 = .ok (.iconst 0, 1) := by decide +kernel
theorem dX1_read_70 : decode cX1_read 70 = .ok (.goto 12, 3) := by decide +kernel
theorem dX1_read_73 : decode cX1_read 73 = .ok (.aload_n 1, 1) := by decide +kernel
theorem dX1_read_74 : decode cX1_read 74 = .ok (.iload_n 3, 1) := by decide +kernel
theorem dX1_read_75 : decode cX1_read 75 = .ok (.iconst 1, 1) := by decide +kernel
theorem dX1_read_76 : decode cX1_read 76 = .ok (.iadd, 1) := by decide +kernel
theorem dX1_read_77 : decode cX1_read 77 = .ok (.iconst 3, 1) := by decide +kernel
theorem dX1_read_78 : decode cX1_read 78 = .ok (.iload_n 2, 1) := by decide +kernel
theorem dX1_read_79 : decode cX1_read 79 = .ok (.invokevirtual 36, 3) := by decide +kernel
theorem dX1_read_82 : decode cX1_read 82 = .ok (.istore 5, 2) := by decide +kernel
theorem dX1_read_84 : decode cX1_read 84 = .ok (.iload 4, 2) := by decide +kernel
theorem dX1_read_86 : decode cX1_read 86 = .ok (.bipush 46, 2) := by decide +kernel
theorem dX1_read_88 : decode cX1_read 88 = .ok (.if_icmp .eq 12, 3) := by decide +kernel
theorem dX1_read_91 : decode cX1_read 91 = .ok (.iload 5, 2) := by decide +kernel
theorem dX1_read_93 : decode cX1_read 93 = .ok (.ifCond .ne 7, 3) := by decide +kernel
theorem dX1_read_96 : decode cX1_read 96 = .ok (.iload_n 3, 1) := by decide +kernel
theorem dX1_read_97 : decode cX1_read 97 = .ok (.iconst 1, 1) := by decide +kernel
theorem dX1_read_98 : decode cX1_read 98 = .ok (.iadd, 1) := by decide +kernel
theorem dX1_read_99 : decode cX1_read 99 = .ok (.ireturn, 1) := by decide +kernel
theorem dX1_read_100 : decode cX1_read 100 = .ok (.aload_n 0, 1) := by decide +kernel
theorem dX1_read_101 : decode cX1_read 101 = .ok (.getfield 9, 3) := by decide +kernel
theorem dX1_read_104 : decode cX1_read 104 = .ok (.aload_n 0, 1) := by decide +kernel
theorem dX1_read_105 : decode cX1_read 105 = .ok (.getfield 18, 3) := by decide +kernel
theorem dX1_read_108 : decode cX1_read 108 = .ok (.iload 4, 2) := by decide +kernel
theorem dX1_read_110 : decode cX1_read 110 = .ok (.bipush 46, 2) := by decide +kernel
theorem dX1_read_112 : decode cX1_read 112 = .ok (.if_icmp .ne 7, 3) := by decide +kernel
theorem dX1_read_115 : decode cX1_read 115 = .ok (.iconst (-1), 1) := by decide +kernel
theorem dX1_read_116 : decode cX1_read 116 = .ok (.goto 15, 3) := by decide +kernel
theorem dX1_read_119 : decode cX1_read 119 = .ok (.iload 4, 2) := by decide +kernel
theorem dX1_read_121 : decode cX1_read 121 = .ok (.bipush 111, 2) := by decide +kernel
theorem dX1_read_123 : decode cX1_read 123 = .ok (.if_icmp .ne 7, 3) := by decide +kernel
theorem dX1_read_126 : decode cX1_read 126 = .ok (.iconst 0, 1) := by decide +kernel
theorem dX1_read_127 : decode cX1_read 127 = .ok (.goto 4, 3) := by decide +kernel
theorem dX1_read_130 : decode cX1_read 130 = .ok (.iconst 1, 1) := by decide +kernel
theorem dX1_read_131 : decode cX1_read 131 = .ok (.iastore, 1) := by decide +kernel
theorem dX1_read_132 : decode cX1_read 132 = .ok (.aload_n 0, 1) := by decide +kernel
theorem dX1_read_133 : decode cX1_read 133 = .ok (.getfield 15, 3) := by decide +kernel
theorem dX1_read_136 : decode cX1_read 136 = .ok (.aload_n 0, 1) := by decide +kernel
theorem dX1_read_137 : decode cX1_read 137 = .ok (.getfield 18, 3) := by decide +kernel
theorem dX1_read_140 : decode cX1_read 140 = .ok (.bipush 10, 2) := by decide +kernel
theorem dX1_read_142 : decode cX1_read 142 = .ok (.aload_n 1, 1) := by decide +kernel
theorem dX1_read_143 : decode cX1_read 143 = .ok (.iload_n 3, 1) := by decide +kernel
theorem dX1_read_144 : decode cX1_read 144 = .ok (.iconst 1, 1) := by decide +kernel
theorem dX1_read_145 : decode cX1_read 145 = .ok (.iadd, 1) := by decide +kernel
theorem dX1_read_146 : decode cX1_read 146 = .ok (.iload 5, 2) := by decide +kernel
theorem dX1_read_148 : decode cX1_read 148 = .ok (.invokevirtual 40, 3) := by decide +kernel
theorem dX1_read_151 : decode cX1_read 151 = .ok (.imul, 1) := by decide +kernel
theorem dX1_read_152 : decode cX1_read 152 = .ok (.iastore, 1) := by decide +kernel
theorem dX1_read_153 : decode cX1_read 153 = .ok (.aload_n 0, 1) := by decide +kernel
theorem dX1_read_154 : decode cX1_read 154 = .ok (.dup, 1) := by decide +kernel
theorem dX1_read_155 : decode cX1_read 155 = .ok (.getfield 18, 3) := by decide +kernel
theorem dX1_read_158 : decode cX1_read 158 = .ok (.iconst 1, 1) := by decide +kernel
theorem dX1_read_159 : decode cX1_read 159 = .ok (.iadd, 1) := by decide +kernel
theorem dX1_read_160 : decode cX1_read 160 = .ok (.putfield 18, 3) := by decide +kernel
theorem dX1_read_163 : decode cX1_read 163 = .ok (.iload_n 3, 1) := by decide +kernel
theorem dX1_read_164 : decode cX1_read 164 = .ok (.iconst 1, 1) := by decide +kernel
theorem dX1_read_165 : decode cX1_read 165 = .ok (.iload 5, 2) := by decide +kernel
theorem dX1_read_167 : decode cX1_read 167 = .ok (.iadd, 1) := by decide +kernel
theorem dX1_read_168 : decode cX1_read 168 = .ok (.iadd, 1) := by decide +kernel
theorem dX1_read_169 : decode cX1_read 169 = .ok (.istore_n 3, 1) := by decide +kernel
theorem dX1_read_170 : decode cX1_read 170 = .ok (.goto (-153), 3) := by decide +kernel
theorem dX1_read_173 : decode cX1_read 173 = .ok (.aload_n 0, 1) := by decide +kernel
theorem dX1_read_174 : decode cX1_read 174 = .ok (.getfield 18, 3) := by decide +kernel
theorem dX1_read_177 : decode cX1_read 177 = .ok (.ifCond .eq 11, 3) := by decide +kernel
theorem dX1_read_180 : decode cX1_read 180 = .ok (.aload_n 1, 1) := by decide +kernel
theorem dX1_read_181 : decode cX1_read 181 = .ok (.getfield 22, 3) := by decide +kernel
theorem dX1_read_184 : decode cX1_read 184 = .ok (.iload_n 2, 1) := by decide +kernel
theorem dX1_read_185 : decode cX1_read 185 = .ok (.if_icmp .le 7, 3) := by decide +kernel
theorem dX1_read_188 : decode cX1_read 188 = .ok (.iload_n 2, 1) := by decide +kernel
theorem dX1_read_189 : decode cX1_read 189 = .ok (.goto 4, 3) := by decide +kernel
theorem dX1_read_192 : decode cX1_read 192 = .ok (.iconst (-1), 1) := by decide +kernel
theorem dX1_read_193 : decode cX1_read 193 = .ok (.ireturn, 1) := by decide +kernel
theorem dX1_atMonth_0 : decode cX1_atMonth 0 = .ok (.aload_n 0, 1) := by decide +kernel
theorem dX1_atMonth_1 : decode cX1_atMonth 1 = .ok (.getfield 18, 3) := by decide +kernel
theorem dX1_atMonth_4 : decode cX1_atMonth 4 = .ok (.ifCond .gt 7, 3) := by decide +kernel
theorem dX1_atMonth_7 : decode cX1_atMonth 7 = .ok (.iconst 0, 1) := by decide +kernel
theorem dX1_atMonth_8 : decode cX1_atMonth 8 = .ok (.goto 11, 3) := by decide +kernel
theorem dX1_atMonth_11 : decode cX1_atMonth 11 = .ok (.iload_n 1, 1) := by decide +kernel
theorem dX1_atMonth_12 : decode cX1_atMonth 12 = .ok (.aload_n 0, 1) := by decide +kernel
theorem dX1_atMonth_13 : decode cX1_atMonth 13 = .ok (.getfield 18, 3) := by decide +kernel
theorem dX1_atMonth_16 : decode cX1_atMonth 16 = .ok (.invokestatic 43, 3) := by decide +kernel
theorem dX1_atMonth_19 : decode cX1_atMonth 19 = .ok (.ireturn, 1) := by decide +kernel
theorem dX2_init_0 : decode cX2_init 0 = .ok (.aload_n 0, 1) := by decide +kernel
theorem dX2_init_1 : decode cX2_init 1 = .ok (.invokespecial 3, 3) := by decide +kernel
theorem dX2_init_4 : decode cX2_init 4 = .ok (.aload_n 0, 1) := by decide +kernel
theorem dX2_init_5 : decode cX2_init 5 = .ok (.bipush 8, 2) := by decide +kernel
theorem dX2_init_7 : decode cX2_init 7 = .ok (.newarray .int, 2) := by decide +kernel
theorem dX2_init_9 : decode cX2_init 9 = .ok (.putfield 9, 3) := by decide +kernel
theorem dX2_init_12 : decode cX2_init 12 = .ok (.aload_n 0, 1) := by decide +kernel
theorem dX2_init_13 : decode cX2_init 13 = .ok (.bipush 8, 2) := by decide +kernel
theorem dX2_init_15 : decode cX2_init 15 = .ok (.newarray .int, 2) := by decide +kernel
theorem dX2_init_17 : decode cX2_init 17 = .ok (.putfield 15, 3) := by decide +kernel
theorem dX2_init_20 : decode cX2_init 20 = .ok (.aload_n 0, 1) := by decide +kernel
theorem dX2_init_21 : decode cX2_init 21 = .ok (.sipush 1000, 3) := by decide +kernel
theorem dX2_init_24 : decode cX2_init 24 = .ok (.newarray .boolean, 2) := by decide +kernel
theorem dX2_init_26 : decode cX2_init 26 = .ok (.putfield 18, 3) := by decide +kernel
theorem dX2_init_29 : decode cX2_init 29 = .ok (.aload_n 0, 1) := by decide +kernel
theorem dX2_init_30 : decode cX2_init 30 = .ok (.iconst 0, 1) := by decide +kernel
theorem dX2_init_31 : decode cX2_init 31 = .ok (.putfield 22, 3) := by decide +kernel
theorem dX2_init_34 : decode cX2_init 34 = .ok (.return_, 1) := by decide +kernel
theorem dX2_hear_0 : decode cX2_hear 0 = .ok (.aload_n 0, 1) := by decide +kernel
theorem dX2_hear_1 : decode cX2_hear 1 = .ok (.getfield 22, 3) := by decide +kernel
theorem dX2_hear_4 : decode cX2_hear 4 = .ok (.bipush 8, 2) := by decide +kernel
theorem dX2_hear_6 : decode cX2_hear 6 = .ok (.if_icmp .lt 5, 3) := by decide +kernel
theorem dX2_hear_9 : decode cX2_hear 9 = .ok (.iconst 0, 1) := by decide +kernel
theorem dX2_hear_10 : decode cX2_hear 10 = .ok (.ireturn, 1) := by decide +kernel
theorem dX2_hear_11 : decode cX2_hear 11 = .ok (.aload_n 0, 1) := by decide +kernel
theorem dX2_hear_12 : decode cX2_hear 12 = .ok (.getfield 9, 3) := by decide +kernel
theorem dX2_hear_15 : decode cX2_hear 15 = .ok (.aload_n 0, 1) := by decide +kernel
theorem dX2_hear_16 : decode cX2_hear 16 = .ok (.getfield 22, 3) := by decide +kernel
theorem dX2_hear_19 : decode cX2_hear 19 = .ok (.iload_n 1, 1) := by decide +kernel
theorem dX2_hear_20 : decode cX2_hear 20 = .ok (.iastore, 1) := by decide +kernel
theorem dX2_hear_21 : decode cX2_hear 21 = .ok (.aload_n 0, 1) := by decide +kernel
theorem dX2_hear_22 : decode cX2_hear 22 = .ok (.getfield 15, 3) := by decide +kernel
theorem dX2_hear_25 : decode cX2_hear 25 = .ok (.aload_n 0, 1) := by decide +kernel
theorem dX2_hear_26 : decode cX2_hear 26 = .ok (.getfield 22, 3) := by decide +kernel
theorem dX2_hear_29 : decode cX2_hear 29 = .ok (.iload_n 2, 1) := by decide +kernel
theorem dX2_hear_30 : decode cX2_hear 30 = .ok (.iastore, 1) := by decide +kernel
theorem dX2_hear_31 : decode cX2_hear 31 = .ok (.aload_n 0, 1) := by decide +kernel
theorem dX2_hear_32 : decode cX2_hear 32 = .ok (.dup, 1) := by decide +kernel
theorem dX2_hear_33 : decode cX2_hear 33 = .ok (.getfield 22, 3) := by decide +kernel
theorem dX2_hear_36 : decode cX2_hear 36 = .ok (.iconst 1, 1) := by decide +kernel
theorem dX2_hear_37 : decode cX2_hear 37 = .ok (.iadd, 1) := by decide +kernel
theorem dX2_hear_38 : decode cX2_hear 38 = .ok (.putfield 22, 3) := by decide +kernel
theorem dX2_hear_41 : decode cX2_hear 41 = .ok (.iconst 1, 1) := by decide +kernel
theorem dX2_hear_42 : decode cX2_hear 42 = .ok (.ireturn, 1) := by decide +kernel
theorem dX2_sift_0 : decode cX2_sift 0 = .ok (.iconst 1, 1) := by decide +kernel
theorem dX2_sift_1 : decode cX2_sift 1 = .ok (.istore_n 1, 1) := by decide +kernel
theorem dX2_sift_2 : decode cX2_sift 2 = .ok (.iload_n 1, 1) := by decide +kernel
theorem dX2_sift_3 : decode cX2_sift 3 = .ok (.sipush 999, 3) := by decide +kernel
theorem dX2_sift_6 : decode cX2_sift 6 = .ok (.if_icmp .gt 20, 3) := by decide +kernel
theorem dX2_sift_9 : decode cX2_sift 9 = .ok (.aload_n 0, 1) := by decide +kernel
theorem dX2_sift_10 : decode cX2_sift 10 = .ok (.getfield 18, 3) := by decide +kernel
theorem dX2_sift_13 : decode cX2_sift 13 = .ok (.iload_n 1, 1) := by decide +kernel
theorem dX2_sift_14 : decode cX2_sift 14 = .ok (.aload_n 0, 1) := by decide +kernel
theorem dX2_sift_15 : decode cX2_sift 15 = .ok (.iload_n 1, 1) := by decide +kernel
theorem dX2_sift_16 : decode cX2_sift 16 = .ok (.invokevirtual 26, 3) := by decide +kernel
theorem dX2_sift_19 : decode cX2_sift 19 = .ok (.bastore, 1) := by decide +kernel
theorem dX2_sift_20 : decode cX2_sift 20 = .ok (.iinc 1 1, 3) := by decide +kernel
theorem dX2_sift_23 : decode cX2_sift 23 = .ok (.goto (-21), 3) := by decide +kernel
theorem dX2_sift_26 : decode cX2_sift 26 = .ok (.return_, 1) := by decide +kernel
theorem dX2_isFitting_0 : decode cX2_isFitting 0 = .ok (.iconst 0, 1) := by decide +kernel
theorem dX2_isFitting_1 : decode cX2_isFitting 1 = .ok (.istore_n 2, 1) := by decide +kernel
theorem dX2_isFitting_2 : decode cX2_isFitting 2 = .ok (.iload_n 2, 1) := by decide +kernel
theorem dX2_isFitting_3 : decode cX2_isFitting 3 = .ok (.aload_n 0, 1) := by decide +kernel
theorem dX2_isFitting_4 : decode cX2_isFitting 4 = .ok (.getfield 22, 3) := by decide +kernel
theorem dX2_isFitting_7 : decode cX2_isFitting 7 = .ok (.if_icmp .ge 37, 3) := by decide +kernel
theorem dX2_isFitting_10 : decode cX2_isFitting 10 = .ok (.aload_n 0, 1) := by decide +kernel
theorem dX2_isFitting_11 : decode cX2_isFitting 11 = .ok (.getfield 9, 3) := by decide +kernel
theorem dX2_isFitting_14 : decode cX2_isFitting 14 = .ok (.iload_n 2, 1) := by decide +kernel
theorem dX2_isFitting_15 : decode cX2_isFitting 15 = .ok (.iaload, 1) := by decide +kernel
theorem dX2_isFitting_16 : decode cX2_isFitting 16 = .ok (.ifCond .le 22, 3) := by decide +kernel
theorem dX2_isFitting_19 : decode cX2_isFitting 19 = .ok (.iload_n 1, 1) := by decide +kernel
theorem dX2_isFitting_20 : decode cX2_isFitting 20 = .ok (.aload_n 0, 1) := by decide +kernel
theorem dX2_isFitting_21 : decode cX2_isFitting 21 = .ok (.getfield 9, 3) := by decide +kernel
theorem dX2_isFitting_24 : decode cX2_isFitting 24 = .ok (.iload_n 2, 1) := by decide +kernel
theorem dX2_isFitting_25 : decode cX2_isFitting 25 = .ok (.iaload, 1) := by decide +kernel
theorem dX2_isFitting_26 : decode cX2_isFitting 26 = .ok (.irem, 1) := by decide +kernel
theorem dX2_isFitting_27 : decode cX2_isFitting 27 = .ok (.aload_n 0, 1) := by decide +kernel
theorem dX2_isFitting_28 : decode cX2_isFitting 28 = .ok (.getfield 15, 3) := by decide +kernel
theorem dX2_isFitting_31 : decode cX2_isFitting 31 = .ok (.iload_n 2, 1) := by decide +kernel
theorem dX2_isFitting_32 : decode cX2_isFitting 32 = .ok (.iaload, 1) := by decide +kernel
theorem dX2_isFitting_33 : decode cX2_isFitting 33 = .ok (.if_icmp .eq 5, 3) := by decide +kernel
theorem dX2_isFitting_36 : decode cX2_isFitting 36 = .ok (.iconst 0, 1) := by decide +kernel
theorem dX2_isFitting_37 : decode cX2_isFitting 37 = .ok (.ireturn, 1) := by decide +kernel
theorem dX2_isFitting_38 : decode cX2_isFitting 38 = .ok (.iinc 2 1, 3) := by decide +kernel
theorem dX2_isFitting_41 : decode cX2_isFitting 41 = .ok (.goto (-39), 3) := by decide +kernel
theorem dX2_isFitting_44 : decode cX2_isFitting 44 = .ok (.iconst 1, 1) := by decide +kernel
theorem dX2_isFitting_45 : decode cX2_isFitting 45 = .ok (.ireturn, 1) := by decide +kernel
theorem dX2_mostLeft_0 : decode cX2_mostLeft 0 = .ok (.iconst 0, 1) := by decide +kernel
theorem dX2_mostLeft_1 : decode cX2_mostLeft 1 = .ok (.istore_n 2, 1) := by decide +kernel
theorem dX2_mostLeft_2 : decode cX2_mostLeft 2 = .ok (.iconst 0, 1) := by decide +kernel
theorem dX2_mostLeft_3 : decode cX2_mostLeft 3 = .ok (.istore_n 3, 1) := by decide +kernel
theorem dX2_mostLeft_4 : decode cX2_mostLeft 4 = .ok (.iload_n 3, 1) := by decide +kernel
theorem dX2_mostLeft_5 : decode cX2_mostLeft 5 = .ok (.iload_n 1, 1) := by decide +kernel
theorem dX2_mostLeft_6 : decode cX2_mostLeft 6 = .ok (.if_icmp .ge 63, 3) := by decide +kernel
theorem dX2_mostLeft_9 : decode cX2_mostLeft 9 = .ok (.iconst 0, 1) := by decide +kernel
theorem dX2_mostLeft_10 : decode cX2_mostLeft 10 = .ok (.istore 4, 2) := by decide +kernel
theorem dX2_mostLeft_12 : decode cX2_mostLeft 12 = .ok (.iload_n 3, 1) := by decide +kernel
theorem dX2_mostLeft_13 : decode cX2_mostLeft 13 = .ok (.istore 5, 2) := by decide +kernel
theorem dX2_mostLeft_15 : decode cX2_mostLeft 15 = .ok (.iload 5, 2) := by decide +kernel
theorem dX2_mostLeft_17 : decode cX2_mostLeft 17 = .ok (.sipush 999, 3) := by decide +kernel
theorem dX2_mostLeft_20 : decode cX2_mostLeft 20 = .ok (.if_icmp .gt 36, 3) := by decide +kernel
theorem dX2_mostLeft_23 : decode cX2_mostLeft 23 = .ok (.iload_n 1, 1) := by decide +kernel
theorem dX2_mostLeft_24 : decode cX2_mostLeft 24 = .ok (.ifCond .le 32, 3) := by decide +kernel
theorem dX2_mostLeft_27 : decode cX2_mostLeft 27 = .ok (.iload 4, 2) := by decide +kernel
theorem dX2_mostLeft_29 : decode cX2_mostLeft 29 = .ok (.aload_n 0, 1) := by decide +kernel
theorem dX2_mostLeft_30 : decode cX2_mostLeft 30 = .ok (.getfield 18, 3) := by decide +kernel
theorem dX2_mostLeft_33 : decode cX2_mostLeft 33 = .ok (.iload 5, 2) := by decide +kernel
theorem dX2_mostLeft_35 : decode cX2_mostLeft 35 = .ok (.baload, 1) := by decide +kernel
theorem dX2_mostLeft_36 : decode cX2_mostLeft 36 = .ok (.ifCond .eq 7, 3) := by decide +kernel
theorem dX2_mostLeft_39 : decode cX2_mostLeft 39 = .ok (.iconst 1, 1) := by decide +kernel
theorem dX2_mostLeft_40 : decode cX2_mostLeft 40 = .ok (.goto 4, 3) := by decide +kernel
theorem dX2_mostLeft_43 : decode cX2_mostLeft 43 = .ok (.iconst 0, 1) := by decide +kernel
theorem dX2_mostLeft_44 : decode cX2_mostLeft 44 = .ok (.iadd, 1) := by decide +kernel
theorem dX2_mostLeft_45 : decode cX2_mostLeft 45 = .ok (.istore 4, 2) := by decide +kernel
theorem dX2_mostLeft_47 : decode cX2_mostLeft 47 = .ok (.iload 5, 2) := by decide +kernel
theorem dX2_mostLeft_49 : decode cX2_mostLeft 49 = .ok (.iload_n 1, 1) := by decide +kernel
theorem dX2_mostLeft_50 : decode cX2_mostLeft 50 = .ok (.iadd, 1) := by decide +kernel
theorem dX2_mostLeft_51 : decode cX2_mostLeft 51 = .ok (.istore 5, 2) := by decide +kernel
theorem dX2_mostLeft_53 : decode cX2_mostLeft 53 = .ok (.goto (-38), 3) := by decide +kernel
theorem dX2_mostLeft_56 : decode cX2_mostLeft 56 = .ok (.iload_n 2, 1) := by decide +kernel
theorem dX2_mostLeft_57 : decode cX2_mostLeft 57 = .ok (.iload 4, 2) := by decide +kernel
theorem dX2_mostLeft_59 : decode cX2_mostLeft 59 = .ok (.invokestatic 30, 3) := by decide +kernel
theorem dX2_mostLeft_62 : decode cX2_mostLeft 62 = .ok (.istore_n 2, 1) := by decide +kernel
theorem dX2_mostLeft_63 : decode cX2_mostLeft 63 = .ok (.iinc 3 1, 3) := by decide +kernel
theorem dX2_mostLeft_66 : decode cX2_mostLeft 66 = .ok (.goto (-62), 3) := by decide +kernel
theorem dX2_mostLeft_69 : decode cX2_mostLeft 69 = .ok (.iload_n 2, 1) := by decide +kernel
theorem dX2_mostLeft_70 : decode cX2_mostLeft 70 = .ok (.ireturn, 1) := by decide +kernel
theorem dX3_init_0 : decode cX3_init 0 = .ok (.aload_n 0, 1) := by decide +kernel
theorem dX3_init_1 : decode cX3_init 1 = .ok (.invokespecial 3, 3) := by decide +kernel
theorem dX3_init_4 : decode cX3_init 4 = .ok (.aload_n 0, 1) := by decide +kernel
theorem dX3_init_5 : decode cX3_init 5 = .ok (.bipush 8, 2) := by decide +kernel
theorem dX3_init_7 : decode cX3_init 7 = .ok (.newarray .int, 2) := by decide +kernel
theorem dX3_init_9 : decode cX3_init 9 = .ok (.putfield 9, 3) := by decide +kernel
theorem dX3_init_12 : decode cX3_init 12 = .ok (.aload_n 0, 1) := by decide +kernel
theorem dX3_init_13 : decode cX3_init 13 = .ok (.iconst 0, 1) := by decide +kernel
theorem dX3_init_14 : decode cX3_init 14 = .ok (.putfield 15, 3) := by decide +kernel
theorem dX3_init_17 : decode cX3_init 17 = .ok (.return_, 1) := by decide +kernel
theorem dX3_read_0 : decode cX3_read 0 = .ok (.aload_n 0, 1) := by decide +kernel
theorem dX3_read_1 : decode cX3_read 1 = .ok (.iconst 0, 1) := by decide +kernel
theorem dX3_read_2 : decode cX3_read 2 = .ok (.putfield 15, 3) := by decide +kernel
theorem dX3_read_5 : decode cX3_read 5 = .ok (.aload_n 1, 1) := by decide +kernel
theorem dX3_read_6 : decode cX3_read 6 = .ok (.getfield 19, 3) := by decide +kernel
theorem dX3_read_9 : decode cX3_read 9 = .ok (.ifCond .ne 5, 3) := by decide +kernel
theorem dX3_read_12 : decode cX3_read 12 = .ok (.iconst (-1), 1) := by decide +kernel
theorem dX3_read_13 : decode cX3_read 13 = .ok (.ireturn, 1) := by decide +kernel
theorem dX3_read_14 : decode cX3_read 14 = .ok (.aload_n 1, 1) := by decide +kernel
theorem dX3_read_15 : decode cX3_read 15 = .ok (.getfield 19, 3) := by decide +kernel
theorem dX3_read_18 : decode cX3_read 18 = .ok (.iload_n 2, 1) := by decide +kernel
theorem dX3_read_19 : decode cX3_read 19 = .ok (.invokestatic 24, 3) := by decide +kernel
theorem dX3_read_22 : decode cX3_read 22 = .ok (.istore 5, 2) := by decide +kernel
theorem dX3_read_24 : decode cX3_read 24 = .ok (.iconst 0, 1) := by decide +kernel
theorem dX3_read_25 : decode cX3_read 25 = .ok (.istore 6, 2) := by decide +kernel
theorem dX3_read_27 : decode cX3_read 27 = .ok (.iconst 0, 1) := by decide +kernel
theorem dX3_read_28 : decode cX3_read 28 = .ok (.istore 7, 2) := by decide +kernel
theorem dX3_read_30 : decode cX3_read 30 = .ok (.iload 7, 2) := by decide +kernel
theorem dX3_read_32 : decode cX3_read 32 = .ok (.iload_n 3, 1) := by decide +kernel
theorem dX3_read_33 : decode cX3_read 33 = .ok (.if_icmp .ge 126, 3) := by decide +kernel
theorem dX3_read_36 : decode cX3_read 36 = .ok (.iload 7, 2) := by decide +kernel
theorem dX3_read_38 : decode cX3_read 38 = .ok (.aload_n 0, 1) := by decide +kernel
theorem dX3_read_39 : decode cX3_read 39 = .ok (.getfield 9, 3) := by decide +kernel
theorem dX3_read_42 : decode cX3_read 42 = .ok (.arraylength, 1) := by decide +kernel
theorem dX3_read_43 : decode cX3_read 43 = .ok (.if_icmp .ge 116, 3) := by decide +kernel
theorem dX3_read_46 : decode cX3_read 46 = .ok (.aload_n 1, 1) := by decide +kernel
theorem dX3_read_47 : decode cX3_read 47 = .ok (.iload 6, 2) := by decide +kernel
theorem dX3_read_49 : decode cX3_read 49 = .ok (.iload 4, 2) := by decide +kernel
theorem dX3_read_51 : decode cX3_read 51 = .ok (.iload 5, 2) := by decide +kernel
theorem dX3_read_53 : decode cX3_read 53 = .ok (.invokevirtual 30, 3) := by decide +kernel
theorem dX3_read_56 : decode cX3_read 56 = .ok (.istore 8, 2) := by decide +kernel
theorem dX3_read_58 : decode cX3_read 58 = .ok (.iload 8, 2) := by decide +kernel
theorem dX3_read_60 : decode cX3_read 60 = .ok (.ifCond .ne 6, 3) := by decide +kernel
theorem dX3_read_63 : decode cX3_read 63 = .ok (.iload 6, 2) := by decide +kernel
theorem dX3_read_65 : decode cX3_read 65 = .ok (.ireturn, 1) := by decide +kernel
theorem dX3_read_66 : decode cX3_read 66 = .ok (.aload_n 0, 1) := by decide +kernel
theorem dX3_read_67 : decode cX3_read 67 = .ok (.getfield 9, 3) := by decide +kernel
theorem dX3_read_70 : decode cX3_read 70 = .ok (.iload 7, 2) := by decide +kernel
theorem dX3_read_72 : decode cX3_read 72 = .ok (.aload_n 1, 1) := by decide +kernel
theorem dX3_read_73 : decode cX3_read 73 = .ok (.iload 6, 2) := by decide +kernel
theorem dX3_read_75 : decode cX3_read 75 = .ok (.iload 8, 2) := by decide +kernel
theorem dX3_read_77 : decode cX3_read 77 = .ok (.invokevirtual 34, 3) := by decide +kernel
theorem dX3_read_80 : decode cX3_read 80 = .ok (.iastore, 1) := by decide +kernel
theorem dX3_read_81 : decode cX3_read 81 = .ok (.aload_n 0, 1) := by decide +kernel
theorem dX3_read_82 : decode cX3_read 82 = .ok (.iload 7, 2) := by decide +kernel
theorem dX3_read_84 : decode cX3_read 84 = .ok (.iconst 1, 1) := by decide +kernel
theorem dX3_read_85 : decode cX3_read 85 = .ok (.iadd, 1) := by decide +kernel
theorem dX3_read_86 : decode cX3_read 86 = .ok (.putfield 15, 3) := by decide +kernel
theorem dX3_read_89 : decode cX3_read 89 = .ok (.iload 6, 2) := by decide +kernel
theorem dX3_read_91 : decode cX3_read 91 = .ok (.iload 8, 2) := by decide +kernel
theorem dX3_read_93 : decode cX3_read 93 = .ok (.iadd, 1) := by decide +kernel
theorem dX3_read_94 : decode cX3_read 94 = .ok (.istore 6, 2) := by decide +kernel
theorem dX3_read_96 : decode cX3_read 96 = .ok (.aload_n 0, 1) := by decide +kernel
theorem dX3_read_97 : decode cX3_read 97 = .ok (.getfield 9, 3) := by decide +kernel
theorem dX3_read_100 : decode cX3_read 100 = .ok (.iload 7, 2) := by decide +kernel
theorem dX3_read_102 : decode cX3_read 102 = .ok (.iaload, 1) := by decide +kernel
theorem dX3_read_103 : decode cX3_read 103 = .ok (.ifCond .ne 8, 3) := by decide +kernel
theorem dX3_read_106 : decode cX3_read 106 = .ok (.iload 6, 2) := by decide +kernel
theorem dX3_read_108 : decode cX3_read 108 = .ok (.iconst 1, 1) := by decide +kernel
theorem dX3_read_109 : decode cX3_read 109 = .ok (.isub, 1) := by decide +kernel
theorem dX3_read_110 : decode cX3_read 110 = .ok (.ireturn, 1) := by decide +kernel
theorem dX3_read_111 : decode cX3_read 111 = .ok (.iload 6, 2) := by decide +kernel
theorem dX3_read_113 : decode cX3_read 113 = .ok (.iload 5, 2) := by decide +kernel
theorem dX3_read_115 : decode cX3_read 115 = .ok (.if_icmp .ne 19, 3) := by decide +kernel
theorem dX3_read_118 : decode cX3_read 118 = .ok (.aload_n 1, 1) := by decide +kernel
theorem dX3_read_119 : decode cX3_read 119 = .ok (.getfield 19, 3) := by decide +kernel
theorem dX3_read_122 : decode cX3_read 122 = .ok (.iload 5, 2) := by decide +kernel
theorem dX3_read_124 : decode cX3_read 124 = .ok (.if_icmp .le 8, 3) := by decide +kernel
theorem dX3_read_127 : decode cX3_read 127 = .ok (.iload 5, 2) := by decide +kernel
theorem dX3_read_129 : decode cX3_read 129 = .ok (.goto 4, 3) := by decide +kernel
theorem dX3_read_132 : decode cX3_read 132 = .ok (.iconst (-1), 1) := by decide +kernel
theorem dX3_read_133 : decode cX3_read 133 = .ok (.ireturn, 1) := by decide +kernel
theorem dX3_read_134 : decode cX3_read 134 = .ok (.aload_n 1, 1) := by decide +kernel
theorem dX3_read_135 : decode cX3_read 135 = .ok (.iload 6, 2) := by decide +kernel
theorem dX3_read_137 : decode cX3_read 137 = .ok (.iload 5, 2) := by decide +kernel
theorem dX3_read_139 : decode cX3_read 139 = .ok (.invokevirtual 37, 3) := by decide +kernel
theorem dX3_read_142 : decode cX3_read 142 = .ok (.bipush 59, 2) := by decide +kernel
theorem dX3_read_144 : decode cX3_read 144 = .ok (.if_icmp .eq 6, 3) := by decide +kernel
theorem dX3_read_147 : decode cX3_read 147 = .ok (.iload 6, 2) := by decide +kernel
theorem dX3_read_149 : decode cX3_read 149 = .ok (.ireturn, 1) := by decide +kernel
theorem dX3_read_150 : decode cX3_read 150 = .ok (.iinc 6 1, 3) := by decide +kernel
theorem dX3_read_153 : decode cX3_read 153 = .ok (.iinc 7 1, 3) := by decide +kernel
theorem dX3_read_156 : decode cX3_read 156 = .ok (.goto (-126), 3) := by decide +kernel
theorem dX3_read_159 : decode cX3_read 159 = .ok (.iload 6, 2) := by decide +kernel
theorem dX3_read_161 : decode cX3_read 161 = .ok (.ireturn, 1) := by decide +kernel
theorem dX3_sum_0 : decode cX3_sum 0 = .ok (.iconst 0, 1) := by decide +kernel
theorem dX3_sum_1 : decode cX3_sum 1 = .ok (.istore_n 2, 1) := by decide +kernel
theorem dX3_sum_2 : decode cX3_sum 2 = .ok (.iconst 0, 1) := by decide +kernel
theorem dX3_sum_3 : decode cX3_sum 3 = .ok (.istore_n 3, 1) := by decide +kernel
theorem dX3_sum_4 : decode cX3_sum 4 = .ok (.iload_n 3, 1) := by decide +kernel
theorem dX3_sum_5 : decode cX3_sum 5 = .ok (.aload_n 0, 1) := by decide +kernel
theorem dX3_sum_6 : decode cX3_sum 6 = .ok (.getfield 15, 3) := by decide +kernel
theorem dX3_sum_9 : decode cX3_sum 9 = .ok (.if_icmp .ge 24, 3) := by decide +kernel
theorem dX3_sum_12 : decode cX3_sum 12 = .ok (.iload_n 2, 1) := by decide +kernel
theorem dX3_sum_13 : decode cX3_sum 13 = .ok (.iload_n 1, 1) := by decide +kernel
theorem dX3_sum_14 : decode cX3_sum 14 = .ok (.iload_n 3, 1) := by decide +kernel
theorem dX3_sum_15 : decode cX3_sum 15 = .ok (.ishr, 1) := by decide +kernel
theorem dX3_sum_16 : decode cX3_sum 16 = .ok (.iconst 1, 1) := by decide +kernel
theorem dX3_sum_17 : decode cX3_sum 17 = .ok (.iand, 1) := by decide +kernel
theorem dX3_sum_18 : decode cX3_sum 18 = .ok (.aload_n 0, 1) := by decide +kernel
theorem dX3_sum_19 : decode cX3_sum 19 = .ok (.getfield 9, 3) := by decide +kernel
theorem dX3_sum_22 : decode cX3_sum 22 = .ok (.iload_n 3, 1) := by decide +kernel
theorem dX3_sum_23 : decode cX3_sum 23 = .ok (.iaload, 1) := by decide +kernel
theorem dX3_sum_24 : decode cX3_sum 24 = .ok (.imul, 1) := by decide +kernel
theorem dX3_sum_25 : decode cX3_sum 25 = .ok (.iadd, 1) := by decide +kernel
theorem dX3_sum_26 : decode cX3_sum 26 = .ok (.istore_n 2, 1) := by decide +kernel
theorem dX3_sum_27 : decode cX3_sum 27 = .ok (.iinc 3 1, 3) := by decide +kernel
theorem dX3_sum_30 : decode cX3_sum 30 = .ok (.goto (-26), 3) := by decide +kernel
theorem dX3_sum_33 : decode cX3_sum 33 = .ok (.iload_n 2, 1) := by decide +kernel
theorem dX3_sum_34 : decode cX3_sum 34 = .ok (.ireturn, 1) := by decide +kernel
theorem dX4_init_0 : decode cX4_init 0 = .ok (.aload_n 0, 1) := by decide +kernel
theorem dX4_init_1 : decode cX4_init 1 = .ok (.invokespecial 1, 3) := by decide +kernel
theorem dX4_init_4 : decode cX4_init 4 = .ok (.aload_n 0, 1) := by decide +kernel
theorem dX4_init_5 : decode cX4_init 5 = .ok (.iconst 0, 1) := by decide +kernel
theorem dX4_init_6 : decode cX4_init 6 = .ok (.putfield 7, 3) := by decide +kernel
theorem dX4_init_9 : decode cX4_init 9 = .ok (.return_, 1) := by decide +kernel
theorem dX4_begin_0 : decode cX4_begin 0 = .ok (.aload_n 0, 1) := by decide +kernel
theorem dX4_begin_1 : decode cX4_begin 1 = .ok (.iload_n 1, 1) := by decide +kernel
theorem dX4_begin_2 : decode cX4_begin 2 = .ok (.putfield 7, 3) := by decide +kernel
theorem dX4_begin_5 : decode cX4_begin 5 = .ok (.return_, 1) := by decide +kernel
theorem dX4_draw_0 : decode cX4_draw 0 = .ok (.aload_n 0, 1) := by decide +kernel
theorem dX4_draw_1 : decode cX4_draw 1 = .ok (.aload_n 0, 1) := by decide +kernel
theorem dX4_draw_2 : decode cX4_draw 2 = .ok (.getfield 7, 3) := by decide +kernel
theorem dX4_draw_5 : decode cX4_draw 5 = .ok (.ldc 13, 2) := by decide +kernel
theorem dX4_draw_7 : decode cX4_draw 7 = .ok (.imul, 1) := by decide +kernel
theorem dX4_draw_8 : decode cX4_draw 8 = .ok (.sipush 12345, 3) := by decide +kernel
theorem dX4_draw_11 : decode cX4_draw 11 = .ok (.iadd, 1) := by decide +kernel
theorem dX4_draw_12 : decode cX4_draw 12 = .ok (.putfield 7, 3) := by decide +kernel
theorem dX4_draw_15 : decode cX4_draw 15 = .ok (.iload_n 1, 1) := by decide +kernel
theorem dX4_draw_16 : decode cX4_draw 16 = .ok (.ifCond .gt 7, 3) := by decide +kernel
theorem dX4_draw_19 : decode cX4_draw 19 = .ok (.iconst 0, 1) := by decide +kernel
theorem dX4_draw_20 : decode cX4_draw 20 = .ok (.goto 12, 3) := by decide +kernel
theorem dX4_draw_23 : decode cX4_draw 23 = .ok (.aload_n 0, 1) := by decide +kernel
theorem dX4_draw_24 : decode cX4_draw 24 = .ok (.getfield 7, 3) := by decide +kernel
theorem dX4_draw_27 : decode cX4_draw 27 = .ok (.bipush 16, 2) := by decide +kernel
theorem dX4_draw_29 : decode cX4_draw 29 = .ok (.iushr, 1) := by decide +kernel
theorem dX4_draw_30 : decode cX4_draw 30 = .ok (.iload_n 1, 1) := by decide +kernel
theorem dX4_draw_31 : decode cX4_draw 31 = .ok (.irem, 1) := by decide +kernel
theorem dX4_draw_32 : decode cX4_draw 32 = .ok (.ireturn, 1) := by decide +kernel
theorem dX5_init_0 : decode cX5_init 0 = .ok (.aload_n 0, 1) := by decide +kernel
theorem dX5_init_1 : decode cX5_init 1 = .ok (.invokespecial 3, 3) := by decide +kernel
theorem dX5_init_4 : decode cX5_init 4 = .ok (.aload_n 0, 1) := by decide +kernel
theorem dX5_init_5 : decode cX5_init 5 = .ok (.bipush 15, 2) := by decide +kernel
theorem dX5_init_7 : decode cX5_init 7 = .ok (.anewarray 9, 3) := by decide +kernel
theorem dX5_init_10 : decode cX5_init 10 = .ok (.putfield 11, 3) := by decide +kernel
theorem dX5_init_13 : decode cX5_init 13 = .ok (.aload_n 0, 1) := by decide +kernel
theorem dX5_init_14 : decode cX5_init 14 = .ok (.iconst 0, 1) := by decide +kernel
theorem dX5_init_15 : decode cX5_init 15 = .ok (.putfield 17, 3) := by decide +kernel
theorem dX5_init_18 : decode cX5_init 18 = .ok (.aload_n 0, 1) := by decide +kernel
theorem dX5_init_19 : decode cX5_init 19 = .ok (.iconst 0, 1) := by decide +kernel
theorem dX5_init_20 : decode cX5_init 20 = .ok (.putfield 21, 3) := by decide +kernel
theorem dX5_init_23 : decode cX5_init 23 = .ok (.iconst 0, 1) := by decide +kernel
theorem dX5_init_24 : decode cX5_init 24 = .ok (.istore_n 1, 1) := by decide +kernel
theorem dX5_init_25 : decode cX5_init 25 = .ok (.iload_n 1, 1) := by decide +kernel
theorem dX5_init_26 : decode cX5_init 26 = .ok (.aload_n 0, 1) := by decide +kernel
theorem dX5_init_27 : decode cX5_init 27 = .ok (.getfield 11, 3) := by decide +kernel
theorem dX5_init_30 : decode cX5_init 30 = .ok (.arraylength, 1) := by decide +kernel
theorem dX5_init_31 : decode cX5_init 31 = .ok (.if_icmp .ge 22, 3) := by decide +kernel
theorem dX5_init_34 : decode cX5_init 34 = .ok (.aload_n 0, 1) := by decide +kernel
theorem dX5_init_35 : decode cX5_init 35 = .ok (.getfield 11, 3) := by decide +kernel
theorem dX5_init_38 : decode cX5_init 38 = .ok (.iload_n 1, 1) := by decide +kernel
theorem dX5_init_39 : decode cX5_init 39 = .ok (.new 9, 3) := by decide +kernel
theorem dX5_init_42 : decode cX5_init 42 = .ok (.dup, 1) := by decide +kernel
theorem dX5_init_43 : decode cX5_init 43 = .ok (.invokespecial 24, 3) := by decide +kernel
theorem dX5_init_46 : decode cX5_init 46 = .ok (.aastore, 1) := by decide +kernel
theorem dX5_init_47 : decode cX5_init 47 = .ok (.iinc 1 1, 3) := by decide +kernel
theorem dX5_init_50 : decode cX5_init 50 = .ok (.goto (-25), 3) := by decide +kernel
theorem dX5_init_53 : decode cX5_init 53 = .ok (.return_, 1) := by decide +kernel
theorem dX5_put_0 : decode cX5_put 0 = .ok (.aload_n 0, 1) := by decide +kernel
theorem dX5_put_1 : decode cX5_put 1 = .ok (.getfield 11, 3) := by decide +kernel
theorem dX5_put_4 : decode cX5_put 4 = .ok (.aload_n 0, 1) := by decide +kernel
theorem dX5_put_5 : decode cX5_put 5 = .ok (.getfield 17, 3) := by decide +kernel
theorem dX5_put_8 : decode cX5_put 8 = .ok (.aaload, 1) := by decide +kernel
theorem dX5_put_9 : decode cX5_put 9 = .ok (.aload_n 1, 1) := by decide +kernel
theorem dX5_put_10 : decode cX5_put 10 = .ok (.invokevirtual 25, 3) := by decide +kernel
theorem dX5_put_13 : decode cX5_put 13 = .ok (.aload_n 0, 1) := by decide +kernel
theorem dX5_put_14 : decode cX5_put 14 = .ok (.aload_n 0, 1) := by decide +kernel
theorem dX5_put_15 : decode cX5_put 15 = .ok (.getfield 17, 3) := by decide +kernel
theorem dX5_put_18 : decode cX5_put 18 = .ok (.bipush 14, 2) := by decide +kernel
theorem dX5_put_20 : decode cX5_put 20 = .ok (.if_icmp .ne 7, 3) := by decide +kernel
theorem dX5_put_23 : decode cX5_put 23 = .ok (.iconst 0, 1) := by decide +kernel
theorem dX5_put_24 : decode cX5_put 24 = .ok (.goto 9, 3) := by decide +kernel
theorem dX5_put_27 : decode cX5_put 27 = .ok (.aload_n 0, 1) := by decide +kernel
theorem dX5_put_28 : decode cX5_put 28 = .ok (.getfield 17, 3) := by decide +kernel
theorem dX5_put_31 : decode cX5_put 31 = .ok (.iconst 1, 1) := by decide +kernel
theorem dX5_put_32 : decode cX5_put 32 = .ok (.iadd, 1) := by decide +kernel
theorem dX5_put_33 : decode cX5_put 33 = .ok (.putfield 17, 3) := by decide +kernel
theorem dX5_put_36 : decode cX5_put 36 = .ok (.aload_n 0, 1) := by decide +kernel
theorem dX5_put_37 : decode cX5_put 37 = .ok (.bipush 15, 2) := by decide +kernel
theorem dX5_put_39 : decode cX5_put 39 = .ok (.aload_n 0, 1) := by decide +kernel
theorem dX5_put_40 : decode cX5_put 40 = .ok (.getfield 21, 3) := by decide +kernel
theorem dX5_put_43 : decode cX5_put 43 = .ok (.iconst 1, 1) := by decide +kernel
theorem dX5_put_44 : decode cX5_put 44 = .ok (.iadd, 1) := by decide +kernel
theorem dX5_put_45 : decode cX5_put 45 = .ok (.invokestatic 29, 3) := by decide +kernel
theorem dX5_put_48 : decode cX5_put 48 = .ok (.putfield 21, 3) := by decide +kernel
theorem dX5_put_51 : decode cX5_put 51 = .ok (.return_, 1) := by decide +kernel
theorem dX5_giveBack_0 : decode cX5_giveBack 0 = .ok (.aload_n 0, 1) := by decide +kernel
theorem dX5_giveBack_1 : decode cX5_giveBack 1 = .ok (.getfield 21, 3) := by decide +kernel
theorem dX5_giveBack_4 : decode cX5_giveBack 4 = .ok (.ifCond .ne 5, 3) := by decide +kernel
theorem dX5_giveBack_7 : decode cX5_giveBack 7 = .ok (.iconst 0, 1) := by decide +kernel
theorem dX5_giveBack_8 : decode cX5_giveBack 8 = .ok (.ireturn, 1) := by decide +kernel
theorem dX5_giveBack_9 : decode cX5_giveBack 9 = .ok (.aload_n 0, 1) := by decide +kernel
theorem dX5_giveBack_10 : decode cX5_giveBack 10 = .ok (.aload_n 0, 1) := by decide +kernel
theorem dX5_giveBack_11 : decode cX5_giveBack 11 = .ok (.getfield 17, 3) := by decide +kernel
theorem dX5_giveBack_14 : decode cX5_giveBack 14 = .ok (.ifCond .ne 8, 3) := by decide +kernel
theorem dX5_giveBack_17 : decode cX5_giveBack 17 = .ok (.bipush 14, 2) := by decide +kernel
theorem dX5_giveBack_19 : decode cX5_giveBack 19 = .ok (.goto 9, 3) := by decide +kernel
theorem dX5_giveBack_22 : decode cX5_giveBack 22 = .ok (.aload_n 0, 1) := by decide +kernel
theorem dX5_giveBack_23 : decode cX5_giveBack 23 = .ok (.getfield 17, 3) := by decide +kernel
theorem dX5_giveBack_26 : decode cX5_giveBack 26 = .ok (.iconst 1, 1) := by decide +kernel
theorem dX5_giveBack_27 : decode cX5_giveBack 27 = .ok (.isub, 1) := by decide +kernel
theorem dX5_giveBack_28 : decode cX5_giveBack 28 = .ok (.putfield 17, 3) := by decide +kernel
theorem dX5_giveBack_31 : decode cX5_giveBack 31 = .ok (.aload_n 0, 1) := by decide +kernel
theorem dX5_giveBack_32 : decode cX5_giveBack 32 = .ok (.dup, 1) := by decide +kernel
theorem dX5_giveBack_33 : decode cX5_giveBack 33 = .ok (.getfield 21, 3) := by decide +kernel
theorem dX5_giveBack_36 : decode cX5_giveBack 36 = .ok (.iconst 1, 1) := by decide +kernel
theorem dX5_giveBack_37 : decode cX5_giveBack 37 = .ok (.isub, 1) := by decide +kernel
theorem dX5_giveBack_38 : decode cX5_giveBack 38 = .ok (.putfield 21, 3) := by decide +kernel
theorem dX5_giveBack_41 : decode cX5_giveBack 41 = .ok (.aload_n 1, 1) := by decide +kernel
theorem dX5_giveBack_42 : decode cX5_giveBack 42 = .ok (.aload_n 0, 1) := by decide +kernel
theorem dX5_giveBack_43 : decode cX5_giveBack 43 = .ok (.getfield 11, 3) := by decide +kernel
theorem dX5_giveBack_46 : decode cX5_giveBack 46 = .ok (.aload_n 0, 1) := by decide +kernel
theorem dX5_giveBack_47 : decode cX5_giveBack 47 = .ok (.getfield 17, 3) := by decide +kernel
theorem dX5_giveBack_50 : decode cX5_giveBack 50 = .ok (.aaload, 1) := by decide +kernel
theorem dX5_giveBack_51 : decode cX5_giveBack 51 = .ok (.invokevirtual 25, 3) := by decide +kernel
theorem dX5_giveBack_54 : decode cX5_giveBack 54 = .ok (.iconst 1, 1) := by decide +kernel
theorem dX5_giveBack_55 : decode cX5_giveBack 55 = .ok (.ireturn, 1) := by decide +kernel
theorem dX5_clear_0 : decode cX5_clear 0 = .ok (.aload_n 0, 1) := by decide +kernel
theorem dX5_clear_1 : decode cX5_clear 1 = .ok (.iconst 0, 1) := by decide +kernel
theorem dX5_clear_2 : decode cX5_clear 2 = .ok (.putfield 21, 3) := by decide +kernel
theorem dX5_clear_5 : decode cX5_clear 5 = .ok (.return_, 1) := by decide +kernel
theorem dX6_init_0 : decode cX6_init 0 = .ok (.aload_n 0, 1) := by decide +kernel
theorem dX6_init_1 : decode cX6_init 1 = .ok (.invokespecial 3, 3) := by decide +kernel
theorem dX6_init_4 : decode cX6_init 4 = .ok (.aload_n 0, 1) := by decide +kernel
theorem dX6_init_5 : decode cX6_init 5 = .ok (.bipush 6, 2) := by decide +kernel
theorem dX6_init_7 : decode cX6_init 7 = .ok (.newarray .long, 2) := by decide +kernel
theorem dX6_init_9 : decode cX6_init 9 = .ok (.putfield 9, 3) := by decide +kernel
theorem dX6_init_12 : decode cX6_init 12 = .ok (.aload_n 0, 1) := by decide +kernel
theorem dX6_init_13 : decode cX6_init 13 = .ok (.iconst 0, 1) := by decide +kernel
theorem dX6_init_14 : decode cX6_init 14 = .ok (.putfield 15, 3) := by decide +kernel
theorem dX6_init_17 : decode cX6_init 17 = .ok (.return_, 1) := by decide +kernel
theorem dX6_clear_0 : decode cX6_clear 0 = .ok (.aload_n 0, 1) := by decide +kernel
theorem dX6_clear_1 : decode cX6_clear 1 = .ok (.iconst 0, 1) := by decide +kernel
theorem dX6_clear_2 : decode cX6_clear 2 = .ok (.putfield 15, 3) := by decide +kernel
theorem dX6_clear_5 : decode cX6_clear 5 = .ok (.return_, 1) := by decide +kernel
theorem dX6_add_0 : decode cX6_add 0 = .ok (.aload_n 0, 1) := by decide +kernel
theorem dX6_add_1 : decode cX6_add 1 = .ok (.getfield 15, 3) := by decide +kernel
theorem dX6_add_4 : decode cX6_add 4 = .ok (.aload_n 0, 1) := by decide +kernel
theorem dX6_add_5 : decode cX6_add 5 = .ok (.getfield 9, 3) := by decide +kernel
theorem dX6_add_8 : decode cX6_add 8 = .ok (.arraylength, 1) := by decide +kernel
theorem dX6_add_9 : decode cX6_add 9 = .ok (.if_icmp .ge 23, 3) := by decide +kernel
theorem dX6_add_12 : decode cX6_add 12 = .ok (.aload_n 0, 1) := by decide +kernel
theorem dX6_add_13 : decode cX6_add 13 = .ok (.getfield 9, 3) := by decide +kernel
theorem dX6_add_16 : decode cX6_add 16 = .ok (.aload_n 0, 1) := by decide +kernel
theorem dX6_add_17 : decode cX6_add 17 = .ok (.getfield 15, 3) := by decide +kernel
theorem dX6_add_20 : decode cX6_add 20 = .ok (.lload_n 1, 1) := by decide +kernel
theorem dX6_add_21 : decode cX6_add 21 = .ok (.lastore, 1) := by decide +kernel
theorem dX6_add_22 : decode cX6_add 22 = .ok (.aload_n 0, 1) := by decide +kernel
theorem dX6_add_23 : decode cX6_add 23 = .ok (.dup, 1) := by decide +kernel
theorem dX6_add_24 : decode cX6_add 24 = .ok (.getfield 15, 3) := by decide +kernel
theorem dX6_add_27 : decode cX6_add 27 = .ok (.iconst 1, 1) := by decide +kernel
theorem dX6_add_28 : decode cX6_add 28 = .ok (.iadd, 1) := by decide +kernel
theorem dX6_add_29 : decode cX6_add 29 = .ok (.putfield 15, 3) := by decide +kernel
theorem dX6_add_32 : decode cX6_add 32 = .ok (.return_, 1) := by decide +kernel
theorem dX6_tell_0 : decode cX6_tell 0 = .ok (.aload_n 0, 1) := by decide +kernel
theorem dX6_tell_1 : decode cX6_tell 1 = .ok (.iconst 0, 1) := by decide +kernel
theorem dX6_tell_2 : decode cX6_tell 2 = .ok (.putfield 15, 3) := by decide +kernel
theorem dX6_tell_5 : decode cX6_tell 5 = .ok (.aload_n 0, 1) := by decide +kernel
theorem dX6_tell_6 : decode cX6_tell 6 = .ok (.lload_n 1, 1) := by decide +kernel
theorem dX6_tell_7 : decode cX6_tell 7 = .ok (.invokevirtual 19, 3) := by decide +kernel
theorem dX6_tell_10 : decode cX6_tell 10 = .ok (.return_, 1) := by decide +kernel
theorem dX6_tell__0 : decode cX6_tell_ 0 = .ok (.aload_n 0, 1) := by decide +kernel
theorem dX6_tell__1 : decode cX6_tell_ 1 = .ok (.iconst 0, 1) := by decide +kernel
theorem dX6_tell__2 : decode cX6_tell_ 2 = .ok (.putfield 15, 3) := by decide +kernel
theorem dX6_tell__5 : decode cX6_tell_ 5 = .ok (.aload_n 0, 1) := by decide +kernel
theorem dX6_tell__6 : decode cX6_tell_ 6 = .ok (.lload_n 1, 1) := by decide +kernel
theorem dX6_tell__7 : decode cX6_tell_ 7 = .ok (.invokevirtual 19, 3) := by decide +kernel
theorem dX6_tell__10 : decode cX6_tell_ 10 = .ok (.aload_n 0, 1) := by decide +kernel
theorem dX6_tell__11 : decode cX6_tell_ 11 = .ok (.lload_n 3, 1) := by decide +kernel
theorem dX6_tell__12 : decode cX6_tell_ 12 = .ok (.invokevirtual 19, 3) := by decide +kernel
theorem dX6_tell__15 : decode cX6_tell_ 15 = .ok (.return_, 1) := by decide +kernel
theorem dX7_init_0 : decode cX7_init 0 = .ok (.aload_n 0, 1) := by decide +kernel
theorem dX7_init_1 : decode cX7_init 1 = .ok (.invokespecial 3, 3) := by decide +kernel
theorem dX7_init_4 : decode cX7_init 4 = .ok (.aload_n 0, 1) := by decide +kernel
theorem dX7_init_5 : decode cX7_init 5 = .ok (.bipush 40, 2) := by decide +kernel
theorem dX7_init_7 : decode cX7_init 7 = .ok (.newarray .int, 2) := by decide +kernel
theorem dX7_init_9 : decode cX7_init 9 = .ok (.putfield 9, 3) := by decide +kernel
theorem dX7_init_12 : decode cX7_init 12 = .ok (.aload_n 0, 1) := by decide +kernel
theorem dX7_init_13 : decode cX7_init 13 = .ok (.bipush 40, 2) := by decide +kernel
theorem dX7_init_15 : decode cX7_init 15 = .ok (.newarray .int, 2) := by decide +kernel
theorem dX7_init_17 : decode cX7_init 17 = .ok (.putfield 15, 3) := by decide +kernel
theorem dX7_init_20 : decode cX7_init 20 = .ok (.aload_n 0, 1) := by decide +kernel
theorem dX7_init_21 : decode cX7_init 21 = .ok (.bipush 40, 2) := by decide +kernel
theorem dX7_init_23 : decode cX7_init 23 = .ok (.newarray .int, 2) := by decide +kernel
theorem dX7_init_25 : decode cX7_init 25 = .ok (.putfield 18, 3) := by decide +kernel
theorem dX7_init_28 : decode cX7_init 28 = .ok (.aload_n 0, 1) := by decide +kernel
theorem dX7_init_29 : decode cX7_init 29 = .ok (.bipush 6, 2) := by decide +kernel
theorem dX7_init_31 : decode cX7_init 31 = .ok (.newarray .int, 2) := by decide +kernel
theorem dX7_init_33 : decode cX7_init 33 = .ok (.putfield 21, 3) := by decide +kernel
theorem dX7_init_36 : decode cX7_init 36 = .ok (.aload_n 0, 1) := by decide +kernel
theorem dX7_init_37 : decode cX7_init 37 = .ok (.iconst 5, 1) := by decide +kernel
theorem dX7_init_38 : decode cX7_init 38 = .ok (.newarray .boolean, 2) := by decide +kernel
theorem dX7_init_40 : decode cX7_init 40 = .ok (.putfield 24, 3) := by decide +kernel
theorem dX7_init_43 : decode cX7_init 43 = .ok (.aload_n 0, 1) := by decide +kernel
theorem dX7_init_44 : decode cX7_init 44 = .ok (.invokevirtual 28, 3) := by decide +kernel
theorem dX7_init_47 : decode cX7_init 47 = .ok (.return_, 1) := by decide +kernel
theorem dX7_beFirstRule_0 : decode cX7_beFirstRule 0 = .ok (.aload_n 0, 1) := by decide +kernel
theorem dX7_beFirstRule_1 : decode cX7_beFirstRule 1 = .ok (.getstatic 31, 3) := by decide +kernel
theorem dX7_beFirstRule_4 : decode cX7_beFirstRule 4 = .ok (.arraylength, 1) := by decide +kernel
theorem dX7_beFirstRule_5 : decode cX7_beFirstRule 5 = .ok (.putfield 34, 3) := by decide +kernel
theorem dX7_beFirstRule_8 : decode cX7_beFirstRule 8 = .ok (.getstatic 31, 3) := by decide +kernel
theorem dX7_beFirstRule_11 : decode cX7_beFirstRule 11 = .ok (.iconst 0, 1) := by decide +kernel
theorem dX7_beFirstRule_12 : decode cX7_beFirstRule 12 = .ok (.aload_n 0, 1) := by decide +kernel
theorem dX7_beFirstRule_13 : decode cX7_beFirstRule 13 = .ok (.getfield 9, 3) := by decide +kernel
theorem dX7_beFirstRule_16 : decode cX7_beFirstRule 16 = .ok (.iconst 0, 1) := by decide +kernel
theorem dX7_beFirstRule_17 : decode cX7_beFirstRule 17 = .ok (.aload_n 0, 1) := by decide +kernel
theorem dX7_beFirstRule_18 : decode cX7_beFirstRule 18 = .ok (.getfield 34, 3) := by decide +kernel
theorem dX7_beFirstRule_21 : decode cX7_beFirstRule 21 = .ok (.invokestatic 38, 3) := by decide +kernel
theorem dX7_beFirstRule_24 : decode cX7_beFirstRule 24 = .ok (.return_, 1) := by decide +kernel
theorem dX7_read_0 : decode cX7_read 0 = .ok (.aload_n 1, 1) := by decide +kernel
theorem dX7_read_1 : decode cX7_read 1 = .ok (.getfield 44, 3) := by decide +kernel
theorem dX7_read_4 : decode cX7_read 4 = .ok (.ifCond .ne 9, 3) := by decide +kernel
theorem dX7_read_7 : decode cX7_read 7 = .ok (.aload_n 0, 1) := by decide +kernel
theorem dX7_read_8 : decode cX7_read 8 = .ok (.invokevirtual 28, 3) := by decide +kernel
theorem dX7_read_11 : decode cX7_read 11 = .ok (.iconst (-1), 1) := by decide +kernel
theorem dX7_read_12 : decode cX7_read 12 = .ok (.ireturn, 1) := by decide +kernel
theorem dX7_read_13 : decode cX7_read 13 = .ok (.aload_n 1, 1) := by decide +kernel
theorem dX7_read_14 : decode cX7_read 14 = .ok (.getfield 44, 3) := by decide +kernel
theorem dX7_read_17 : decode cX7_read 17 = .ok (.bipush 40, 2) := by decide +kernel
theorem dX7_read_19 : decode cX7_read 19 = .ok (.invokestatic 49, 3) := by decide +kernel
theorem dX7_read_22 : decode cX7_read 22 = .ok (.istore_n 2, 1) := by decide +kernel
theorem dX7_read_23 : decode cX7_read 23 = .ok (.aload_n 0, 1) := by decide +kernel
theorem dX7_read_24 : decode cX7_read 24 = .ok (.iconst 0, 1) := by decide +kernel
theorem dX7_read_25 : decode cX7_read 25 = .ok (.putfield 34, 3) := by decide +kernel
theorem dX7_read_28 : decode cX7_read 28 = .ok (.aload_n 0, 1) := by decide +kernel
theorem dX7_read_29 : decode cX7_read 29 = .ok (.iconst 0, 1) := by decide +kernel
theorem dX7_read_30 : decode cX7_read 30 = .ok (.putfield 55, 3) := by decide +kernel
theorem dX7_read_33 : decode cX7_read 33 = .ok (.aload_n 0, 1) := by decide +kernel
theorem dX7_read_34 : decode cX7_read 34 = .ok (.iconst 0, 1) := by decide +kernel
theorem dX7_read_35 : decode cX7_read 35 = .ok (.putfield 58, 3) := by decide +kernel
theorem dX7_read_38 : decode cX7_read 38 = .ok (.aload_n 0, 1) := by decide +kernel
theorem dX7_read_39 : decode cX7_read 39 = .ok (.getfield 24, 3) := by decide +kernel
theorem dX7_read_42 : decode cX7_read 42 = .ok (.iconst 0, 1) := by decide +kernel
theorem dX7_read_43 : decode cX7_read 43 = .ok (.iconst 0, 1) := by decide +kernel
theorem dX7_read_44 : decode cX7_read 44 = .ok (.bastore, 1) := by decide +kernel
theorem dX7_read_45 : decode cX7_read 45 = .ok (.aload_n 0, 1) := by decide +kernel
theorem dX7_read_46 : decode cX7_read 46 = .ok (.iconst 1, 1) := by decide +kernel
theorem dX7_read_47 : decode cX7_read 47 = .ok (.putfield 61, 3) := by decide +kernel
theorem dX7_read_50 : decode cX7_read 50 = .ok (.iconst 0, 1) := by decide +kernel
theorem dX7_read_51 : decode cX7_read 51 = .ok (.istore_n 3, 1) := by decide +kernel
theorem dX7_read_52 : decode cX7_read 52 = .ok (.iload_n 3, 1) := by decide +kernel
theorem dX7_read_53 : decode cX7_read 53 = .ok (.iload_n 2, 1) := by decide +kernel
theorem dX7_read_54 : decode cX7_read 54 = .ok (.if_icmp .ge 47, 3) := by decide +kernel
theorem dX7_read_57 : decode cX7_read 57 = .ok (.aload_n 0, 1) := by decide +kernel
theorem dX7_read_58 : decode cX7_read 58 = .ok (.getfield 61, 3) := by decide +kernel
theorem dX7_read_61 : decode cX7_read 61 = .ok (.ifCond .eq 13, 3) := by decide +kernel
theorem dX7_read_64 : decode cX7_read 64 = .ok (.aload_n 0, 1) := by decide +kernel
theorem dX7_read_65 : decode cX7_read 65 = .ok (.aload_n 1, 1) := by decide +kernel
theorem dX7_read_66 : decode cX7_read 66 = .ok (.iload_n 3, 1) := by decide +kernel
theorem dX7_read_67 : decode cX7_read 67 = .ok (.iload_n 2, 1) := by decide +kernel
theorem dX7_read_68 : decode cX7_read 68 = .ok (.invokevirtual 65, 3) := by decide +kernel
theorem dX7_read_71 : decode cX7_read 71 = .ok (.goto 13, 3) := by decide +kernel
theorem dX7_read_74 : decode cX7_read 74 = .ok (.aload_n 0, 1) := by decide +kernel
theorem dX7_read_75 : decode cX7_read 75 = .ok (.aload_n 1, 1) := by decide +kernel
theorem dX7_read_76 : decode cX7_read 76 = .ok (.iload_n 3, 1) := by decide +kernel
theorem dX7_read_77 : decode cX7_read 77 = .ok (.iload_n 2, 1) := by decide +kernel
theorem dX7_read_78 : decode cX7_read 78 = .ok (.invokevirtual 69, 3) := by decide +kernel
theorem dX7_read_81 : decode cX7_read 81 = .ok (.invokevirtual 72, 3) := by decide +kernel
theorem dX7_read_84 : decode cX7_read 84 = .ok (.istore 4, 2) := by decide +kernel
theorem dX7_read_86 : decode cX7_read 86 = .ok (.iload 4, 2) := by decide +kernel
theorem dX7_read_88 : decode cX7_read 88 = .ok (.ifCond .gt 5, 3) := by decide +kernel
theorem dX7_read_91 : decode cX7_read 91 = .ok (.iload_n 3, 1) := by decide +kernel
theorem dX7_read_92 : decode cX7_read 92 = .ok (.ireturn, 1) := by decide +kernel
theorem dX7_read_93 : decode cX7_read 93 = .ok (.iload_n 3, 1) := by decide +kernel
theorem dX7_read_94 : decode cX7_read 94 = .ok (.iload 4, 2) := by decide +kernel
theorem dX7_read_96 : decode cX7_read 96 = .ok (.iadd, 1) := by decide +kernel
theorem dX7_read_97 : decode cX7_read 97 = .ok (.istore_n 3, 1) := by decide +kernel
theorem dX7_read_98 : decode cX7_read 98 = .ok (.goto (-46), 3) := by decide +kernel
theorem dX7_read_101 : decode cX7_read 101 = .ok (.aload_n 0, 1) := by decide +kernel
theorem dX7_read_102 : decode cX7_read 102 = .ok (.getfield 61, 3) := by decide +kernel
theorem dX7_read_105 : decode cX7_read 105 = .ok (.ifCond .ne 18, 3) := by decide +kernel
theorem dX7_read_108 : decode cX7_read 108 = .ok (.aload_n 0, 1) := by decide +kernel
theorem dX7_read_109 : decode cX7_read 109 = .ok (.getfield 58, 3) := by decide +kernel
theorem dX7_read_112 : decode cX7_read 112 = .ok (.ifCond .gt 11, 3) := by decide +kernel
theorem dX7_read_115 : decode cX7_read 115 = .ok (.aload_n 1, 1) := by decide +kernel
theorem dX7_read_116 : decode cX7_read 116 = .ok (.getfield 44, 3) := by decide +kernel
theorem dX7_read_119 : decode cX7_read 119 = .ok (.iload_n 2, 1) := by decide +kernel
theorem dX7_read_120 : decode cX7_read 120 = .ok (.if_icmp .le 5, 3) := by decide +kernel
theorem dX7_read_123 : decode cX7_read 123 = .ok (.iload_n 2, 1) := by decide +kernel
theorem dX7_read_124 : decode cX7_read 124 = .ok (.ireturn, 1) := by decide +kernel
theorem dX7_read_125 : decode cX7_read 125 = .ok (.aload_n 0, 1) := by decide +kernel
theorem dX7_read_126 : decode cX7_read 126 = .ok (.iconst 1, 1) := by decide +kernel
theorem dX7_read_127 : decode cX7_read 127 = .ok (.invokevirtual 76, 3) := by decide +kernel
theorem dX7_read_130 : decode cX7_read 130 = .ok (.iconst (-1), 1) := by decide +kernel
theorem dX7_read_131 : decode cX7_read 131 = .ok (.ireturn, 1) := by decide +kernel
theorem dX7_readThing_0 : decode cX7_readThing 0 = .ok (.aload_n 1, 1) := by decide +kernel
theorem dX7_readThing_1 : decode cX7_readThing 1 = .ok (.iload_n 2, 1) := by decide +kernel
theorem dX7_readThing_2 : decode cX7_readThing 2 = .ok (.iload_n 3, 1) := by decide +kernel
theorem dX7_readThing_3 : decode cX7_readThing 3 = .ok (.invokevirtual 69, 3) := by decide +kernel
theorem dX7_readThing_6 : decode cX7_readThing 6 = .ok (.istore 4, 2) := by decide +kernel
theorem dX7_readThing_8 : decode cX7_readThing 8 = .ok (.iload 4, 2) := by decide +kernel
theorem dX7_readThing_10 : decode cX7_readThing 10 = .ok (.bipush 45, 2) := by decide +kernel
theorem dX7_readThing_12 : decode cX7_readThing 12 = .ok (.if_icmp .ne 12, 3) := by decide +kernel
theorem dX7_readThing_15 : decode cX7_readThing 15 = .ok (.aload_n 0, 1) := by decide +kernel
theorem dX7_readThing_16 : decode cX7_readThing 16 = .ok (.sipush 2007, 3) := by decide +kernel
theorem dX7_readThing_19 : decode cX7_readThing 19 = .ok (.invokevirtual 80, 3) := by decide +kernel
theorem dX7_readThing_22 : decode cX7_readThing 22 = .ok (.iconst 1, 1) := by decide +kernel
theorem dX7_readThing_23 : decode cX7_readThing 23 = .ok (.ireturn, 1) := by decide +kernel
theorem dX7_readThing_24 : decode cX7_readThing 24 = .ok (.iload 4, 2) := by decide +kernel
theorem dX7_readThing_26 : decode cX7_readThing 26 = .ok (.bipush 40, 2) := by decide +kernel
theorem dX7_readThing_28 : decode cX7_readThing 28 = .ok (.if_icmp .ne 16, 3) := by decide +kernel
theorem dX7_readThing_31 : decode cX7_readThing 31 = .ok (.aload_n 0, 1) := by decide +kernel
theorem dX7_readThing_32 : decode cX7_readThing 32 = .ok (.invokevirtual 83, 3) := by decide +kernel
theorem dX7_readThing_35 : decode cX7_readThing 35 = .ok (.ifCond .eq 7, 3) := by decide +kernel
theorem dX7_readThing_38 : decode cX7_readThing 38 = .ok (.iconst 1, 1) := by decide +kernel
theorem dX7_readThing_39 : decode cX7_readThing 39 = .ok (.goto 4, 3) := by decide +kernel
theorem dX7_readThing_42 : decode cX7_readThing 42 = .ok (.iconst 0, 1) := by decide +kernel
theorem dX7_readThing_43 : decode cX7_readThing 43 = .ok (.ireturn, 1) := by decide +kernel
theorem dX7_readThing_44 : decode cX7_readThing 44 = .ok (.ldc 87, 2) := by decide +kernel
theorem dX7_readThing_46 : decode cX7_readThing 46 = .ok (.iload 4, 2) := by decide +kernel
theorem dX7_readThing_48 : decode cX7_readThing 48 = .ok (.i2c, 1) := by decide +kernel
theorem dX7_readThing_49 : decode cX7_readThing 49 = .ok (.invokevirtual 89, 3) := by decide +kernel
theorem dX7_readThing_52 : decode cX7_readThing 52 = .ok (.istore 5, 2) := by decide +kernel
theorem dX7_readThing_54 : decode cX7_readThing 54 = .ok (.aload_n 1, 1) := by decide +kernel
theorem dX7_readThing_55 : decode cX7_readThing 55 = .ok (.iload_n 2, 1) := by decide +kernel
theorem dX7_readThing_56 : decode cX7_readThing 56 = .ok (.iconst 3, 1) := by decide +kernel
theorem dX7_readThing_57 : decode cX7_readThing 57 = .ok (.iload_n 3, 1) := by decide +kernel
theorem dX7_readThing_58 : decode cX7_readThing 58 = .ok (.invokevirtual 94, 3) := by decide +kernel
theorem dX7_readThing_61 : decode cX7_readThing 61 = .ok (.istore 6, 2) := by decide +kernel
theorem dX7_readThing_63 : decode cX7_readThing 63 = .ok (.iload 5, 2) := by decide +kernel
theorem dX7_readThing_65 : decode cX7_readThing 65 = .ok (.ifCond .lt 16, 3) := by decide +kernel
theorem dX7_readThing_68 : decode cX7_readThing 68 = .ok (.aload_n 0, 1) := by decide +kernel
theorem dX7_readThing_69 : decode cX7_readThing 69 = .ok (.sipush 1000, 3) := by decide +kernel
theorem dX7_readThing_72 : decode cX7_readThing 72 = .ok (.iload 5, 2) := by decide +kernel
theorem dX7_readThing_74 : decode cX7_readThing 74 = .ok (.iadd, 1) := by decide +kernel
theorem dX7_readThing_75 : decode cX7_readThing 75 = .ok (.invokevirtual 98, 3) := by decide +kernel
theorem dX7_readThing_78 : decode cX7_readThing 78 = .ok (.goto 24, 3) := by decide +kernel
theorem dX7_readThing_81 : decode cX7_readThing 81 = .ok (.iload 6, 2) := by decide +kernel
theorem dX7_readThing_83 : decode cX7_readThing 83 = .ok (.ifCond .le 17, 3) := by decide +kernel
theorem dX7_readThing_86 : decode cX7_readThing 86 = .ok (.aload_n 0, 1) := by decide +kernel
theorem dX7_readThing_87 : decode cX7_readThing 87 = .ok (.aload_n 1, 1) := by decide +kernel
theorem dX7_readThing_88 : decode cX7_readThing 88 = .ok (.iload_n 2, 1) := by decide +kernel
theorem dX7_readThing_89 : decode cX7_readThing 89 = .ok (.iload 6, 2) := by decide +kernel
theorem dX7_readThing_91 : decode cX7_readThing 91 = .ok (.invokevirtual 101, 3) := by decide +kernel
theorem dX7_readThing_94 : decode cX7_readThing 94 = .ok (.invokevirtual 98, 3) := by decide +kernel
theorem dX7_readThing_97 : decode cX7_readThing 97 = .ok (.goto 5, 3) := by decide +kernel
theorem dX7_readThing_100 : decode cX7_readThing 100 = .ok (.iconst 0, 1) := by decide +kernel
theorem dX7_readThing_101 : decode cX7_readThing 101 = .ok (.ireturn, 1) := by decide +kernel
theorem dX7_readThing_102 : decode cX7_readThing 102 = .ok (.aload_n 0, 1) := by decide +kernel
theorem dX7_readThing_103 : decode cX7_readThing 103 = .ok (.iconst 0, 1) := by decide +kernel
theorem dX7_readThing_104 : decode cX7_readThing 104 = .ok (.putfield 61, 3) := by decide +kernel
theorem dX7_readThing_107 : decode cX7_readThing 107 = .ok (.iload 5, 2) := by decide +kernel
theorem dX7_readThing_109 : decode cX7_readThing 109 = .ok (.ifCond .lt 7, 3) := by decide +kernel
theorem dX7_readThing_112 : decode cX7_readThing 112 = .ok (.iconst 1, 1) := by decide +kernel
theorem dX7_readThing_113 : decode cX7_readThing 113 = .ok (.goto 5, 3) := by decide +kernel
theorem dX7_readThing_116 : decode cX7_readThing 116 = .ok (.iload 6, 2) := by decide +kernel
theorem dX7_readThing_118 : decode cX7_readThing 118 = .ok (.ireturn, 1) := by decide +kernel
theorem dX7_readOperator_0 : decode cX7_readOperator 0 = .ok (.iload_n 1, 1) := by decide +kernel
theorem dX7_readOperator_1 : decode cX7_readOperator 1 = .ok (.bipush 41, 2) := by decide +kernel
theorem dX7_readOperator_3 : decode cX7_readOperator 3 = .ok (.if_icmp .ne 16, 3) := by decide +kernel
theorem dX7_readOperator_6 : decode cX7_readOperator 6 = .ok (.aload_n 0, 1) := by decide +kernel
theorem dX7_readOperator_7 : decode cX7_readOperator 7 = .ok (.invokevirtual 104, 3) := by decide +kernel
theorem dX7_readOperator_10 : decode cX7_readOperator 10 = .ok (.ifCond .eq 7, 3) := by decide +kernel
theorem dX7_readOperator_13 : decode cX7_readOperator 13 = .ok (.iconst 1, 1) := by decide +kernel
theorem dX7_readOperator_14 : decode cX7_readOperator 14 = .ok (.goto 4, 3) := by decide +kernel
theorem dX7_readOperator_17 : decode cX7_readOperator 17 = .ok (.iconst 0, 1) := by decide +kernel
theorem dX7_readOperator_18 : decode cX7_readOperator 18 = .ok (.ireturn, 1) := by decide +kernel
theorem dX7_readOperator_19 : decode cX7_readOperator 19 = .ok (.ldc 107, 2) := by decide +kernel
theorem dX7_readOperator_21 : decode cX7_readOperator 21 = .ok (.iload_n 1, 1) := by decide +kernel
theorem dX7_readOperator_22 : decode cX7_readOperator 22 = .ok (.i2c, 1) := by decide +kernel
theorem dX7_readOperator_23 : decode cX7_readOperator 23 = .ok (.invokevirtual 89, 3) := by decide +kernel
theorem dX7_readOperator_26 : decode cX7_readOperator 26 = .ok (.sipush 2000, 3) := by decide +kernel
theorem dX7_readOperator_29 : decode cX7_readOperator 29 = .ok (.iadd, 1) := by decide +kernel
theorem dX7_readOperator_30 : decode cX7_readOperator 30 = .ok (.istore_n 2, 1) := by decide +kernel
theorem dX7_readOperator_31 : decode cX7_readOperator 31 = .ok (.iload_n 2, 1) := by decide +kernel
theorem dX7_readOperator_32 : decode cX7_readOperator 32 = .ok (.sipush 2000, 3) := by decide +kernel
theorem dX7_readOperator_35 : decode cX7_readOperator 35 = .ok (.if_icmp .ge 5, 3) := by decide +kernel
theorem dX7_readOperator_38 : decode cX7_readOperator 38 = .ok (.iconst 0, 1) := by decide +kernel
theorem dX7_readOperator_39 : decode cX7_readOperator 39 = .ok (.ireturn, 1) := by decide +kernel
theorem dX7_readOperator_40 : decode cX7_readOperator 40 = .ok (.iload_n 2, 1) := by decide +kernel
theorem dX7_readOperator_41 : decode cX7_readOperator 41 = .ok (.sipush 2002, 3) := by decide +kernel
theorem dX7_readOperator_44 : decode cX7_readOperator 44 = .ok (.if_icmp .gt 27, 3) := by decide +kernel
theorem dX7_readOperator_47 : decode cX7_readOperator 47 = .ok (.aload_n 0, 1) := by decide +kernel
theorem dX7_readOperator_48 : decode cX7_readOperator 48 = .ok (.getfield 24, 3) := by decide +kernel
theorem dX7_readOperator_51 : decode cX7_readOperator 51 = .ok (.aload_n 0, 1) := by decide +kernel
theorem dX7_readOperator_52 : decode cX7_readOperator 52 = .ok (.getfield 58, 3) := by decide +kernel
theorem dX7_readOperator_55 : decode cX7_readOperator 55 = .ok (.baload, 1) := by decide +kernel
theorem dX7_readOperator_56 : decode cX7_readOperator 56 = .ok (.ifCond .eq 5, 3) := by decide +kernel
theorem dX7_readOperator_59 : decode cX7_readOperator 59 = .ok (.iconst 0, 1) := by decide +kernel
theorem dX7_readOperator_60 : decode cX7_readOperator 60 = .ok (.ireturn, 1) := by decide +kernel
theorem dX7_readOperator_61 : decode cX7_readOperator 61 = .ok (.aload_n 0, 1) := by decide +kernel
theorem dX7_readOperator_62 : decode cX7_readOperator 62 = .ok (.getfield 24, 3) := by decide +kernel
theorem dX7_readOperator_65 : decode cX7_readOperator 65 = .ok (.aload_n 0, 1) := by decide +kernel
theorem dX7_readOperator_66 : decode cX7_readOperator 66 = .ok (.getfield 58, 3) := by decide +kernel
theorem dX7_readOperator_69 : decode cX7_readOperator 69 = .ok (.iconst 1, 1) := by decide +kernel
theorem dX7_readOperator_70 : decode cX7_readOperator 70 = .ok (.bastore, 1) := by decide +kernel
theorem dX7_readOperator_71 : decode cX7_readOperator 71 = .ok (.aload_n 0, 1) := by decide +kernel
theorem dX7_readOperator_72 : decode cX7_readOperator 72 = .ok (.iload_n 2, 1) := by decide +kernel
theorem dX7_readOperator_73 : decode cX7_readOperator 73 = .ok (.invokestatic 109, 3) := by decide +kernel
theorem dX7_readOperator_76 : decode cX7_readOperator 76 = .ok (.invokevirtual 76, 3) := by decide +kernel
theorem dX7_readOperator_79 : decode cX7_readOperator 79 = .ok (.aload_n 0, 1) := by decide +kernel
theorem dX7_readOperator_80 : decode cX7_readOperator 80 = .ok (.iload_n 2, 1) := by decide +kernel
theorem dX7_readOperator_81 : decode cX7_readOperator 81 = .ok (.invokevirtual 80, 3) := by decide +kernel
theorem dX7_readOperator_84 : decode cX7_readOperator 84 = .ok (.aload_n 0, 1) := by decide +kernel
theorem dX7_readOperator_85 : decode cX7_readOperator 85 = .ok (.iconst 1, 1) := by decide +kernel
theorem dX7_readOperator_86 : decode cX7_readOperator 86 = .ok (.putfield 61, 3) := by decide +kernel
theorem dX7_readOperator_89 : decode cX7_readOperator 89 = .ok (.iconst 1, 1) := by decide +kernel
theorem dX7_readOperator_90 : decode cX7_readOperator 90 = .ok (.ireturn, 1) := by decide +kernel
theorem dX7_open_0 : decode cX7_open 0 = .ok (.aload_n 0, 1) := by decide +kernel
theorem dX7_open_1 : decode cX7_open 1 = .ok (.getfield 58, 3) := by decide +kernel
theorem dX7_open_4 : decode cX7_open 4 = .ok (.iconst 4, 1) := by decide +kernel
theorem dX7_open_5 : decode cX7_open 5 = .ok (.if_icmp .lt 5, 3) := by decide +kernel
theorem dX7_open_8 : decode cX7_open 8 = .ok (.iconst 0, 1) := by decide +kernel
theorem dX7_open_9 : decode cX7_open 9 = .ok (.ireturn, 1) := by decide +kernel
theorem dX7_open_10 : decode cX7_open 10 = .ok (.aload_n 0, 1) := by decide +kernel
theorem dX7_open_11 : decode cX7_open 11 = .ok (.dup, 1) := by decide +kernel
theorem dX7_open_12 : decode cX7_open 12 = .ok (.getfield 58, 3) := by decide +kernel
theorem dX7_open_15 : decode cX7_open 15 = .ok (.iconst 1, 1) := by decide +kernel
theorem dX7_open_16 : decode cX7_open 16 = .ok (.iadd, 1) := by decide +kernel
theorem dX7_open_17 : decode cX7_open 17 = .ok (.putfield 58, 3) := by decide +kernel
theorem dX7_open_20 : decode cX7_open 20 = .ok (.aload_n 0, 1) := by decide +kernel
theorem dX7_open_21 : decode cX7_open 21 = .ok (.getfield 24, 3) := by decide +kernel
theorem dX7_open_24 : decode cX7_open 24 = .ok (.aload_n 0, 1) := by decide +kernel
theorem dX7_open_25 : decode cX7_open 25 = .ok (.getfield 58, 3) := by decide +kernel
theorem dX7_open_28 : decode cX7_open 28 = .ok (.iconst 0, 1) := by decide +kernel
theorem dX7_open_29 : decode cX7_open 29 = .ok (.bastore, 1) := by decide +kernel
theorem dX7_open_30 : decode cX7_open 30 = .ok (.aload_n 0, 1) := by decide +kernel
theorem dX7_open_31 : decode cX7_open 31 = .ok (.sipush 2008, 3) := by decide +kernel
theorem dX7_open_34 : decode cX7_open 34 = .ok (.invokevirtual 80, 3) := by decide +kernel
theorem dX7_open_37 : decode cX7_open 37 = .ok (.iconst 1, 1) := by decide +kernel
theorem dX7_open_38 : decode cX7_open 38 = .ok (.ireturn, 1) := by decide +kernel
theorem dX7_shut_0 : decode cX7_shut 0 = .ok (.aload_n 0, 1) := by decide +kernel
theorem dX7_shut_1 : decode cX7_shut 1 = .ok (.getfield 58, 3) := by decide +kernel
theorem dX7_shut_4 : decode cX7_shut 4 = .ok (.ifCond .ne 5, 3) := by decide +kernel
theorem dX7_shut_7 : decode cX7_shut 7 = .ok (.iconst 0, 1) := by decide +kernel
theorem dX7_shut_8 : decode cX7_shut 8 = .ok (.ireturn, 1) := by decide +kernel
theorem dX7_shut_9 : decode cX7_shut 9 = .ok (.aload_n 0, 1) := by decide +kernel
theorem dX7_shut_10 : decode cX7_shut 10 = .ok (.iconst 1, 1) := by decide +kernel
theorem dX7_shut_11 : decode cX7_shut 11 = .ok (.invokevirtual 76, 3) := by decide +kernel
theorem dX7_shut_14 : decode cX7_shut 14 = .ok (.aload_n 0, 1) := by decide +kernel
theorem dX7_shut_15 : decode cX7_shut 15 = .ok (.iconst 0, 1) := by decide +kernel
theorem dX7_shut_16 : decode cX7_shut 16 = .ok (.aload_n 0, 1) := by decide +kernel
theorem dX7_shut_17 : decode cX7_shut 17 = .ok (.getfield 55, 3) := by decide +kernel
theorem dX7_shut_20 : decode cX7_shut 20 = .ok (.iconst 1, 1) := by decide +kernel
theorem dX7_shut_21 : decode cX7_shut 21 = .ok (.isub, 1) := by decide +kernel
theorem dX7_shut_22 : decode cX7_shut 22 = .ok (.invokestatic 112, 3) := by decide +kernel
theorem dX7_shut_25 : decode cX7_shut 25 = .ok (.putfield 55, 3) := by decide +kernel
theorem dX7_shut_28 : decode cX7_shut 28 = .ok (.aload_n 0, 1) := by decide +kernel
theorem dX7_shut_29 : decode cX7_shut 29 = .ok (.dup, 1) := by decide +kernel
theorem dX7_shut_30 : decode cX7_shut 30 = .ok (.getfield 58, 3) := by decide +kernel
theorem dX7_shut_33 : decode cX7_shut 33 = .ok (.iconst 1, 1) := by decide +kernel
theorem dX7_shut_34 : decode cX7_shut 34 = .ok (.isub, 1) := by decide +kernel
theorem dX7_shut_35 : decode cX7_shut 35 = .ok (.putfield 58, 3) := by decide +kernel
theorem dX7_shut_38 : decode cX7_shut 38 = .ok (.iconst 1, 1) := by decide +kernel
theorem dX7_shut_39 : decode cX7_shut 39 = .ok (.ireturn, 1) := by decide +kernel
theorem dX7_await_0 : decode cX7_await 0 = .ok (.aload_n 0, 1) := by decide +kernel
theorem dX7_await_1 : decode cX7_await 1 = .ok (.getfield 55, 3) := by decide +kernel
theorem dX7_await_4 : decode cX7_await 4 = .ok (.aload_n 0, 1) := by decide +kernel
theorem dX7_await_5 : decode cX7_await 5 = .ok (.getfield 15, 3) := by decide +kernel
theorem dX7_await_8 : decode cX7_await 8 = .ok (.arraylength, 1) := by decide +kernel
theorem dX7_await_9 : decode cX7_await 9 = .ok (.if_icmp .ge 23, 3) := by decide +kernel
theorem dX7_await_12 : decode cX7_await 12 = .ok (.aload_n 0, 1) := by decide +kernel
theorem dX7_await_13 : decode cX7_await 13 = .ok (.getfield 15, 3) := by decide +kernel
theorem dX7_await_16 : decode cX7_await 16 = .ok (.aload_n 0, 1) := by decide +kernel
theorem dX7_await_17 : decode cX7_await 17 = .ok (.getfield 55, 3) := by decide +kernel
theorem dX7_await_20 : decode cX7_await 20 = .ok (.iload_n 1, 1) := by decide +kernel
theorem dX7_await_21 : decode cX7_await 21 = .ok (.iastore, 1) := by decide +kernel
theorem dX7_await_22 : decode cX7_await 22 = .ok (.aload_n 0, 1) := by decide +kernel
theorem dX7_await_23 : decode cX7_await 23 = .ok (.dup, 1) := by decide +kernel
theorem dX7_await_24 : decode cX7_await 24 = .ok (.getfield 55, 3) := by decide +kernel
theorem dX7_await_27 : decode cX7_await 27 = .ok (.iconst 1, 1) := by decide +kernel
theorem dX7_await_28 : decode cX7_await 28 = .ok (.iadd, 1) := by decide +kernel
theorem dX7_await_29 : decode cX7_await 29 = .ok (.putfield 55, 3) := by decide +kernel
theorem dX7_await_32 : decode cX7_await 32 = .ok (.return_, 1) := by decide +kernel
theorem dX7_release_0 : decode cX7_release 0 = .ok (.aload_n 0, 1) := by decide +kernel
theorem dX7_release_1 : decode cX7_release 1 = .ok (.getfield 55, 3) := by decide +kernel
theorem dX7_release_4 : decode cX7_release 4 = .ok (.ifCond .le 47, 3) := by decide +kernel
theorem dX7_release_7 : decode cX7_release 7 = .ok (.aload_n 0, 1) := by decide +kernel
theorem dX7_release_8 : decode cX7_release 8 = .ok (.getfield 15, 3) := by decide +kernel
theorem dX7_release_11 : decode cX7_release 11 = .ok (.aload_n 0, 1) := by decide +kernel
theorem dX7_release_12 : decode cX7_release 12 = .ok (.getfield 55, 3) := by decide +kernel
theorem dX7_release_15 : decode cX7_release 15 = .ok (.iconst 1, 1) := by decide +kernel
theorem dX7_release_16 : decode cX7_release 16 = .ok (.isub, 1) := by decide +kernel
theorem dX7_release_17 : decode cX7_release 17 = .ok (.iaload, 1) := by decide +kernel
theorem dX7_release_18 : decode cX7_release 18 = .ok (.invokestatic 109, 3) := by decide +kernel
theorem dX7_release_21 : decode cX7_release 21 = .ok (.iload_n 1, 1) := by decide +kernel
theorem dX7_release_22 : decode cX7_release 22 = .ok (.if_icmp .lt 29, 3) := by decide +kernel
theorem dX7_release_25 : decode cX7_release 25 = .ok (.aload_n 0, 1) := by decide +kernel
theorem dX7_release_26 : decode cX7_release 26 = .ok (.dup, 1) := by decide +kernel
theorem dX7_release_27 : decode cX7_release 27 = .ok (.getfield 55, 3) := by decide +kernel
theorem dX7_release_30 : decode cX7_release 30 = .ok (.iconst 1, 1) := by decide +kernel
theorem dX7_release_31 : decode cX7_release 31 = .ok (.isub, 1) := by decide +kernel
theorem dX7_release_32 : decode cX7_release 32 = .ok (.putfield 55, 3) := by decide +kernel
theorem dX7_release_35 : decode cX7_release 35 = .ok (.aload_n 0, 1) := by decide +kernel
theorem dX7_release_36 : decode cX7_release 36 = .ok (.aload_n 0, 1) := by decide +kernel
theorem dX7_release_37 : decode cX7_release 37 = .ok (.getfield 15, 3) := by decide +kernel
theorem dX7_release_40 : decode cX7_release 40 = .ok (.aload_n 0, 1) := by decide +kernel
theorem dX7_release_41 : decode cX7_release 41 = .ok (.getfield 55, 3) := by decide +kernel
theorem dX7_release_44 : decode cX7_release 44 = .ok (.iaload, 1) := by decide +kernel
theorem dX7_release_45 : decode cX7_release 45 = .ok (.invokevirtual 98, 3) := by decide +kernel
theorem dX7_release_48 : decode cX7_release 48 = .ok (.goto (-48), 3) := by decide +kernel
theorem dX7_release_51 : decode cX7_release 51 = .ok (.return_, 1) := by decide +kernel
theorem dX7_step_0 : decode cX7_step 0 = .ok (.aload_n 0, 1) := by decide +kernel
theorem dX7_step_1 : decode cX7_step 1 = .ok (.getfield 34, 3) := by decide +kernel
theorem dX7_step_4 : decode cX7_step 4 = .ok (.aload_n 0, 1) := by decide +kernel
theorem dX7_step_5 : decode cX7_step 5 = .ok (.getfield 9, 3) := by decide +kernel
theorem dX7_step_8 : decode cX7_step 8 = .ok (.arraylength, 1) := by decide +kernel
theorem dX7_step_9 : decode cX7_step 9 = .ok (.if_icmp .ge 23, 3) := by decide +kernel
theorem dX7_step_12 : decode cX7_step 12 = .ok (.aload_n 0, 1) := by decide +kernel
theorem dX7_step_13 : decode cX7_step 13 = .ok (.getfield 9, 3) := by decide +kernel
theorem dX7_step_16 : decode cX7_step 16 = .ok (.aload_n 0, 1) := by decide +kernel
theorem dX7_step_17 : decode cX7_step 17 = .ok (.getfield 34, 3) := by decide +kernel
theorem dX7_step_20 : decode cX7_step 20 = .ok (.iload_n 1, 1) := by decide +kernel
theorem dX7_step_21 : decode cX7_step 21 = .ok (.iastore, 1) := by decide +kernel
theorem dX7_step_22 : decode cX7_step 22 = .ok (.aload_n 0, 1) := by decide +kernel
theorem dX7_step_23 : decode cX7_step 23 = .ok (.dup, 1) := by decide +kernel
theorem dX7_step_24 : decode cX7_step 24 = .ok (.getfield 34, 3) := by decide +kernel
theorem dX7_step_27 : decode cX7_step 27 = .ok (.iconst 1, 1) := by decide +kernel
theorem dX7_step_28 : decode cX7_step 28 = .ok (.iadd, 1) := by decide +kernel
theorem dX7_step_29 : decode cX7_step 29 = .ok (.putfield 34, 3) := by decide +kernel
theorem dX7_step_32 : decode cX7_step 32 = .ok (.return_, 1) := by decide +kernel
theorem dX7_rank_0 : decode cX7_rank 0 = .ok (.iload_n 0, 1) := by decide +kernel
theorem dX7_rank_1 : decode cX7_rank 1 = .ok (.sipush 2008, 3) := by decide +kernel
theorem dX7_rank_4 : decode cX7_rank 4 = .ok (.if_icmp .ne 5, 3) := by decide +kernel
theorem dX7_rank_7 : decode cX7_rank 7 = .ok (.iconst 0, 1) := by decide +kernel
theorem dX7_rank_8 : decode cX7_rank 8 = .ok (.ireturn, 1) := by decide +kernel
theorem dX7_rank_9 : decode cX7_rank 9 = .ok (.iload_n 0, 1) := by decide +kernel
theorem dX7_rank_10 : decode cX7_rank 10 = .ok (.sipush 2002, 3) := by decide +kernel
theorem dX7_rank_13 : decode cX7_rank 13 = .ok (.if_icmp .gt 5, 3) := by decide +kernel
theorem dX7_rank_16 : decode cX7_rank 16 = .ok (.iconst 1, 1) := by decide +kernel
theorem dX7_rank_17 : decode cX7_rank 17 = .ok (.ireturn, 1) := by decide +kernel
theorem dX7_rank_18 : decode cX7_rank 18 = .ok (.iload_n 0, 1) := by decide +kernel
theorem dX7_rank_19 : decode cX7_rank 19 = .ok (.sipush 2004, 3) := by decide +kernel
theorem dX7_rank_22 : decode cX7_rank 22 = .ok (.if_icmp .gt 5, 3) := by decide +kernel
theorem dX7_rank_25 : decode cX7_rank 25 = .ok (.iconst 2, 1) := by decide +kernel
theorem dX7_rank_26 : decode cX7_rank 26 = .ok (.ireturn, 1) := by decide +kernel
theorem dX7_rank_27 : decode cX7_rank 27 = .ok (.iload_n 0, 1) := by decide +kernel
theorem dX7_rank_28 : decode cX7_rank 28 = .ok (.sipush 2007, 3) := by decide +kernel
theorem dX7_rank_31 : decode cX7_rank 31 = .ok (.if_icmp .ne 7, 3) := by decide +kernel
theorem dX7_rank_34 : decode cX7_rank 34 = .ok (.iconst 4, 1) := by decide +kernel
theorem dX7_rank_35 : decode cX7_rank 35 = .ok (.goto 4, 3) := by decide +kernel
theorem dX7_rank_38 : decode cX7_rank 38 = .ok (.iconst 3, 1) := by decide +kernel
theorem dX7_rank_39 : decode cX7_rank 39 = .ok (.ireturn, 1) := by decide +kernel
theorem dX7_price_0 : decode cX7_price 0 = .ok (.aload_n 0, 1) := by decide +kernel
theorem dX7_price_1 : decode cX7_price 1 = .ok (.getfield 21, 3) := by decide +kernel
theorem dX7_price_4 : decode cX7_price 4 = .ok (.iconst 0, 1) := by decide +kernel
theorem dX7_price_5 : decode cX7_price 5 = .ok (.iload_n 1, 1) := by decide +kernel
theorem dX7_price_6 : decode cX7_price 6 = .ok (.iastore, 1) := by decide +kernel
theorem dX7_price_7 : decode cX7_price 7 = .ok (.aload_n 0, 1) := by decide +kernel
theorem dX7_price_8 : decode cX7_price 8 = .ok (.getfield 21, 3) := by decide +kernel
theorem dX7_price_11 : decode cX7_price 11 = .ok (.iconst 1, 1) := by decide +kernel
theorem dX7_price_12 : decode cX7_price 12 = .ok (.iload_n 2, 1) := by decide +kernel
theorem dX7_price_13 : decode cX7_price 13 = .ok (.iastore, 1) := by decide +kernel
theorem dX7_price_14 : decode cX7_price 14 = .ok (.aload_n 0, 1) := by decide +kernel
theorem dX7_price_15 : decode cX7_price 15 = .ok (.getfield 21, 3) := by decide +kernel
theorem dX7_price_18 : decode cX7_price 18 = .ok (.iconst 2, 1) := by decide +kernel
theorem dX7_price_19 : decode cX7_price 19 = .ok (.iload_n 3, 1) := by decide +kernel
theorem dX7_price_20 : decode cX7_price 20 = .ok (.iastore, 1) := by decide +kernel
theorem dX7_price_21 : decode cX7_price 21 = .ok (.aload_n 0, 1) := by decide +kernel
theorem dX7_price_22 : decode cX7_price 22 = .ok (.getfield 21, 3) := by decide +kernel
theorem dX7_price_25 : decode cX7_price 25 = .ok (.iconst 3, 1) := by decide +kernel
theorem dX7_price_26 : decode cX7_price 26 = .ok (.iload 4, 2) := by decide +kernel
theorem dX7_price_28 : decode cX7_price 28 = .ok (.iastore, 1) := by decide +kernel
theorem dX7_price_29 : decode cX7_price 29 = .ok (.aload_n 0, 1) := by decide +kernel
theorem dX7_price_30 : decode cX7_price 30 = .ok (.getfield 21, 3) := by decide +kernel
theorem dX7_price_33 : decode cX7_price 33 = .ok (.iconst 4, 1) := by decide +kernel
theorem dX7_price_34 : decode cX7_price 34 = .ok (.iload 5, 2) := by decide +kernel
theorem dX7_price_36 : decode cX7_price 36 = .ok (.iastore, 1) := by decide +kernel
theorem dX7_price_37 : decode cX7_price 37 = .ok (.aload_n 0, 1) := by decide +kernel
theorem dX7_price_38 : decode cX7_price 38 = .ok (.getfield 21, 3) := by decide +kernel
theorem dX7_price_41 : decode cX7_price 41 = .ok (.iconst 5, 1) := by decide +kernel
theorem dX7_price_42 : decode cX7_price 42 = .ok (.iload 6, 2) := by decide +kernel
theorem dX7_price_44 : decode cX7_price 44 = .ok (.iastore, 1) := by decide +kernel
theorem dX7_price_45 : decode cX7_price 45 = .ok (.iconst 0, 1) := by decide +kernel
theorem dX7_price_46 : decode cX7_price 46 = .ok (.istore 7, 2) := by decide +kernel
theorem dX7_price_48 : decode cX7_price 48 = .ok (.iconst 0, 1) := by decide +kernel
theorem dX7_price_49 : decode cX7_price 49 = .ok (.istore 8, 2) := by decide +kernel
theorem dX7_price_51 : decode cX7_price 51 = .ok (.iload 8, 2) := by decide +kernel
theorem dX7_price_53 : decode cX7_price 53 = .ok (.aload_n 0, 1) := by decide +kernel
theorem dX7_price_54 : decode cX7_price 54 = .ok (.getfield 34, 3) := by decide +kernel
theorem dX7_price_57 : decode cX7_price 57 = .ok (.if_icmp .ge 148, 3) := by decide +kernel
theorem dX7_price_60 : decode cX7_price 60 = .ok (.aload_n 0, 1) := by decide +kernel
theorem dX7_price_61 : decode cX7_price 61 = .ok (.getfield 9, 3) := by decide +kernel
theorem dX7_price_64 : decode cX7_price 64 = .ok (.iload 8, 2) := by decide +kernel
theorem dX7_price_66 : decode cX7_price 66 = .ok (.iaload, 1) := by decide +kernel
theorem dX7_price_67 : decode cX7_price 67 = .ok (.istore 9, 2) := by decide +kernel
theorem dX7_price_69 : decode cX7_price 69 = .ok (.iload 9, 2) := by decide +kernel
theorem dX7_price_71 : decode cX7_price 71 = .ok (.sipush 2000, 3) := by decide +kernel
theorem dX7_price_74 : decode cX7_price 74 = .ok (.if_icmp .ge 50, 3) := by decide +kernel
theorem dX7_price_77 : decode cX7_price 77 = .ok (.iload 7, 2) := by decide +kernel
theorem dX7_price_79 : decode cX7_price 79 = .ok (.aload_n 0, 1) := by decide +kernel
theorem dX7_price_80 : decode cX7_price 80 = .ok (.getfield 18, 3) := by decide +kernel
theorem dX7_price_83 : decode cX7_price 83 = .ok (.arraylength, 1) := by decide +kernel
theorem dX7_price_84 : decode cX7_price 84 = .ok (.if_icmp .ge 40, 3) := by decide +kernel
theorem dX7_price_87 : decode cX7_price 87 = .ok (.aload_n 0, 1) := by decide +kernel
theorem dX7_price_88 : decode cX7_price 88 = .ok (.getfield 18, 3) := by decide +kernel
theorem dX7_price_91 : decode cX7_price 91 = .ok (.iload 7, 2) := by decide +kernel
theorem dX7_price_93 : decode cX7_price 93 = .ok (.iload 9, 2) := by decide +kernel
theorem dX7_price_95 : decode cX7_price 95 = .ok (.sipush 1000, 3) := by decide +kernel
theorem dX7_price_98 : decode cX7_price 98 = .ok (.if_icmp .ge 8, 3) := by decide +kernel
theorem dX7_price_101 : decode cX7_price 101 = .ok (.iload 9, 2) := by decide +kernel
theorem dX7_price_103 : decode cX7_price 103 = .ok (.goto 14, 3) := by decide +kernel
theorem dX7_price_106 : decode cX7_price 106 = .ok (.aload_n 0, 1) := by decide +kernel
theorem dX7_price_107 : decode cX7_price 107 = .ok (.getfield 21, 3) := by decide +kernel
theorem dX7_price_110 : decode cX7_price 110 = .ok (.iload 9, 2) := by decide +kernel
theorem dX7_price_112 : decode cX7_price 112 = .ok (.sipush 1000, 3) := by decide +kernel
theorem dX7_price_115 : decode cX7_price 115 = .ok (.isub, 1) := by decide +kernel
theorem dX7_price_116 : decode cX7_price 116 = .ok (.iaload, 1) := by decide +kernel
theorem dX7_price_117 : decode cX7_price 117 = .ok (.iastore, 1) := by decide +kernel
theorem dX7_price_118 : decode cX7_price 118 = .ok (.iinc 7 1, 3) := by decide +kernel
theorem dX7_price_121 : decode cX7_price 121 = .ok (.goto 78, 3) := by decide +kernel
theorem dX7_price_124 : decode cX7_price 124 = .ok (.iload 9, 2) := by decide +kernel
theorem dX7_price_126 : decode cX7_price 126 = .ok (.sipush 2007, 3) := by decide +kernel
theorem dX7_price_129 : decode cX7_price 129 = .ok (.if_icmp .ne 31, 3) := by decide +kernel
theorem dX7_price_132 : decode cX7_price 132 = .ok (.iload 7, 2) := by decide +kernel
theorem dX7_price_134 : decode cX7_price 134 = .ok (.iconst 1, 1) := by decide +kernel
theorem dX7_price_135 : decode cX7_price 135 = .ok (.if_icmp .lt 25, 3) := by decide +kernel
theorem dX7_price_138 : decode cX7_price 138 = .ok (.aload_n 0, 1) := by decide +kernel
theorem dX7_price_139 : decode cX7_price 139 = .ok (.getfield 18, 3) := by decide +kernel
theorem dX7_price_142 : decode cX7_price 142 = .ok (.iload 7, 2) := by decide +kernel
theorem dX7_price_144 : decode cX7_price 144 = .ok (.iconst 1, 1) := by decide +kernel
theorem dX7_price_145 : decode cX7_price 145 = .ok (.isub, 1) := by decide +kernel
theorem dX7_price_146 : decode cX7_price 146 = .ok (.aload_n 0, 1) := by decide +kernel
theorem dX7_price_147 : decode cX7_price 147 = .ok (.getfield 18, 3) := by decide +kernel
theorem dX7_price_150 : decode cX7_price 150 = .ok (.iload 7, 2) := by decide +kernel
theorem dX7_price_152 : decode cX7_price 152 = .ok (.iconst 1, 1) := by decide +kernel
theorem dX7_price_153 : decode cX7_price 153 = .ok (.isub, 1) := by decide +kernel
theorem dX7_price_154 : decode cX7_price 154 = .ok (.iaload, 1) := by decide +kernel
theorem dX7_price_155 : decode cX7_price 155 = .ok (.ineg, 1) := by decide +kernel
theorem dX7_price_156 : decode cX7_price 156 = .ok (.iastore, 1) := by decide +kernel
theorem dX7_price_157 : decode cX7_price 157 = .ok (.goto 42, 3) := by decide +kernel
theorem dX7_price_160 : decode cX7_price 160 = .ok (.iload 7, 2) := by decide +kernel
theorem dX7_price_162 : decode cX7_price 162 = .ok (.iconst 2, 1) := by decide +kernel
theorem dX7_price_163 : decode cX7_price 163 = .ok (.if_icmp .lt 36, 3) := by decide +kernel
theorem dX7_price_166 : decode cX7_price 166 = .ok (.iinc 7 (-1), 3) := by decide +kernel
theorem dX7_price_169 : decode cX7_price 169 = .ok (.aload_n 0, 1) := by decide +kernel
theorem dX7_price_170 : decode cX7_price 170 = .ok (.getfield 18, 3) := by decide +kernel
theorem dX7_price_173 : decode cX7_price 173 = .ok (.iload 7, 2) := by decide +kernel
theorem dX7_price_175 : decode cX7_price 175 = .ok (.iconst 1, 1) := by decide +kernel
theorem dX7_price_176 : decode cX7_price 176 = .ok (.isub, 1) := by decide +kernel
theorem dX7_price_177 : decode cX7_price 177 = .ok (.iload 9, 2) := by decide +kernel
theorem dX7_price_179 : decode cX7_price 179 = .ok (.aload_n 0, 1) := by decide +kernel
theorem dX7_price_180 : decode cX7_price 180 = .ok (.getfield 18, 3) := by decide +kernel
theorem dX7_price_183 : decode cX7_price 183 = .ok (.iload 7, 2) := by decide +kernel
theorem dX7_price_185 : decode cX7_price 185 = .ok (.iconst 1, 1) := by decide +kernel
theorem dX7_price_186 : decode cX7_price 186 = .ok (.isub, 1) := by decide +kernel
theorem dX7_price_187 : decode cX7_price 187 = .ok (.iaload, 1) := by decide +kernel
theorem dX7_price_188 : decode cX7_price 188 = .ok (.aload_n 0, 1) := by decide +kernel
theorem dX7_price_189 : decode cX7_price 189 = .ok (.getfield 18, 3) := by decide +kernel
theorem dX7_price_192 : decode cX7_price 192 = .ok (.iload 7, 2) := by decide +kernel
theorem dX7_price_194 : decode cX7_price 194 = .ok (.iaload, 1) := by decide +kernel
theorem dX7_price_195 : decode cX7_price 195 = .ok (.invokestatic 115, 3) := by decide +kernel
theorem dX7_price_198 : decode cX7_price 198 = .ok (.iastore, 1) := by decide +kernel
theorem dX7_price_199 : decode cX7_price 199 = .ok (.iinc 8 1, 3) := by decide +kernel
theorem dX7_price_202 : decode cX7_price 202 = .ok (.goto (-151), 3) := by decide +kernel
theorem dX7_price_205 : decode cX7_price 205 = .ok (.aload_n 0, 1) := by decide +kernel
theorem dX7_price_206 : decode cX7_price 206 = .ok (.getfield 18, 3) := by decide +kernel
theorem dX7_price_209 : decode cX7_price 209 = .ok (.iconst 0, 1) := by decide +kernel
theorem dX7_price_210 : decode cX7_price 210 = .ok (.iaload, 1) := by decide +kernel
theorem dX7_price_211 : decode cX7_price 211 = .ok (.iconst 0, 1) := by decide +kernel
theorem dX7_price_212 : decode cX7_price 212 = .ok (.ldc 118, 2) := by decide +kernel
theorem dX7_price_214 : decode cX7_price 214 = .ok (.invokestatic 119, 3) := by decide +kernel
theorem dX7_price_217 : decode cX7_price 217 = .ok (.ireturn, 1) := by decide +kernel
theorem dX7_joined_0 : decode cX7_joined 0 = .ok (.iload_n 0, 1) := by decide +kernel
theorem dX7_joined_1 : decode cX7_joined 1 = .ok (.tableswitch 100 2000 2006 #[43, 54, 65, 76, 80, 84, 88], 43) := by decide +kernel
theorem dX7_joined_44 : decode cX7_joined 44 = .ok (.iload_n 1, 1) := by decide +kernel
theorem dX7_joined_45 : decode cX7_joined 45 = .ok (.iload_n 2, 1) := by decide +kernel
theorem dX7_joined_46 : decode cX7_joined 46 = .ok (.if_icmp .ge 7, 3) := by decide +kernel
theorem dX7_joined_49 : decode cX7_joined 49 = .ok (.iconst 1, 1) := by decide +kernel
theorem dX7_joined_50 : decode cX7_joined 50 = .ok (.goto 4, 3) := by decide +kernel
theorem dX7_joined_53 : decode cX7_joined 53 = .ok (.iconst 0, 1) := by decide +kernel
theorem dX7_joined_54 : decode cX7_joined 54 = .ok (.ireturn, 1) := by decide +kernel
theorem dX7_joined_55 : decode cX7_joined 55 = .ok (.iload_n 1, 1) := by decide +kernel
theorem dX7_joined_56 : decode cX7_joined 56 = .ok (.iload_n 2, 1) := by decide +kernel
theorem dX7_joined_57 : decode cX7_joined 57 = .ok (.if_icmp .le 7, 3) := by decide +kernel
theorem dX7_joined_60 : decode cX7_joined 60 = .ok (.iconst 1, 1) := by decide +kernel
theorem dX7_joined_61 : decode cX7_joined 61 = .ok (.goto 4, 3) := by decide +kernel
theorem dX7_joined_64 : decode cX7_joined 64 = .ok (.iconst 0, 1) := by decide +kernel
theorem dX7_joined_65 : decode cX7_joined 65 = .ok (.ireturn, 1) := by decide +kernel
theorem dX7_joined_66 : decode cX7_joined 66 = .ok (.iload_n 1, 1) := by decide +kernel
theorem dX7_joined_67 : decode cX7_joined 67 = .ok (.iload_n 2, 1) := by decide +kernel
theorem dX7_joined_68 : decode cX7_joined 68 = .ok (.if_icmp .ne 7, 3) := by decide +kernel
theorem dX7_joined_71 : decode cX7_joined 71 = .ok (.iconst 1, 1) := by decide +kernel
theorem dX7_joined_72 : decode cX7_joined 72 = .ok (.goto 4, 3) := by decide +kernel
theorem dX7_joined_75 : decode cX7_joined 75 = .ok (.iconst 0, 1) := by decide +kernel
theorem dX7_joined_76 : decode cX7_joined 76 = .ok (.ireturn, 1) := by decide +kernel
theorem dX7_joined_77 : decode cX7_joined 77 = .ok (.iload_n 1, 1) := by decide +kernel
theorem dX7_joined_78 : decode cX7_joined 78 = .ok (.iload_n 2, 1) := by decide +kernel
theorem dX7_joined_79 : decode cX7_joined 79 = .ok (.iadd, 1) := by decide +kernel
theorem dX7_joined_80 : decode cX7_joined 80 = .ok (.ireturn, 1) := by decide +kernel
theorem dX7_joined_81 : decode cX7_joined 81 = .ok (.iload_n 1, 1) := by decide +kernel
theorem dX7_joined_82 : decode cX7_joined 82 = .ok (.iload_n 2, 1) := by decide +kernel
theorem dX7_joined_83 : decode cX7_joined 83 = .ok (.isub, 1) := by decide +kernel
theorem dX7_joined_84 : decode cX7_joined 84 = .ok (.ireturn, 1) := by decide +kernel
theorem dX7_joined_85 : decode cX7_joined 85 = .ok (.iload_n 1, 1) := by decide +kernel
theorem dX7_joined_86 : decode cX7_joined 86 = .ok (.iload_n 2, 1) := by decide +kernel
theorem dX7_joined_87 : decode cX7_joined 87 = .ok (.imul, 1) := by decide +kernel
theorem dX7_joined_88 : decode cX7_joined 88 = .ok (.ireturn, 1) := by decide +kernel
theorem dX7_joined_89 : decode cX7_joined 89 = .ok (.iload_n 2, 1) := by decide +kernel
theorem dX7_joined_90 : decode cX7_joined 90 = .ok (.ifCond .ne 7, 3) := by decide +kernel
theorem dX7_joined_93 : decode cX7_joined 93 = .ok (.iconst 0, 1) := by decide +kernel
theorem dX7_joined_94 : decode cX7_joined 94 = .ok (.goto 6, 3) := by decide +kernel
theorem dX7_joined_97 : decode cX7_joined 97 = .ok (.iload_n 1, 1) := by decide +kernel
theorem dX7_joined_98 : decode cX7_joined 98 = .ok (.iload_n 2, 1) := by decide +kernel
theorem dX7_joined_99 : decode cX7_joined 99 = .ok (.idiv, 1) := by decide +kernel
theorem dX7_joined_100 : decode cX7_joined 100 = .ok (.ireturn, 1) := by decide +kernel
theorem dX7_joined_101 : decode cX7_joined 101 = .ok (.iconst 0, 1) := by decide +kernel
theorem dX7_joined_102 : decode cX7_joined 102 = .ok (.ireturn, 1) := by decide +kernel
theorem dX8_init_0 : decode cX8_init 0 = .ok (.aload_n 0, 1) := by decide +kernel
theorem dX8_init_1 : decode cX8_init 1 = .ok (.invokespecial 3, 3) := by decide +kernel
theorem dX8_init_4 : decode cX8_init 4 = .ok (.aload_n 0, 1) := by decide +kernel
theorem dX8_init_5 : decode cX8_init 5 = .ok (.bipush 80, 2) := by decide +kernel
theorem dX8_init_7 : decode cX8_init 7 = .ok (.newarray .char, 2) := by decide +kernel
theorem dX8_init_9 : decode cX8_init 9 = .ok (.putfield 9, 3) := by decide +kernel
theorem dX8_init_12 : decode cX8_init 12 = .ok (.aload_n 0, 1) := by decide +kernel
theorem dX8_init_13 : decode cX8_init 13 = .ok (.iconst 0, 1) := by decide +kernel
theorem dX8_init_14 : decode cX8_init 14 = .ok (.putfield 15, 3) := by decide +kernel
theorem dX8_init_17 : decode cX8_init 17 = .ok (.return_, 1) := by decide +kernel
theorem dX8_add_0 : decode cX8_add 0 = .ok (.aload_n 0, 1) := by decide +kernel
theorem dX8_add_1 : decode cX8_add 1 = .ok (.getfield 15, 3) := by decide +kernel
theorem dX8_add_4 : decode cX8_add 4 = .ok (.iconst 4, 1) := by decide +kernel
theorem dX8_add_5 : decode cX8_add 5 = .ok (.iadd, 1) := by decide +kernel
theorem dX8_add_6 : decode cX8_add 6 = .ok (.aload_n 0, 1) := by decide +kernel
theorem dX8_add_7 : decode cX8_add 7 = .ok (.getfield 9, 3) := by decide +kernel
theorem dX8_add_10 : decode cX8_add 10 = .ok (.arraylength, 1) := by decide +kernel
theorem dX8_add_11 : decode cX8_add 11 = .ok (.if_icmp .le 5, 3) := by decide +kernel
theorem dX8_add_14 : decode cX8_add 14 = .ok (.iconst 0, 1) := by decide +kernel
theorem dX8_add_15 : decode cX8_add 15 = .ok (.ireturn, 1) := by decide +kernel
theorem dX8_add_16 : decode cX8_add 16 = .ok (.bipush 24, 2) := by decide +kernel
theorem dX8_add_18 : decode cX8_add 18 = .ok (.istore_n 2, 1) := by decide +kernel
theorem dX8_add_19 : decode cX8_add 19 = .ok (.iload_n 2, 1) := by decide +kernel
theorem dX8_add_20 : decode cX8_add 20 = .ok (.ifCond .lt 36, 3) := by decide +kernel
theorem dX8_add_23 : decode cX8_add 23 = .ok (.aload_n 0, 1) := by decide +kernel
theorem dX8_add_24 : decode cX8_add 24 = .ok (.getfield 9, 3) := by decide +kernel
theorem dX8_add_27 : decode cX8_add 27 = .ok (.aload_n 0, 1) := by decide +kernel
theorem dX8_add_28 : decode cX8_add 28 = .ok (.getfield 15, 3) := by decide +kernel
theorem dX8_add_31 : decode cX8_add 31 = .ok (.iload_n 1, 1) := by decide +kernel
theorem dX8_add_32 : decode cX8_add 32 = .ok (.iload_n 2, 1) := by decide +kernel
theorem dX8_add_33 : decode cX8_add 33 = .ok (.iushr, 1) := by decide +kernel
theorem dX8_add_34 : decode cX8_add 34 = .ok (.sipush 255, 3) := by decide +kernel
theorem dX8_add_37 : decode cX8_add 37 = .ok (.iand, 1) := by decide +kernel
theorem dX8_add_38 : decode cX8_add 38 = .ok (.i2c, 1) := by decide +kernel
theorem dX8_add_39 : decode cX8_add 39 = .ok (.castore, 1) := by decide +kernel
theorem dX8_add_40 : decode cX8_add 40 = .ok (.aload_n 0, 1) := by decide +kernel
theorem dX8_add_41 : decode cX8_add 41 = .ok (.dup, 1) := by decide +kernel
theorem dX8_add_42 : decode cX8_add 42 = .ok (.getfield 15, 3) := by decide +kernel
theorem dX8_add_45 : decode cX8_add 45 = .ok (.iconst 1, 1) := by decide +kernel
theorem dX8_add_46 : decode cX8_add 46 = .ok (.iadd, 1) := by decide +kernel
theorem dX8_add_47 : decode cX8_add 47 = .ok (.putfield 15, 3) := by decide +kernel
theorem dX8_add_50 : decode cX8_add 50 = .ok (.iinc 2 (-8), 3) := by decide +kernel
theorem dX8_add_53 : decode cX8_add 53 = .ok (.goto (-34), 3) := by decide +kernel
theorem dX8_add_56 : decode cX8_add 56 = .ok (.iconst 1, 1) := by decide +kernel
theorem dX8_add_57 : decode cX8_add 57 = .ok (.ireturn, 1) := by decide +kernel
theorem dX8_cut_0 : decode cX8_cut 0 = .ok (.iload_n 1, 1) := by decide +kernel
theorem dX8_cut_1 : decode cX8_cut 1 = .ok (.ifCond .lt 11, 3) := by decide +kernel
theorem dX8_cut_4 : decode cX8_cut 4 = .ok (.iload_n 1, 1) := by decide +kernel
theorem dX8_cut_5 : decode cX8_cut 5 = .ok (.aload_n 0, 1) := by decide +kernel
theorem dX8_cut_6 : decode cX8_cut 6 = .ok (.getfield 15, 3) := by decide +kernel
theorem dX8_cut_9 : decode cX8_cut 9 = .ok (.if_icmp .le 5, 3) := by decide +kernel
theorem dX8_cut_12 : decode cX8_cut 12 = .ok (.iconst 0, 1) := by decide +kernel
theorem dX8_cut_13 : decode cX8_cut 13 = .ok (.ireturn, 1) := by decide +kernel
theorem dX8_cut_14 : decode cX8_cut 14 = .ok (.aload_n 0, 1) := by decide +kernel
theorem dX8_cut_15 : decode cX8_cut 15 = .ok (.iload_n 1, 1) := by decide +kernel
theorem dX8_cut_16 : decode cX8_cut 16 = .ok (.putfield 15, 3) := by decide +kernel
theorem dX8_cut_19 : decode cX8_cut 19 = .ok (.iconst 1, 1) := by decide +kernel
theorem dX8_cut_20 : decode cX8_cut 20 = .ok (.ireturn, 1) := by decide +kernel
theorem dX8_empty_0 : decode cX8_empty 0 = .ok (.aload_n 0, 1) := by decide +kernel
theorem dX8_empty_1 : decode cX8_empty 1 = .ok (.iconst 0, 1) := by decide +kernel
theorem dX8_empty_2 : decode cX8_empty 2 = .ok (.putfield 15, 3) := by decide +kernel
theorem dX8_empty_5 : decode cX8_empty 5 = .ok (.return_, 1) := by decide +kernel
theorem dX8_at_0 : decode cX8_at 0 = .ok (.iload_n 1, 1) := by decide +kernel
theorem dX8_at_1 : decode cX8_at 1 = .ok (.ifCond .lt 25, 3) := by decide +kernel
theorem dX8_at_4 : decode cX8_at 4 = .ok (.iload_n 1, 1) := by decide +kernel
theorem dX8_at_5 : decode cX8_at 5 = .ok (.aload_n 0, 1) := by decide +kernel
theorem dX8_at_6 : decode cX8_at 6 = .ok (.getfield 15, 3) := by decide +kernel
theorem dX8_at_9 : decode cX8_at 9 = .ok (.if_icmp .ge 17, 3) := by decide +kernel
theorem dX8_at_12 : decode cX8_at 12 = .ok (.iload_n 1, 1) := by decide +kernel
theorem dX8_at_13 : decode cX8_at 13 = .ok (.iload_n 2, 1) := by decide +kernel
theorem dX8_at_14 : decode cX8_at 14 = .ok (.if_icmp .ge 12, 3) := by decide +kernel
theorem dX8_at_17 : decode cX8_at 17 = .ok (.aload_n 0, 1) := by decide +kernel
theorem dX8_at_18 : decode cX8_at 18 = .ok (.getfield 9, 3) := by decide +kernel
theorem dX8_at_21 : decode cX8_at 21 = .ok (.iload_n 1, 1) := by decide +kernel
theorem dX8_at_22 : decode cX8_at 22 = .ok (.caload, 1) := by decide +kernel
theorem dX8_at_23 : decode cX8_at 23 = .ok (.goto 4, 3) := by decide +kernel
theorem dX8_at_26 : decode cX8_at 26 = .ok (.iconst (-1), 1) := by decide +kernel
theorem dX8_at_27 : decode cX8_at 27 = .ok (.ireturn, 1) := by decide +kernel
theorem dX8_digits_0 : decode cX8_digits 0 = .ok (.iconst 0, 1) := by decide +kernel
theorem dX8_digits_1 : decode cX8_digits 1 = .ok (.istore 4, 2) := by decide +kernel
theorem dX8_digits_3 : decode cX8_digits 3 = .ok (.iload 4, 2) := by decide +kernel
theorem dX8_digits_5 : decode cX8_digits 5 = .ok (.iload_n 2, 1) := by decide +kernel
theorem dX8_digits_6 : decode cX8_digits 6 = .ok (.if_icmp .ge 24, 3) := by decide +kernel
theorem dX8_digits_9 : decode cX8_digits 9 = .ok (.aload_n 0, 1) := by decide +kernel
theorem dX8_digits_10 : decode cX8_digits 10 = .ok (.iload_n 1, 1) := by decide +kernel
theorem dX8_digits_11 : decode cX8_digits 11 = .ok (.iload 4, 2) := by decide +kernel
theorem dX8_digits_13 : decode cX8_digits 13 = .ok (.iadd, 1) := by decide +kernel
theorem dX8_digits_14 : decode cX8_digits 14 = .ok (.iload_n 3, 1) := by decide +kernel
theorem dX8_digits_15 : decode cX8_digits 15 = .ok (.invokevirtual 19, 3) := by decide +kernel
theorem dX8_digits_18 : decode cX8_digits 18 = .ok (.invokestatic 23, 3) := by decide +kernel
theorem dX8_digits_21 : decode cX8_digits 21 = .ok (.ifCond .eq 9, 3) := by decide +kernel
theorem dX8_digits_24 : decode cX8_digits 24 = .ok (.iinc 4 1, 3) := by decide +kernel
theorem dX8_digits_27 : decode cX8_digits 27 = .ok (.goto (-24), 3) := by decide +kernel
theorem dX8_digits_30 : decode cX8_digits 30 = .ok (.iload 4, 2) := by decide +kernel
theorem dX8_digits_32 : decode cX8_digits 32 = .ok (.ireturn, 1) := by decide +kernel
theorem dX8_number_0 : decode cX8_number 0 = .ok (.iconst 0, 1) := by decide +kernel
theorem dX8_number_1 : decode cX8_number 1 = .ok (.istore_n 3, 1) := by decide +kernel
theorem dX8_number_2 : decode cX8_number 2 = .ok (.iconst 0, 1) := by decide +kernel
theorem dX8_number_3 : decode cX8_number 3 = .ok (.istore 4, 2) := by decide +kernel
theorem dX8_number_5 : decode cX8_number 5 = .ok (.iload 4, 2) := by decide +kernel
theorem dX8_number_7 : decode cX8_number 7 = .ok (.iload_n 2, 1) := by decide +kernel
theorem dX8_number_8 : decode cX8_number 8 = .ok (.if_icmp .ge 28, 3) := by decide +kernel
theorem dX8_number_11 : decode cX8_number 11 = .ok (.iload_n 3, 1) := by decide +kernel
theorem dX8_number_12 : decode cX8_number 12 = .ok (.bipush 10, 2) := by decide +kernel
theorem dX8_number_14 : decode cX8_number 14 = .ok (.imul, 1) := by decide +kernel
theorem dX8_number_15 : decode cX8_number 15 = .ok (.aload_n 0, 1) := by decide +kernel
theorem dX8_number_16 : decode cX8_number 16 = .ok (.iload_n 1, 1) := by decide +kernel
theorem dX8_number_17 : decode cX8_number 17 = .ok (.iload 4, 2) := by decide +kernel
theorem dX8_number_19 : decode cX8_number 19 = .ok (.iadd, 1) := by decide +kernel
theorem dX8_number_20 : decode cX8_number 20 = .ok (.bipush 80, 2) := by decide +kernel
theorem dX8_number_22 : decode cX8_number 22 = .ok (.invokevirtual 19, 3) := by decide +kernel
theorem dX8_number_25 : decode cX8_number 25 = .ok (.iadd, 1) := by decide +kernel
theorem dX8_number_26 : decode cX8_number 26 = .ok (.bipush 48, 2) := by decide +kernel
theorem dX8_number_28 : decode cX8_number 28 = .ok (.isub, 1) := by decide +kernel
theorem dX8_number_29 : decode cX8_number 29 = .ok (.istore_n 3, 1) := by decide +kernel
theorem dX8_number_30 : decode cX8_number 30 = .ok (.iinc 4 1, 3) := by decide +kernel
theorem dX8_number_33 : decode cX8_number 33 = .ok (.goto (-28), 3) := by decide +kernel
theorem dX8_number_36 : decode cX8_number 36 = .ok (.iload_n 3, 1) := by decide +kernel
theorem dX8_number_37 : decode cX8_number 37 = .ok (.ireturn, 1) := by decide +kernel
theorem dX9_init_0 : decode cX9_init 0 = .ok (.aload_n 0, 1) := by decide +kernel
theorem dX9_init_1 : decode cX9_init 1 = .ok (.invokespecial 1, 3) := by decide +kernel
theorem dX9_init_4 : decode cX9_init 4 = .ok (.aload_n 0, 1) := by decide +kernel
theorem dX9_init_5 : decode cX9_init 5 = .ok (.new 7, 3) := by decide +kernel
theorem dX9_init_8 : decode cX9_init 8 = .ok (.dup, 1) := by decide +kernel
theorem dX9_init_9 : decode cX9_init 9 = .ok (.invokespecial 9, 3) := by decide +kernel
theorem dX9_init_12 : decode cX9_init 12 = .ok (.putfield 10, 3) := by decide +kernel
theorem dX9_init_15 : decode cX9_init 15 = .ok (.aload_n 0, 1) := by decide +kernel
theorem dX9_init_16 : decode cX9_init 16 = .ok (.new 16, 3) := by decide +kernel
theorem dX9_init_19 : decode cX9_init 19 = .ok (.dup, 1) := by decide +kernel
theorem dX9_init_20 : decode cX9_init 20 = .ok (.invokespecial 18, 3) := by decide +kernel
theorem dX9_init_23 : decode cX9_init 23 = .ok (.putfield 19, 3) := by decide +kernel
theorem dX9_init_26 : decode cX9_init 26 = .ok (.aload_n 0, 1) := by decide +kernel
theorem dX9_init_27 : decode cX9_init 27 = .ok (.new 23, 3) := by decide +kernel
theorem dX9_init_30 : decode cX9_init 30 = .ok (.dup, 1) := by decide +kernel
theorem dX9_init_31 : decode cX9_init 31 = .ok (.invokespecial 25, 3) := by decide +kernel
theorem dX9_init_34 : decode cX9_init 34 = .ok (.putfield 26, 3) := by decide +kernel
theorem dX9_init_37 : decode cX9_init 37 = .ok (.aload_n 0, 1) := by decide +kernel
theorem dX9_init_38 : decode cX9_init 38 = .ok (.new 23, 3) := by decide +kernel
theorem dX9_init_41 : decode cX9_init 41 = .ok (.dup, 1) := by decide +kernel
theorem dX9_init_42 : decode cX9_init 42 = .ok (.invokespecial 25, 3) := by decide +kernel
theorem dX9_init_45 : decode cX9_init 45 = .ok (.putfield 30, 3) := by decide +kernel
theorem dX9_init_48 : decode cX9_init 48 = .ok (.aload_n 0, 1) := by decide +kernel
theorem dX9_init_49 : decode cX9_init 49 = .ok (.new 23, 3) := by decide +kernel
theorem dX9_init_52 : decode cX9_init 52 = .ok (.dup, 1) := by decide +kernel
theorem dX9_init_53 : decode cX9_init 53 = .ok (.invokespecial 25, 3) := by decide +kernel
theorem dX9_init_56 : decode cX9_init 56 = .ok (.putfield 33, 3) := by decide +kernel
theorem dX9_init_59 : decode cX9_init 59 = .ok (.aload_n 0, 1) := by decide +kernel
theorem dX9_init_60 : decode cX9_init 60 = .ok (.new 36, 3) := by decide +kernel
theorem dX9_init_63 : decode cX9_init 63 = .ok (.dup, 1) := by decide +kernel
theorem dX9_init_64 : decode cX9_init 64 = .ok (.invokespecial 38, 3) := by decide +kernel
theorem dX9_init_67 : decode cX9_init 67 = .ok (.putfield 39, 3) := by decide +kernel
theorem dX9_init_70 : decode cX9_init 70 = .ok (.aload_n 0, 1) := by decide +kernel
theorem dX9_init_71 : decode cX9_init 71 = .ok (.iconst 3, 1) := by decide +kernel
theorem dX9_init_72 : decode cX9_init 72 = .ok (.anewarray 23, 3) := by decide +kernel
theorem dX9_init_75 : decode cX9_init 75 = .ok (.putfield 43, 3) := by decide +kernel
theorem dX9_init_78 : decode cX9_init 78 = .ok (.iconst 0, 1) := by decide +kernel
theorem dX9_init_79 : decode cX9_init 79 = .ok (.istore_n 1, 1) := by decide +kernel
theorem dX9_init_80 : decode cX9_init 80 = .ok (.iload_n 1, 1) := by decide +kernel
theorem dX9_init_81 : decode cX9_init 81 = .ok (.aload_n 0, 1) := by decide +kernel
theorem dX9_init_82 : decode cX9_init 82 = .ok (.getfield 43, 3) := by decide +kernel
theorem dX9_init_85 : decode cX9_init 85 = .ok (.arraylength, 1) := by decide +kernel
theorem dX9_init_86 : decode cX9_init 86 = .ok (.if_icmp .ge 32, 3) := by decide +kernel
theorem dX9_init_89 : decode cX9_init 89 = .ok (.aload_n 0, 1) := by decide +kernel
theorem dX9_init_90 : decode cX9_init 90 = .ok (.getfield 43, 3) := by decide +kernel
theorem dX9_init_93 : decode cX9_init 93 = .ok (.iload_n 1, 1) := by decide +kernel
theorem dX9_init_94 : decode cX9_init 94 = .ok (.new 23, 3) := by decide +kernel
theorem dX9_init_97 : decode cX9_init 97 = .ok (.dup, 1) := by decide +kernel
theorem dX9_init_98 : decode cX9_init 98 = .ok (.invokespecial 25, 3) := by decide +kernel
theorem dX9_init_101 : decode cX9_init 101 = .ok (.aastore, 1) := by decide +kernel
theorem dX9_init_102 : decode cX9_init 102 = .ok (.aload_n 0, 1) := by decide +kernel
theorem dX9_init_103 : decode cX9_init 103 = .ok (.getfield 43, 3) := by decide +kernel
theorem dX9_init_106 : decode cX9_init 106 = .ok (.iload_n 1, 1) := by decide +kernel
theorem dX9_init_107 : decode cX9_init 107 = .ok (.aaload, 1) := by decide +kernel
theorem dX9_init_108 : decode cX9_init 108 = .ok (.iconst (-1), 1) := by decide +kernel
theorem dX9_init_109 : decode cX9_init 109 = .ok (.putfield 47, 3) := by decide +kernel
theorem dX9_init_112 : decode cX9_init 112 = .ok (.iinc 1 1, 3) := by decide +kernel
theorem dX9_init_115 : decode cX9_init 115 = .ok (.goto (-35), 3) := by decide +kernel
theorem dX9_init_118 : decode cX9_init 118 = .ok (.aload_n 0, 1) := by decide +kernel
theorem dX9_init_119 : decode cX9_init 119 = .ok (.bipush 6, 2) := by decide +kernel
theorem dX9_init_121 : decode cX9_init 121 = .ok (.newarray .int, 2) := by decide +kernel
theorem dX9_init_123 : decode cX9_init 123 = .ok (.putfield 51, 3) := by decide +kernel
theorem dX9_init_126 : decode cX9_init 126 = .ok (.aload_n 0, 1) := by decide +kernel
theorem dX9_init_127 : decode cX9_init 127 = .ok (.bipush 6, 2) := by decide +kernel
theorem dX9_init_129 : decode cX9_init 129 = .ok (.bipush 6, 2) := by decide +kernel
theorem dX9_init_131 : decode cX9_init 131 = .ok (.multianewarray 55 2, 4) := by decide +kernel
theorem dX9_init_135 : decode cX9_init 135 = .ok (.putfield 57, 3) := by decide +kernel
theorem dX9_init_138 : decode cX9_init 138 = .ok (.aload_n 0, 1) := by decide +kernel
theorem dX9_init_139 : decode cX9_init 139 = .ok (.new 60, 3) := by decide +kernel
theorem dX9_init_142 : decode cX9_init 142 = .ok (.dup, 1) := by decide +kernel
theorem dX9_init_143 : decode cX9_init 143 = .ok (.invokespecial 62, 3) := by decide +kernel
theorem dX9_init_146 : decode cX9_init 146 = .ok (.putfield 63, 3) := by decide +kernel
theorem dX9_init_149 : decode cX9_init 149 = .ok (.aload_n 0, 1) := by decide +kernel
theorem dX9_init_150 : decode cX9_init 150 = .ok (.new 67, 3) := by decide +kernel
theorem dX9_init_153 : decode cX9_init 153 = .ok (.dup, 1) := by decide +kernel
theorem dX9_init_154 : decode cX9_init 154 = .ok (.invokespecial 69, 3) := by decide +kernel
theorem dX9_init_157 : decode cX9_init 157 = .ok (.putfield 70, 3) := by decide +kernel
theorem dX9_init_160 : decode cX9_init 160 = .ok (.aload_n 0, 1) := by decide +kernel
theorem dX9_init_161 : decode cX9_init 161 = .ok (.new 74, 3) := by decide +kernel
theorem dX9_init_164 : decode cX9_init 164 = .ok (.dup, 1) := by decide +kernel
theorem dX9_init_165 : decode cX9_init 165 = .ok (.invokespecial 76, 3) := by decide +kernel
theorem dX9_init_168 : decode cX9_init 168 = .ok (.putfield 77, 3) := by decide +kernel
theorem dX9_init_171 : decode cX9_init 171 = .ok (.aload_n 0, 1) := by decide +kernel
theorem dX9_init_172 : decode cX9_init 172 = .ok (.new 81, 3) := by decide +kernel
theorem dX9_init_175 : decode cX9_init 175 = .ok (.dup, 1) := by decide +kernel
theorem dX9_init_176 : decode cX9_init 176 = .ok (.invokespecial 83, 3) := by decide +kernel
theorem dX9_init_179 : decode cX9_init 179 = .ok (.putfield 84, 3) := by decide +kernel
theorem dX9_init_182 : decode cX9_init 182 = .ok (.aload_n 0, 1) := by decide +kernel
theorem dX9_init_183 : decode cX9_init 183 = .ok (.new 81, 3) := by decide +kernel
theorem dX9_init_186 : decode cX9_init 186 = .ok (.dup, 1) := by decide +kernel
theorem dX9_init_187 : decode cX9_init 187 = .ok (.invokespecial 83, 3) := by decide +kernel
theorem dX9_init_190 : decode cX9_init 190 = .ok (.putfield 88, 3) := by decide +kernel
theorem dX9_init_193 : decode cX9_init 193 = .ok (.aload_n 0, 1) := by decide +kernel
theorem dX9_init_194 : decode cX9_init 194 = .ok (.new 91, 3) := by decide +kernel
theorem dX9_init_197 : decode cX9_init 197 = .ok (.dup, 1) := by decide +kernel
theorem dX9_init_198 : decode cX9_init 198 = .ok (.invokespecial 93, 3) := by decide +kernel
theorem dX9_init_201 : decode cX9_init 201 = .ok (.putfield 94, 3) := by decide +kernel
theorem dX9_init_204 : decode cX9_init 204 = .ok (.aload_n 0, 1) := by decide +kernel
theorem dX9_init_205 : decode cX9_init 205 = .ok (.new 91, 3) := by decide +kernel
theorem dX9_init_208 : decode cX9_init 208 = .ok (.dup, 1) := by decide +kernel
theorem dX9_init_209 : decode cX9_init 209 = .ok (.invokespecial 93, 3) := by decide +kernel
theorem dX9_init_212 : decode cX9_init 212 = .ok (.putfield 98, 3) := by decide +kernel
theorem dX9_init_215 : decode cX9_init 215 = .ok (.return_, 1) := by decide +kernel
theorem dX9_sign_0 : decode cX9_sign 0 = .ok (.aload_n 0, 1) := by decide +kernel
theorem dX9_sign_1 : decode cX9_sign 1 = .ok (.getfield 10, 3) := by decide +kernel
theorem dX9_sign_4 : decode cX9_sign 4 = .ok (.iload_n 1, 1) := by decide +kernel
theorem dX9_sign_5 : decode cX9_sign 5 = .ok (.invokevirtual 101, 3) := by decide +kernel
theorem dX9_sign_8 : decode cX9_sign 8 = .ok (.ifCond .eq 13, 3) := by decide +kernel
theorem dX9_sign_11 : decode cX9_sign 11 = .ok (.aload_n 0, 1) := by decide +kernel
theorem dX9_sign_12 : decode cX9_sign 12 = .ok (.getfield 10, 3) := by decide +kernel
theorem dX9_sign_15 : decode cX9_sign 15 = .ok (.getfield 105, 3) := by decide +kernel
theorem dX9_sign_18 : decode cX9_sign 18 = .ok (.goto 4, 3) := by decide +kernel
theorem dX9_sign_21 : decode cX9_sign 21 = .ok (.iconst (-1), 1) := by decide +kernel
theorem dX9_sign_22 : decode cX9_sign 22 = .ok (.ireturn, 1) := by decide +kernel
theorem dX9_end_0 : decode cX9_end 0 = .ok (.aload_n 0, 1) := by decide +kernel
theorem dX9_end_1 : decode cX9_end 1 = .ok (.getfield 10, 3) := by decide +kernel
theorem dX9_end_4 : decode cX9_end 4 = .ok (.iload_n 1, 1) := by decide +kernel
theorem dX9_end_5 : decode cX9_end 5 = .ok (.invokevirtual 108, 3) := by decide +kernel
theorem dX9_end_8 : decode cX9_end 8 = .ok (.ireturn, 1) := by decide +kernel
theorem dX9_markets_0 : decode cX9_markets 0 = .ok (.aload_n 0, 1) := by decide +kernel
theorem dX9_markets_1 : decode cX9_markets 1 = .ok (.getfield 63, 3) := by decide +kernel
theorem dX9_markets_4 : decode cX9_markets 4 = .ok (.aload_n 0, 1) := by decide +kernel
theorem dX9_markets_5 : decode cX9_markets 5 = .ok (.getfield 10, 3) := by decide +kernel
theorem dX9_markets_8 : decode cX9_markets 8 = .ok (.bipush 17, 2) := by decide +kernel
theorem dX9_markets_10 : decode cX9_markets 10 = .ok (.bipush 6, 2) := by decide +kernel
theorem dX9_markets_12 : decode cX9_markets 12 = .ok (.aload_n 0, 1) := by decide +kernel
theorem dX9_markets_13 : decode cX9_markets 13 = .ok (.getfield 26, 3) := by decide +kernel
theorem dX9_markets_16 : decode cX9_markets 16 = .ok (.getfield 47, 3) := by decide +kernel
theorem dX9_markets_19 : decode cX9_markets 19 = .ok (.isub, 1) := by decide +kernel
theorem dX9_markets_20 : decode cX9_markets 20 = .ok (.iconst 2, 1) := by decide +kernel
theorem dX9_markets_21 : decode cX9_markets 21 = .ok (.invokevirtual 111, 3) := by decide +kernel
theorem dX9_markets_24 : decode cX9_markets 24 = .ok (.istore_n 1, 1) := by decide +kernel
theorem dX9_markets_25 : decode cX9_markets 25 = .ok (.aload_n 0, 1) := by decide +kernel
theorem dX9_markets_26 : decode cX9_markets 26 = .ok (.getfield 10, 3) := by decide +kernel
theorem dX9_markets_29 : decode cX9_markets 29 = .ok (.invokevirtual 115, 3) := by decide +kernel
theorem dX9_markets_32 : decode cX9_markets 32 = .ok (.iload_n 1, 1) := by decide +kernel
theorem dX9_markets_33 : decode cX9_markets 33 = .ok (.iconst (-1), 1) := by decide +kernel
theorem dX9_markets_34 : decode cX9_markets 34 = .ok (.if_icmp .eq 7, 3) := by decide +kernel
theorem dX9_markets_37 : decode cX9_markets 37 = .ok (.iconst (-1), 1) := by decide +kernel
theorem dX9_markets_38 : decode cX9_markets 38 = .ok (.iload_n 1, 1) := by decide +kernel
theorem dX9_markets_39 : decode cX9_markets 39 = .ok (.isub, 1) := by decide +kernel
theorem dX9_markets_40 : decode cX9_markets 40 = .ok (.ireturn, 1) := by decide +kernel
theorem dX9_markets_41 : decode cX9_markets 41 = .ok (.iconst 0, 1) := by decide +kernel
theorem dX9_markets_42 : decode cX9_markets 42 = .ok (.istore_n 2, 1) := by decide +kernel
theorem dX9_markets_43 : decode cX9_markets 43 = .ok (.iload_n 2, 1) := by decide +kernel
theorem dX9_markets_44 : decode cX9_markets 44 = .ok (.aload_n 0, 1) := by decide +kernel
theorem dX9_markets_45 : decode cX9_markets 45 = .ok (.getfield 63, 3) := by decide +kernel
theorem dX9_markets_48 : decode cX9_markets 48 = .ok (.getfield 118, 3) := by decide +kernel
theorem dX9_markets_51 : decode cX9_markets 51 = .ok (.if_icmp .ge 22, 3) := by decide +kernel
theorem dX9_markets_54 : decode cX9_markets 54 = .ok (.aload_n 0, 1) := by decide +kernel
theorem dX9_markets_55 : decode cX9_markets 55 = .ok (.aload_n 0, 1) := by decide +kernel
theorem dX9_markets_56 : decode cX9_markets 56 = .ok (.getfield 63, 3) := by decide +kernel
theorem dX9_markets_59 : decode cX9_markets 59 = .ok (.getfield 119, 3) := by decide +kernel
theorem dX9_markets_62 : decode cX9_markets 62 = .ok (.iload_n 2, 1) := by decide +kernel
theorem dX9_markets_63 : decode cX9_markets 63 = .ok (.iaload, 1) := by decide +kernel
theorem dX9_markets_64 : decode cX9_markets 64 = .ok (.invokevirtual 122, 3) := by decide +kernel
theorem dX9_markets_67 : decode cX9_markets 67 = .ok (.iinc 2 1, 3) := by decide +kernel
theorem dX9_markets_70 : decode cX9_markets 70 = .ok (.goto (-27), 3) := by decide +kernel
theorem dX9_markets_73 : decode cX9_markets 73 = .ok (.aload_n 0, 1) := by decide +kernel
theorem dX9_markets_74 : decode cX9_markets 74 = .ok (.getfield 63, 3) := by decide +kernel
theorem dX9_markets_77 : decode cX9_markets 77 = .ok (.getfield 118, 3) := by decide +kernel
theorem dX9_markets_80 : decode cX9_markets 80 = .ok (.ifCond .le 10, 3) := by decide +kernel
theorem dX9_markets_83 : decode cX9_markets 83 = .ok (.aload_n 0, 1) := by decide +kernel
theorem dX9_markets_84 : decode cX9_markets 84 = .ok (.getfield 39, 3) := by decide +kernel
theorem dX9_markets_87 : decode cX9_markets 87 = .ok (.invokevirtual 126, 3) := by decide +kernel
theorem dX9_markets_90 : decode cX9_markets 90 = .ok (.aload_n 0, 1) := by decide +kernel
theorem dX9_markets_91 : decode cX9_markets 91 = .ok (.getfield 63, 3) := by decide +kernel
theorem dX9_markets_94 : decode cX9_markets 94 = .ok (.getfield 118, 3) := by decide +kernel
theorem dX9_markets_97 : decode cX9_markets 97 = .ok (.ireturn, 1) := by decide +kernel
theorem dX9_addMarket_0 : decode cX9_addMarket 0 = .ok (.aload_n 0, 1) := by decide +kernel
theorem dX9_addMarket_1 : decode cX9_addMarket 1 = .ok (.getfield 26, 3) := by decide +kernel
theorem dX9_addMarket_4 : decode cX9_addMarket 4 = .ok (.getfield 47, 3) := by decide +kernel
theorem dX9_addMarket_7 : decode cX9_addMarket 7 = .ok (.aload_n 0, 1) := by decide +kernel
theorem dX9_addMarket_8 : decode cX9_addMarket 8 = .ok (.getfield 51, 3) := by decide +kernel
theorem dX9_addMarket_11 : decode cX9_addMarket 11 = .ok (.arraylength, 1) := by decide +kernel
theorem dX9_addMarket_12 : decode cX9_addMarket 12 = .ok (.if_icmp .ge 23, 3) := by decide +kernel
theorem dX9_addMarket_15 : decode cX9_addMarket 15 = .ok (.aload_n 0, 1) := by decide +kernel
theorem dX9_addMarket_16 : decode cX9_addMarket 16 = .ok (.getfield 51, 3) := by decide +kernel
theorem dX9_addMarket_19 : decode cX9_addMarket 19 = .ok (.aload_n 0, 1) := by decide +kernel
theorem dX9_addMarket_20 : decode cX9_addMarket 20 = .ok (.getfield 26, 3) := by decide +kernel
theorem dX9_addMarket_23 : decode cX9_addMarket 23 = .ok (.getfield 47, 3) := by decide +kernel
theorem dX9_addMarket_26 : decode cX9_addMarket 26 = .ok (.iload_n 1, 1) := by decide +kernel
theorem dX9_addMarket_27 : decode cX9_addMarket 27 = .ok (.iastore, 1) := by decide +kernel
theorem dX9_addMarket_28 : decode cX9_addMarket 28 = .ok (.aload_n 0, 1) := by decide +kernel
theorem dX9_addMarket_29 : decode cX9_addMarket 29 = .ok (.getfield 26, 3) := by decide +kernel
theorem dX9_addMarket_32 : decode cX9_addMarket 32 = .ok (.invokevirtual 129, 3) := by decide +kernel
theorem dX9_addMarket_35 : decode cX9_addMarket 35 = .ok (.return_, 1) := by decide +kernel
theorem dX9_ships_0 : decode cX9_ships 0 = .ok (.aload_n 0, 1) := by decide +kernel
theorem dX9_ships_1 : decode cX9_ships 1 = .ok (.getfield 88, 3) := by decide +kernel
theorem dX9_ships_4 : decode cX9_ships 4 = .ok (.aload_n 0, 1) := by decide +kernel
theorem dX9_ships_5 : decode cX9_ships 5 = .ok (.getfield 10, 3) := by decide +kernel
theorem dX9_ships_8 : decode cX9_ships 8 = .ok (.invokevirtual 132, 3) := by decide +kernel
theorem dX9_ships_11 : decode cX9_ships 11 = .ok (.istore_n 1, 1) := by decide +kernel
theorem dX9_ships_12 : decode cX9_ships 12 = .ok (.aload_n 0, 1) := by decide +kernel
theorem dX9_ships_13 : decode cX9_ships 13 = .ok (.getfield 10, 3) := by decide +kernel
theorem dX9_ships_16 : decode cX9_ships 16 = .ok (.invokevirtual 115, 3) := by decide +kernel
theorem dX9_ships_19 : decode cX9_ships 19 = .ok (.iload_n 1, 1) := by decide +kernel
theorem dX9_ships_20 : decode cX9_ships 20 = .ok (.iconst (-1), 1) := by decide +kernel
theorem dX9_ships_21 : decode cX9_ships 21 = .ok (.if_icmp .eq 7, 3) := by decide +kernel
theorem dX9_ships_24 : decode cX9_ships 24 = .ok (.iconst (-1), 1) := by decide +kernel
theorem dX9_ships_25 : decode cX9_ships 25 = .ok (.iload_n 1, 1) := by decide +kernel
theorem dX9_ships_26 : decode cX9_ships 26 = .ok (.isub, 1) := by decide +kernel
theorem dX9_ships_27 : decode cX9_ships 27 = .ok (.ireturn, 1) := by decide +kernel
theorem dX9_ships_28 : decode cX9_ships 28 = .ok (.aload_n 0, 1) := by decide +kernel
theorem dX9_ships_29 : decode cX9_ships 29 = .ok (.getfield 84, 3) := by decide +kernel
theorem dX9_ships_32 : decode cX9_ships 32 = .ok (.astore_n 2, 1) := by decide +kernel
theorem dX9_ships_33 : decode cX9_ships 33 = .ok (.aload_n 0, 1) := by decide +kernel
theorem dX9_ships_34 : decode cX9_ships 34 = .ok (.aload_n 0, 1) := by decide +kernel
theorem dX9_ships_35 : decode cX9_ships 35 = .ok (.getfield 88, 3) := by decide +kernel
theorem dX9_ships_38 : decode cX9_ships 38 = .ok (.putfield 84, 3) := by decide +kernel
theorem dX9_ships_41 : decode cX9_ships 41 = .ok (.aload_n 0, 1) := by decide +kernel
theorem dX9_ships_42 : decode cX9_ships 42 = .ok (.aload_n 2, 1) := by decide +kernel
theorem dX9_ships_43 : decode cX9_ships 43 = .ok (.putfield 88, 3) := by decide +kernel
theorem dX9_ships_46 : decode cX9_ships 46 = .ok (.aload_n 0, 1) := by decide +kernel
theorem dX9_ships_47 : decode cX9_ships 47 = .ok (.getfield 84, 3) := by decide +kernel
theorem dX9_ships_50 : decode cX9_ships 50 = .ok (.getfield 135, 3) := by decide +kernel
theorem dX9_ships_53 : decode cX9_ships 53 = .ok (.ireturn, 1) := by decide +kernel
theorem dX9_rule_0 : decode cX9_rule 0 = .ok (.aload_n 0, 1) := by decide +kernel
theorem dX9_rule_1 : decode cX9_rule 1 = .ok (.getfield 98, 3) := by decide +kernel
theorem dX9_rule_4 : decode cX9_rule 4 = .ok (.aload_n 0, 1) := by decide +kernel
theorem dX9_rule_5 : decode cX9_rule 5 = .ok (.getfield 10, 3) := by decide +kernel
theorem dX9_rule_8 : decode cX9_rule 8 = .ok (.invokevirtual 136, 3) := by decide +kernel
theorem dX9_rule_11 : decode cX9_rule 11 = .ok (.istore_n 1, 1) := by decide +kernel
theorem dX9_rule_12 : decode cX9_rule 12 = .ok (.aload_n 0, 1) := by decide +kernel
theorem dX9_rule_13 : decode cX9_rule 13 = .ok (.getfield 10, 3) := by decide +kernel
theorem dX9_rule_16 : decode cX9_rule 16 = .ok (.invokevirtual 115, 3) := by decide +kernel
theorem dX9_rule_19 : decode cX9_rule 19 = .ok (.iload_n 1, 1) := by decide +kernel
theorem dX9_rule_20 : decode cX9_rule 20 = .ok (.iconst (-1), 1) := by decide +kernel
theorem dX9_rule_21 : decode cX9_rule 21 = .ok (.if_icmp .eq 7, 3) := by decide +kernel
theorem dX9_rule_24 : decode cX9_rule 24 = .ok (.iconst (-1), 1) := by decide +kernel
theorem dX9_rule_25 : decode cX9_rule 25 = .ok (.iload_n 1, 1) := by decide +kernel
theorem dX9_rule_26 : decode cX9_rule 26 = .ok (.isub, 1) := by decide +kernel
theorem dX9_rule_27 : decode cX9_rule 27 = .ok (.ireturn, 1) := by decide +kernel
theorem dX9_rule_28 : decode cX9_rule 28 = .ok (.aload_n 0, 1) := by decide +kernel
theorem dX9_rule_29 : decode cX9_rule 29 = .ok (.getfield 94, 3) := by decide +kernel
theorem dX9_rule_32 : decode cX9_rule 32 = .ok (.astore_n 2, 1) := by decide +kernel
theorem dX9_rule_33 : decode cX9_rule 33 = .ok (.aload_n 0, 1) := by decide +kernel
theorem dX9_rule_34 : decode cX9_rule 34 = .ok (.aload_n 0, 1) := by decide +kernel
theorem dX9_rule_35 : decode cX9_rule 35 = .ok (.getfield 98, 3) := by decide +kernel
theorem dX9_rule_38 : decode cX9_rule 38 = .ok (.putfield 94, 3) := by decide +kernel
theorem dX9_rule_41 : decode cX9_rule 41 = .ok (.aload_n 0, 1) := by decide +kernel
theorem dX9_rule_42 : decode cX9_rule 42 = .ok (.aload_n 2, 1) := by decide +kernel
theorem dX9_rule_43 : decode cX9_rule 43 = .ok (.putfield 98, 3) := by decide +kernel
theorem dX9_rule_46 : decode cX9_rule 46 = .ok (.iconst 0, 1) := by decide +kernel
theorem dX9_rule_47 : decode cX9_rule 47 = .ok (.ireturn, 1) := by decide +kernel
theorem dX9_market_0 : decode cX9_market 0 = .ok (.aload_n 0, 1) := by decide +kernel
theorem dX9_market_1 : decode cX9_market 1 = .ok (.getfield 26, 3) := by decide +kernel
theorem dX9_market_4 : decode cX9_market 4 = .ok (.iload_n 1, 1) := by decide +kernel
theorem dX9_market_5 : decode cX9_market 5 = .ok (.invokevirtual 137, 3) := by decide +kernel
theorem dX9_market_8 : decode cX9_market 8 = .ok (.ifCond .eq 12, 3) := by decide +kernel
theorem dX9_market_11 : decode cX9_market 11 = .ok (.iload_n 2, 1) := by decide +kernel
theorem dX9_market_12 : decode cX9_market 12 = .ok (.iconst 0, 1) := by decide +kernel
theorem dX9_market_13 : decode cX9_market 13 = .ok (.iconst 5, 1) := by decide +kernel
theorem dX9_market_14 : decode cX9_market 14 = .ok (.invokestatic 140, 3) := by decide +kernel
theorem dX9_market_17 : decode cX9_market 17 = .ok (.ifCond .ne 11, 3) := by decide +kernel
theorem dX9_market_20 : decode cX9_market 20 = .ok (.new 144, 3) := by decide +kernel
theorem dX9_market_23 : decode cX9_market 23 = .ok (.dup, 1) := by decide +kernel
theorem dX9_market_24 : decode cX9_market 24 = .ok (.invokespecial 146, 3) := by decide +kernel
theorem dX9_market_27 : decode cX9_market 27 = .ok (.athrow, 1) := by decide +kernel
theorem dX9_market_28 : decode cX9_market 28 = .ok (.iload_n 2, 1) := by decide +kernel
theorem dX9_market_29 : decode cX9_market 29 = .ok (.tableswitch 90 0 4 #[35, 42, 54, 66, 78], 35) := by decide +kernel
theorem dX9_market_64 : decode cX9_market 64 = .ok (.aload_n 0, 1) := by decide +kernel
theorem dX9_market_65 : decode cX9_market 65 = .ok (.getfield 51, 3) := by decide +kernel
theorem dX9_market_68 : decode cX9_market 68 = .ok (.iload_n 1, 1) := by decide +kernel
theorem dX9_market_69 : decode cX9_market 69 = .ok (.iaload, 1) := by decide +kernel
theorem dX9_market_70 : decode cX9_market 70 = .ok (.ireturn, 1) := by decide +kernel
theorem dX9_market_71 : decode cX9_market 71 = .ok (.aload_n 0, 1) := by decide +kernel
theorem dX9_market_72 : decode cX9_market 72 = .ok (.getfield 26, 3) := by decide +kernel
theorem dX9_market_75 : decode cX9_market 75 = .ok (.getfield 147, 3) := by decide +kernel
theorem dX9_market_78 : decode cX9_market 78 = .ok (.iconst 0, 1) := by decide +kernel
theorem dX9_market_79 : decode cX9_market 79 = .ok (.aaload, 1) := by decide +kernel
theorem dX9_market_80 : decode cX9_market 80 = .ok (.iload_n 1, 1) := by decide +kernel
theorem dX9_market_81 : decode cX9_market 81 = .ok (.iaload, 1) := by decide +kernel
theorem dX9_market_82 : decode cX9_market 82 = .ok (.ireturn, 1) := by decide +kernel
theorem dX9_market_83 : decode cX9_market 83 = .ok (.aload_n 0, 1) := by decide +kernel
theorem dX9_market_84 : decode cX9_market 84 = .ok (.getfield 26, 3) := by decide +kernel
theorem dX9_market_87 : decode cX9_market 87 = .ok (.getfield 147, 3) := by decide +kernel
theorem dX9_market_90 : decode cX9_market 90 = .ok (.iconst 1, 1) := by decide +kernel
theorem dX9_market_91 : decode cX9_market 91 = .ok (.aaload, 1) := by decide +kernel
theorem dX9_market_92 : decode cX9_market 92 = .ok (.iload_n 1, 1) := by decide +kernel
theorem dX9_market_93 : decode cX9_market 93 = .ok (.iaload, 1) := by decide +kernel
theorem dX9_market_94 : decode cX9_market 94 = .ok (.ireturn, 1) := by decide +kernel
theorem dX9_market_95 : decode cX9_market 95 = .ok (.aload_n 0, 1) := by decide +kernel
theorem dX9_market_96 : decode cX9_market 96 = .ok (.getfield 26, 3) := by decide +kernel
theorem dX9_market_99 : decode cX9_market 99 = .ok (.getfield 150, 3) := by decide +kernel
theorem dX9_market_102 : decode cX9_market 102 = .ok (.iconst 0, 1) := by decide +kernel
theorem dX9_market_103 : decode cX9_market 103 = .ok (.aaload, 1) := by decide +kernel
theorem dX9_market_104 : decode cX9_market 104 = .ok (.iload_n 1, 1) := by decide +kernel
theorem dX9_market_105 : decode cX9_market 105 = .ok (.iaload, 1) := by decide +kernel
theorem dX9_market_106 : decode cX9_market 106 = .ok (.ireturn, 1) := by decide +kernel
theorem dX9_market_107 : decode cX9_market 107 = .ok (.aload_n 0, 1) := by decide +kernel
theorem dX9_market_108 : decode cX9_market 108 = .ok (.getfield 26, 3) := by decide +kernel
theorem dX9_market_111 : decode cX9_market 111 = .ok (.getfield 150, 3) := by decide +kernel
theorem dX9_market_114 : decode cX9_market 114 = .ok (.iconst 1, 1) := by decide +kernel
theorem dX9_market_115 : decode cX9_market 115 = .ok (.aaload, 1) := by decide +kernel
theorem dX9_market_116 : decode cX9_market 116 = .ok (.iload_n 1, 1) := by decide +kernel
theorem dX9_market_117 : decode cX9_market 117 = .ok (.iaload, 1) := by decide +kernel
theorem dX9_market_118 : decode cX9_market 118 = .ok (.ireturn, 1) := by decide +kernel
theorem dX9_market_119 : decode cX9_market 119 = .ok (.aload_n 0, 1) := by decide +kernel
theorem dX9_market_120 : decode cX9_market 120 = .ok (.aload_n 0, 1) := by decide +kernel
theorem dX9_market_121 : decode cX9_market 121 = .ok (.getfield 26, 3) := by decide +kernel
theorem dX9_market_124 : decode cX9_market 124 = .ok (.iload_n 1, 1) := by decide +kernel
theorem dX9_market_125 : decode cX9_market 125 = .ok (.invokevirtual 153, 3) := by decide +kernel
theorem dX9_market_128 : decode cX9_market 128 = .ok (.ireturn, 1) := by decide +kernel
theorem dX9_load_0 : decode cX9_load 0 = .ok (.iload_n 1, 1) := by decide +kernel
theorem dX9_load_1 : decode cX9_load 1 = .ok (.iconst 0, 1) := by decide +kernel
theorem dX9_load_2 : decode cX9_load 2 = .ok (.aload_n 0, 1) := by decide +kernel
theorem dX9_load_3 : decode cX9_load 3 = .ok (.getfield 84, 3) := by decide +kernel
theorem dX9_load_6 : decode cX9_load 6 = .ok (.getfield 135, 3) := by decide +kernel
theorem dX9_load_9 : decode cX9_load 9 = .ok (.iconst 1, 1) := by decide +kernel
theorem dX9_load_10 : decode cX9_load 10 = .ok (.isub, 1) := by decide +kernel
theorem dX9_load_11 : decode cX9_load 11 = .ok (.invokestatic 140, 3) := by decide +kernel
theorem dX9_load_14 : decode cX9_load 14 = .ok (.ifCond .eq 12, 3) := by decide +kernel
theorem dX9_load_17 : decode cX9_load 17 = .ok (.iload_n 2, 1) := by decide +kernel
theorem dX9_load_18 : decode cX9_load 18 = .ok (.iconst 0, 1) := by decide +kernel
theorem dX9_load_19 : decode cX9_load 19 = .ok (.iconst 1, 1) := by decide +kernel
theorem dX9_load_20 : decode cX9_load 20 = .ok (.invokestatic 140, 3) := by decide +kernel
theorem dX9_load_23 : decode cX9_load 23 = .ok (.ifCond .ne 11, 3) := by decide +kernel
theorem dX9_load_26 : decode cX9_load 26 = .ok (.new 144, 3) := by decide +kernel
theorem dX9_load_29 : decode cX9_load 29 = .ok (.dup, 1) := by decide +kernel
theorem dX9_load_30 : decode cX9_load 30 = .ok (.invokespecial 146, 3) := by decide +kernel
theorem dX9_load_33 : decode cX9_load 33 = .ok (.athrow, 1) := by decide +kernel
theorem dX9_load_34 : decode cX9_load 34 = .ok (.iload_n 2, 1) := by decide +kernel
theorem dX9_load_35 : decode cX9_load 35 = .ok (.ifCond .ne 15, 3) := by decide +kernel
theorem dX9_load_38 : decode cX9_load 38 = .ok (.aload_n 0, 1) := by decide +kernel
theorem dX9_load_39 : decode cX9_load 39 = .ok (.getfield 84, 3) := by decide +kernel
theorem dX9_load_42 : decode cX9_load 42 = .ok (.getfield 157, 3) := by decide +kernel
theorem dX9_load_45 : decode cX9_load 45 = .ok (.iload_n 1, 1) := by decide +kernel
theorem dX9_load_46 : decode cX9_load 46 = .ok (.iaload, 1) := by decide +kernel
theorem dX9_load_47 : decode cX9_load 47 = .ok (.goto 12, 3) := by decide +kernel
theorem dX9_load_50 : decode cX9_load 50 = .ok (.aload_n 0, 1) := by decide +kernel
theorem dX9_load_51 : decode cX9_load 51 = .ok (.getfield 84, 3) := by decide +kernel
theorem dX9_load_54 : decode cX9_load 54 = .ok (.getfield 160, 3) := by decide +kernel
theorem dX9_load_57 : decode cX9_load 57 = .ok (.iload_n 1, 1) := by decide +kernel
theorem dX9_load_58 : decode cX9_load 58 = .ok (.iaload, 1) := by decide +kernel
theorem dX9_load_59 : decode cX9_load 59 = .ok (.ireturn, 1) := by decide +kernel
theorem dX9_sheet_0 : decode cX9_sheet 0 = .ok (.iload_n 1, 1) := by decide +kernel
theorem dX9_sheet_1 : decode cX9_sheet 1 = .ok (.iconst 0, 1) := by decide +kernel
theorem dX9_sheet_2 : decode cX9_sheet 2 = .ok (.iconst 3, 1) := by decide +kernel
theorem dX9_sheet_3 : decode cX9_sheet 3 = .ok (.invokestatic 140, 3) := by decide +kernel
theorem dX9_sheet_6 : decode cX9_sheet 6 = .ok (.ifCond .eq 9, 3) := by decide +kernel
theorem dX9_sheet_9 : decode cX9_sheet 9 = .ok (.iload_n 2, 1) := by decide +kernel
theorem dX9_sheet_10 : decode cX9_sheet 10 = .ok (.bipush 6, 2) := by decide +kernel
theorem dX9_sheet_12 : decode cX9_sheet 12 = .ok (.if_icmp .le 5, 3) := by decide +kernel
theorem dX9_sheet_15 : decode cX9_sheet 15 = .ok (.iconst (-1), 1) := by decide +kernel
theorem dX9_sheet_16 : decode cX9_sheet 16 = .ok (.ireturn, 1) := by decide +kernel
theorem dX9_sheet_17 : decode cX9_sheet 17 = .ok (.iload_n 1, 1) := by decide +kernel
theorem dX9_sheet_18 : decode cX9_sheet 18 = .ok (.iconst 3, 1) := by decide +kernel
theorem dX9_sheet_19 : decode cX9_sheet 19 = .ok (.if_icmp .ne 16, 3) := by decide +kernel
theorem dX9_sheet_22 : decode cX9_sheet 22 = .ok (.aload_n 0, 1) := by decide +kernel
theorem dX9_sheet_23 : decode cX9_sheet 23 = .ok (.iload_n 1, 1) := by decide +kernel
theorem dX9_sheet_24 : decode cX9_sheet 24 = .ok (.iconst 0, 1) := by decide +kernel
theorem dX9_sheet_25 : decode cX9_sheet 25 = .ok (.iload_n 3, 1) := by decide +kernel
theorem dX9_sheet_26 : decode cX9_sheet 26 = .ok (.iload 4, 2) := by decide +kernel
theorem dX9_sheet_28 : decode cX9_sheet 28 = .ok (.invokevirtual 163, 3) := by decide +kernel
theorem dX9_sheet_31 : decode cX9_sheet 31 = .ok (.pop, 1) := by decide +kernel
theorem dX9_sheet_32 : decode cX9_sheet 32 = .ok (.bipush (-3), 2) := by decide +kernel
theorem dX9_sheet_34 : decode cX9_sheet 34 = .ok (.ireturn, 1) := by decide +kernel
theorem dX9_sheet_35 : decode cX9_sheet 35 = .ok (.iload_n 2, 1) := by decide +kernel
theorem dX9_sheet_36 : decode cX9_sheet 36 = .ok (.ifCond .ge 6, 3) := by decide +kernel
theorem dX9_sheet_39 : decode cX9_sheet 39 = .ok (.bipush (-2), 2) := by decide +kernel
theorem dX9_sheet_41 : decode cX9_sheet 41 = .ok (.ireturn, 1) := by decide +kernel
theorem dX9_sheet_42 : decode cX9_sheet 42 = .ok (.aload_n 0, 1) := by decide +kernel
theorem dX9_sheet_43 : decode cX9_sheet 43 = .ok (.iload_n 1, 1) := by decide +kernel
theorem dX9_sheet_44 : decode cX9_sheet 44 = .ok (.iload_n 2, 1) := by decide +kernel
theorem dX9_sheet_45 : decode cX9_sheet 45 = .ok (.iload_n 3, 1) := by decide +kernel
theorem dX9_sheet_46 : decode cX9_sheet 46 = .ok (.iload 4, 2) := by decide +kernel
theorem dX9_sheet_48 : decode cX9_sheet 48 = .ok (.invokevirtual 163, 3) := by decide +kernel
theorem dX9_sheet_51 : decode cX9_sheet 51 = .ok (.ireturn, 1) := by decide +kernel
theorem dX9_fillGoods_0 : decode cX9_fillGoods 0 = .ok (.iconst 0, 1) := by decide +kernel
theorem dX9_fillGoods_1 : decode cX9_fillGoods 1 = .ok (.istore 5, 2) := by decide +kernel
theorem dX9_fillGoods_3 : decode cX9_fillGoods 3 = .ok (.iload_n 3, 1) := by decide +kernel
theorem dX9_fillGoods_4 : decode cX9_fillGoods 4 = .ok (.istore 6, 2) := by decide +kernel
theorem dX9_fillGoods_6 : decode cX9_fillGoods 6 = .ok (.iconst 0, 1) := by decide +kernel
theorem dX9_fillGoods_7 : decode cX9_fillGoods 7 = .ok (.istore 7, 2) := by decide +kernel
theorem dX9_fillGoods_9 : decode cX9_fillGoods 9 = .ok (.iload 7, 2) := by decide +kernel
theorem dX9_fillGoods_11 : decode cX9_fillGoods 11 = .ok (.aload_n 0, 1) := by decide +kernel
theorem dX9_fillGoods_12 : decode cX9_fillGoods 12 = .ok (.getfield 26, 3) := by decide +kernel
theorem dX9_fillGoods_15 : decode cX9_fillGoods 15 = .ok (.getfield 47, 3) := by decide +kernel
theorem dX9_fillGoods_18 : decode cX9_fillGoods 18 = .ok (.if_icmp .ge 57, 3) := by decide +kernel
theorem dX9_fillGoods_21 : decode cX9_fillGoods 21 = .ok (.aload_n 0, 1) := by decide +kernel
theorem dX9_fillGoods_22 : decode cX9_fillGoods 22 = .ok (.getfield 51, 3) := by decide +kernel
theorem dX9_fillGoods_25 : decode cX9_fillGoods 25 = .ok (.iload 7, 2) := by decide +kernel
theorem dX9_fillGoods_27 : decode cX9_fillGoods 27 = .ok (.iload 7, 2) := by decide +kernel
theorem dX9_fillGoods_29 : decode cX9_fillGoods 29 = .ok (.iload_n 2, 1) := by decide +kernel
theorem dX9_fillGoods_30 : decode cX9_fillGoods 30 = .ok (.if_icmp .ge 18, 3) := by decide +kernel
theorem dX9_fillGoods_33 : decode cX9_fillGoods 33 = .ok (.iload_n 1, 1) := by decide +kernel
theorem dX9_fillGoods_34 : decode cX9_fillGoods 34 = .ok (.iload 6, 2) := by decide +kernel
theorem dX9_fillGoods_36 : decode cX9_fillGoods 36 = .ok (.invokestatic 167, 3) := by decide +kernel
theorem dX9_fillGoods_39 : decode cX9_fillGoods 39 = .ok (.iconst 1, 1) := by decide +kernel
theorem dX9_fillGoods_40 : decode cX9_fillGoods 40 = .ok (.bipush 99, 2) := by decide +kernel
theorem dX9_fillGoods_42 : decode cX9_fillGoods 42 = .ok (.invokestatic 171, 3) := by decide +kernel
theorem dX9_fillGoods_45 : decode cX9_fillGoods 45 = .ok (.goto 4, 3) := by decide +kernel
theorem dX9_fillGoods_48 : decode cX9_fillGoods 48 = .ok (.iconst 1, 1) := by decide +kernel
theorem dX9_fillGoods_49 : decode cX9_fillGoods 49 = .ok (.iastore, 1) := by decide +kernel
theorem dX9_fillGoods_50 : decode cX9_fillGoods 50 = .ok (.iload 5, 2) := by decide +kernel
theorem dX9_fillGoods_52 : decode cX9_fillGoods 52 = .ok (.aload_n 0, 1) := by decide +kernel
theorem dX9_fillGoods_53 : decode cX9_fillGoods 53 = .ok (.getfield 51, 3) := by decide +kernel
theorem dX9_fillGoods_56 : decode cX9_fillGoods 56 = .ok (.iload 7, 2) := by decide +kernel
theorem dX9_fillGoods_58 : decode cX9_fillGoods 58 = .ok (.iaload, 1) := by decide +kernel
theorem dX9_fillGoods_59 : decode cX9_fillGoods 59 = .ok (.iadd, 1) := by decide +kernel
theorem dX9_fillGoods_60 : decode cX9_fillGoods 60 = .ok (.istore 5, 2) := by decide +kernel
theorem dX9_fillGoods_62 : decode cX9_fillGoods 62 = .ok (.iload 6, 2) := by decide +kernel
theorem dX9_fillGoods_64 : decode cX9_fillGoods 64 = .ok (.iload 4, 2) := by decide +kernel
theorem dX9_fillGoods_66 : decode cX9_fillGoods 66 = .ok (.iadd, 1) := by decide +kernel
theorem dX9_fillGoods_67 : decode cX9_fillGoods 67 = .ok (.istore 6, 2) := by decide +kernel
theorem dX9_fillGoods_69 : decode cX9_fillGoods 69 = .ok (.iinc 7 1, 3) := by decide +kernel
theorem dX9_fillGoods_72 : decode cX9_fillGoods 72 = .ok (.goto (-63), 3) := by decide +kernel
theorem dX9_fillGoods_75 : decode cX9_fillGoods 75 = .ok (.iload 5, 2) := by decide +kernel
theorem dX9_fillGoods_77 : decode cX9_fillGoods 77 = .ok (.ireturn, 1) := by decide +kernel
theorem dX9_asKind_0 : decode cX9_asKind 0 = .ok (.iload_n 0, 1) := by decide +kernel
theorem dX9_asKind_1 : decode cX9_asKind 1 = .ok (.ifCond .ne 6, 3) := by decide +kernel
theorem dX9_asKind_4 : decode cX9_asKind 4 = .ok (.iload_n 1, 1) := by decide +kernel
theorem dX9_asKind_5 : decode cX9_asKind 5 = .ok (.i2b, 1) := by decide +kernel
theorem dX9_asKind_6 : decode cX9_asKind 6 = .ok (.ireturn, 1) := by decide +kernel
theorem dX9_asKind_7 : decode cX9_asKind 7 = .ok (.iload_n 0, 1) := by decide +kernel
theorem dX9_asKind_8 : decode cX9_asKind 8 = .ok (.iconst 1, 1) := by decide +kernel
theorem dX9_asKind_9 : decode cX9_asKind 9 = .ok (.if_icmp .ne 8, 3) := by decide +kernel
theorem dX9_asKind_12 : decode cX9_asKind 12 = .ok (.iload_n 1, 1) := by decide +kernel
theorem dX9_asKind_13 : decode cX9_asKind 13 = .ok (.i2s, 1) := by decide +kernel
theorem dX9_asKind_14 : decode cX9_asKind 14 = .ok (.goto 4, 3) := by decide +kernel
theorem dX9_asKind_17 : decode cX9_asKind 17 = .ok (.iload_n 1, 1) := by decide +kernel
theorem dX9_asKind_18 : decode cX9_asKind 18 = .ok (.ireturn, 1) := by decide +kernel
theorem dX9_months_0 : decode cX9_months 0 = .ok (.iload_n 1, 1) := by decide +kernel
theorem dX9_months_1 : decode cX9_months 1 = .ok (.iconst 0, 1) := by decide +kernel
theorem dX9_months_2 : decode cX9_months 2 = .ok (.bipush 60, 2) := by decide +kernel
theorem dX9_months_4 : decode cX9_months 4 = .ok (.invokestatic 140, 3) := by decide +kernel
theorem dX9_months_7 : decode cX9_months 7 = .ok (.ifCond .ne 5, 3) := by decide +kernel
theorem dX9_months_10 : decode cX9_months 10 = .ok (.iconst (-1), 1) := by decide +kernel
theorem dX9_months_11 : decode cX9_months 11 = .ok (.ireturn, 1) := by decide +kernel
theorem dX9_months_12 : decode cX9_months 12 = .ok (.aload_n 0, 1) := by decide +kernel
theorem dX9_months_13 : decode cX9_months 13 = .ok (.getfield 30, 3) := by decide +kernel
theorem dX9_months_16 : decode cX9_months 16 = .ok (.aload_n 0, 1) := by decide +kernel
theorem dX9_months_17 : decode cX9_months 17 = .ok (.getfield 26, 3) := by decide +kernel
theorem dX9_months_20 : decode cX9_months 20 = .ok (.invokevirtual 175, 3) := by decide +kernel
theorem dX9_months_23 : decode cX9_months 23 = .ok (.aload_n 0, 1) := by decide +kernel
theorem dX9_months_24 : decode cX9_months 24 = .ok (.getfield 26, 3) := by decide +kernel
theorem dX9_months_27 : decode cX9_months 27 = .ok (.aload_n 0, 1) := by decide +kernel
theorem dX9_months_28 : decode cX9_months 28 = .ok (.getfield 84, 3) := by decide +kernel
theorem dX9_months_31 : decode cX9_months 31 = .ok (.iload_n 1, 1) := by decide +kernel
theorem dX9_months_32 : decode cX9_months 32 = .ok (.invokevirtual 179, 3) := by decide +kernel
theorem dX9_months_35 : decode cX9_months 35 = .ok (.istore_n 2, 1) := by decide +kernel
theorem dX9_months_36 : decode cX9_months 36 = .ok (.aload_n 0, 1) := by decide +kernel
theorem dX9_months_37 : decode cX9_months 37 = .ok (.getfield 39, 3) := by decide +kernel
theorem dX9_months_40 : decode cX9_months 40 = .ok (.aload_n 0, 1) := by decide +kernel
theorem dX9_months_41 : decode cX9_months 41 = .ok (.getfield 30, 3) := by decide +kernel
theorem dX9_months_44 : decode cX9_months 44 = .ok (.invokevirtual 183, 3) := by decide +kernel
theorem dX9_months_47 : decode cX9_months 47 = .ok (.aload_n 0, 1) := by decide +kernel
theorem dX9_months_48 : decode cX9_months 48 = .ok (.getfield 26, 3) := by decide +kernel
theorem dX9_months_51 : decode cX9_months 51 = .ok (.getfield 47, 3) := by decide +kernel
theorem dX9_months_54 : decode cX9_months 54 = .ok (.ifCond .ne 7, 3) := by decide +kernel
theorem dX9_months_57 : decode cX9_months 57 = .ok (.iconst 1, 1) := by decide +kernel
theorem dX9_months_58 : decode cX9_months 58 = .ok (.goto 4, 3) := by decide +kernel
theorem dX9_months_61 : decode cX9_months 61 = .ok (.iconst 0, 1) := by decide +kernel
theorem dX9_months_62 : decode cX9_months 62 = .ok (.istore_n 3, 1) := by decide +kernel
theorem dX9_months_63 : decode cX9_months 63 = .ok (.aload_n 0, 1) := by decide +kernel
theorem dX9_months_64 : decode cX9_months 64 = .ok (.getfield 19, 3) := by decide +kernel
theorem dX9_months_67 : decode cX9_months 67 = .ok (.iload_n 2, 1) := by decide +kernel
theorem dX9_months_68 : decode cX9_months 68 = .ok (.i2l, 1) := by decide +kernel
theorem dX9_months_69 : decode cX9_months 69 = .ok (.iload_n 3, 1) := by decide +kernel
theorem dX9_months_70 : decode cX9_months 70 = .ok (.ifCond .eq 7, 3) := by decide +kernel
theorem dX9_months_73 : decode cX9_months 73 = .ok (.lconst 0, 1) := by decide +kernel
theorem dX9_months_74 : decode cX9_months 74 = .ok (.goto 21, 3) := by decide +kernel
theorem dX9_months_77 : decode cX9_months 77 = .ok (.aload_n 0, 1) := by decide +kernel
theorem dX9_months_78 : decode cX9_months 78 = .ok (.aload_n 0, 1) := by decide +kernel
theorem dX9_months_79 : decode cX9_months 79 = .ok (.getfield 26, 3) := by decide +kernel
theorem dX9_months_82 : decode cX9_months 82 = .ok (.aload_n 0, 1) := by decide +kernel
theorem dX9_months_83 : decode cX9_months 83 = .ok (.getfield 26, 3) := by decide +kernel
theorem dX9_months_86 : decode cX9_months 86 = .ok (.getfield 47, 3) := by decide +kernel
theorem dX9_months_89 : decode cX9_months 89 = .ok (.iconst 1, 1) := by decide +kernel
theorem dX9_months_90 : decode cX9_months 90 = .ok (.isub, 1) := by decide +kernel
theorem dX9_months_91 : decode cX9_months 91 = .ok (.invokevirtual 153, 3) := by decide +kernel
theorem dX9_months_94 : decode cX9_months 94 = .ok (.i2l, 1) := by decide +kernel
theorem dX9_months_95 : decode cX9_months 95 = .ok (.invokevirtual 185, 3) := by decide +kernel
theorem dX9_months_98 : decode cX9_months 98 = .ok (.iload_n 3, 1) := by decide +kernel
theorem dX9_months_99 : decode cX9_months 99 = .ok (.ifCond .eq 7, 3) := by decide +kernel
theorem dX9_months_102 : decode cX9_months 102 = .ok (.iconst 0, 1) := by decide +kernel
theorem dX9_months_103 : decode cX9_months 103 = .ok (.goto 12, 3) := by decide +kernel
theorem dX9_months_106 : decode cX9_months 106 = .ok (.aload_n 0, 1) := by decide +kernel
theorem dX9_months_107 : decode cX9_months 107 = .ok (.aload_n 0, 1) := by decide +kernel
theorem dX9_months_108 : decode cX9_months 108 = .ok (.getfield 26, 3) := by decide +kernel
theorem dX9_months_111 : decode cX9_months 111 = .ok (.iconst 0, 1) := by decide +kernel
theorem dX9_months_112 : decode cX9_months 112 = .ok (.invokevirtual 153, 3) := by decide +kernel
theorem dX9_months_115 : decode cX9_months 115 = .ok (.ireturn, 1) := by decide +kernel
theorem dX9_brings_0 : decode cX9_brings 0 = .ok (.aload_n 0, 1) := by decide +kernel
theorem dX9_brings_1 : decode cX9_brings 1 = .ok (.getfield 30, 3) := by decide +kernel
theorem dX9_brings_4 : decode cX9_brings 4 = .ok (.aload_n 0, 1) := by decide +kernel
theorem dX9_brings_5 : decode cX9_brings 5 = .ok (.getfield 26, 3) := by decide +kernel
theorem dX9_brings_8 : decode cX9_brings 8 = .ok (.invokevirtual 175, 3) := by decide +kernel
theorem dX9_brings_11 : decode cX9_brings 11 = .ok (.aload_n 0, 1) := by decide +kernel
theorem dX9_brings_12 : decode cX9_brings 12 = .ok (.aload_n 0, 1) := by decide +kernel
theorem dX9_brings_13 : decode cX9_brings 13 = .ok (.getfield 26, 3) := by decide +kernel
theorem dX9_brings_16 : decode cX9_brings 16 = .ok (.iload_n 1, 1) := by decide +kernel
theorem dX9_brings_17 : decode cX9_brings 17 = .ok (.iload_n 2, 1) := by decide +kernel
theorem dX9_brings_18 : decode cX9_brings 18 = .ok (.iload_n 3, 1) := by decide +kernel
theorem dX9_brings_19 : decode cX9_brings 19 = .ok (.invokevirtual 189, 3) := by decide +kernel
theorem dX9_brings_22 : decode cX9_brings 22 = .ok (.invokevirtual 192, 3) := by decide +kernel
theorem dX9_brings_25 : decode cX9_brings 25 = .ok (.ireturn, 1) := by decide +kernel
theorem dX9_lays_0 : decode cX9_lays 0 = .ok (.aload_n 0, 1) := by decide +kernel
theorem dX9_lays_1 : decode cX9_lays 1 = .ok (.getfield 30, 3) := by decide +kernel
theorem dX9_lays_4 : decode cX9_lays 4 = .ok (.aload_n 0, 1) := by decide +kernel
theorem dX9_lays_5 : decode cX9_lays 5 = .ok (.getfield 26, 3) := by decide +kernel
theorem dX9_lays_8 : decode cX9_lays 8 = .ok (.invokevirtual 175, 3) := by decide +kernel
theorem dX9_lays_11 : decode cX9_lays 11 = .ok (.aload_n 0, 1) := by decide +kernel
theorem dX9_lays_12 : decode cX9_lays 12 = .ok (.aload_n 0, 1) := by decide +kernel
theorem dX9_lays_13 : decode cX9_lays 13 = .ok (.getfield 26, 3) := by decide +kernel
theorem dX9_lays_16 : decode cX9_lays 16 = .ok (.iload_n 1, 1) := by decide +kernel
theorem dX9_lays_17 : decode cX9_lays 17 = .ok (.iload_n 2, 1) := by decide +kernel
theorem dX9_lays_18 : decode cX9_lays 18 = .ok (.iload_n 3, 1) := by decide +kernel
theorem dX9_lays_19 : decode cX9_lays 19 = .ok (.invokevirtual 196, 3) := by decide +kernel
theorem dX9_lays_22 : decode cX9_lays 22 = .ok (.invokevirtual 192, 3) := by decide +kernel
theorem dX9_lays_25 : decode cX9_lays 25 = .ok (.ireturn, 1) := by decide +kernel
theorem dX9_spends_0 : decode cX9_spends 0 = .ok (.aload_n 0, 1) := by decide +kernel
theorem dX9_spends_1 : decode cX9_spends 1 = .ok (.getfield 30, 3) := by decide +kernel
theorem dX9_spends_4 : decode cX9_spends 4 = .ok (.aload_n 0, 1) := by decide +kernel
theorem dX9_spends_5 : decode cX9_spends 5 = .ok (.getfield 26, 3) := by decide +kernel
theorem dX9_spends_8 : decode cX9_spends 8 = .ok (.invokevirtual 175, 3) := by decide +kernel
theorem dX9_spends_11 : decode cX9_spends 11 = .ok (.aload_n 0, 1) := by decide +kernel
theorem dX9_spends_12 : decode cX9_spends 12 = .ok (.aload_n 0, 1) := by decide +kernel
theorem dX9_spends_13 : decode cX9_spends 13 = .ok (.getfield 26, 3) := by decide +kernel
theorem dX9_spends_16 : decode cX9_spends 16 = .ok (.iload_n 1, 1) := by decide +kernel
theorem dX9_spends_17 : decode cX9_spends 17 = .ok (.iload_n 2, 1) := by decide +kernel
theorem dX9_spends_18 : decode cX9_spends 18 = .ok (.iload_n 3, 1) := by decide +kernel
theorem dX9_spends_19 : decode cX9_spends 19 = .ok (.invokevirtual 199, 3) := by decide +kernel
theorem dX9_spends_22 : decode cX9_spends 22 = .ok (.invokevirtual 192, 3) := by decide +kernel
theorem dX9_spends_25 : decode cX9_spends 25 = .ok (.ireturn, 1) := by decide +kernel
theorem dX9_taxes_0 : decode cX9_taxes 0 = .ok (.aload_n 0, 1) := by decide +kernel
theorem dX9_taxes_1 : decode cX9_taxes 1 = .ok (.getfield 30, 3) := by decide +kernel
theorem dX9_taxes_4 : decode cX9_taxes 4 = .ok (.aload_n 0, 1) := by decide +kernel
theorem dX9_taxes_5 : decode cX9_taxes 5 = .ok (.getfield 26, 3) := by decide +kernel
theorem dX9_taxes_8 : decode cX9_taxes 8 = .ok (.invokevirtual 175, 3) := by decide +kernel
theorem dX9_taxes_11 : decode cX9_taxes 11 = .ok (.aload_n 0, 1) := by decide +kernel
theorem dX9_taxes_12 : decode cX9_taxes 12 = .ok (.aload_n 0, 1) := by decide +kernel
theorem dX9_taxes_13 : decode cX9_taxes 13 = .ok (.getfield 26, 3) := by decide +kernel
theorem dX9_taxes_16 : decode cX9_taxes 16 = .ok (.iload_n 1, 1) := by decide +kernel
theorem dX9_taxes_17 : decode cX9_taxes 17 = .ok (.iload_n 2, 1) := by decide +kernel
theorem dX9_taxes_18 : decode cX9_taxes 18 = .ok (.invokevirtual 202, 3) := by decide +kernel
theorem dX9_taxes_21 : decode cX9_taxes 21 = .ok (.invokevirtual 192, 3) := by decide +kernel
theorem dX9_taxes_24 : decode cX9_taxes 24 = .ok (.ireturn, 1) := by decide +kernel
theorem dX9_burns_0 : decode cX9_burns 0 = .ok (.aload_n 0, 1) := by decide +kernel
theorem dX9_burns_1 : decode cX9_burns 1 = .ok (.getfield 30, 3) := by decide +kernel
theorem dX9_burns_4 : decode cX9_burns 4 = .ok (.aload_n 0, 1) := by decide +kernel
theorem dX9_burns_5 : decode cX9_burns 5 = .ok (.getfield 26, 3) := by decide +kernel
theorem dX9_burns_8 : decode cX9_burns 8 = .ok (.invokevirtual 175, 3) := by decide +kernel
theorem dX9_burns_11 : decode cX9_burns 11 = .ok (.aload_n 0, 1) := by decide +kernel
theorem dX9_burns_12 : decode cX9_burns 12 = .ok (.aload_n 0, 1) := by decide +kernel
theorem dX9_burns_13 : decode cX9_burns 13 = .ok (.getfield 26, 3) := by decide +kernel
theorem dX9_burns_16 : decode cX9_burns 16 = .ok (.iload_n 1, 1) := by decide +kernel
theorem dX9_burns_17 : decode cX9_burns 17 = .ok (.invokevirtual 205, 3) := by decide +kernel
theorem dX9_burns_20 : decode cX9_burns 20 = .ok (.invokevirtual 192, 3) := by decide +kernel
theorem dX9_burns_23 : decode cX9_burns 23 = .ok (.ireturn, 1) := by decide +kernel
theorem dX9_port_0 : decode cX9_port 0 = .ok (.aload_n 0, 1) := by decide +kernel
theorem dX9_port_1 : decode cX9_port 1 = .ok (.getfield 30, 3) := by decide +kernel
theorem dX9_port_4 : decode cX9_port 4 = .ok (.aload_n 0, 1) := by decide +kernel
theorem dX9_port_5 : decode cX9_port 5 = .ok (.getfield 26, 3) := by decide +kernel
theorem dX9_port_8 : decode cX9_port 8 = .ok (.invokevirtual 175, 3) := by decide +kernel
theorem dX9_port_11 : decode cX9_port 11 = .ok (.aload_n 0, 1) := by decide +kernel
theorem dX9_port_12 : decode cX9_port 12 = .ok (.aload_n 0, 1) := by decide +kernel
theorem dX9_port_13 : decode cX9_port 13 = .ok (.getfield 26, 3) := by decide +kernel
theorem dX9_port_16 : decode cX9_port 16 = .ok (.invokevirtual 208, 3) := by decide +kernel
theorem dX9_port_19 : decode cX9_port 19 = .ok (.invokevirtual 192, 3) := by decide +kernel
theorem dX9_port_22 : decode cX9_port 22 = .ok (.ireturn, 1) := by decide +kernel
theorem dX9_flow_0 : decode cX9_flow 0 = .ok (.aload_n 0, 1) := by decide +kernel
theorem dX9_flow_1 : decode cX9_flow 1 = .ok (.getfield 30, 3) := by decide +kernel
theorem dX9_flow_4 : decode cX9_flow 4 = .ok (.aload_n 0, 1) := by decide +kernel
theorem dX9_flow_5 : decode cX9_flow 5 = .ok (.getfield 26, 3) := by decide +kernel
theorem dX9_flow_8 : decode cX9_flow 8 = .ok (.invokevirtual 175, 3) := by decide +kernel
theorem dX9_flow_11 : decode cX9_flow 11 = .ok (.aload_n 0, 1) := by decide +kernel
theorem dX9_flow_12 : decode cX9_flow 12 = .ok (.aload_n 0, 1) := by decide +kernel
theorem dX9_flow_13 : decode cX9_flow 13 = .ok (.getfield 26, 3) := by decide +kernel
theorem dX9_flow_16 : decode cX9_flow 16 = .ok (.iload_n 1, 1) := by decide +kernel
theorem dX9_flow_17 : decode cX9_flow 17 = .ok (.invokevirtual 212, 3) := by decide +kernel
theorem dX9_flow_20 : decode cX9_flow 20 = .ok (.invokevirtual 192, 3) := by decide +kernel
theorem dX9_flow_23 : decode cX9_flow 23 = .ok (.ireturn, 1) := by decide +kernel
theorem dX9_remembered_0 : decode cX9_remembered 0 = .ok (.iload_n 1, 1) := by decide +kernel
theorem dX9_remembered_1 : decode cX9_remembered 1 = .ok (.ifCond .lt 14, 3) := by decide +kernel
theorem dX9_remembered_4 : decode cX9_remembered 4 = .ok (.aload_n 0, 1) := by decide +kernel
theorem dX9_remembered_5 : decode cX9_remembered 5 = .ok (.getfield 39, 3) := by decide +kernel
theorem dX9_remembered_8 : decode cX9_remembered 8 = .ok (.aload_n 0, 1) := by decide +kernel
theorem dX9_remembered_9 : decode cX9_remembered 9 = .ok (.getfield 30, 3) := by decide +kernel
theorem dX9_remembered_12 : decode cX9_remembered 12 = .ok (.invokevirtual 183, 3) := by decide +kernel
theorem dX9_remembered_15 : decode cX9_remembered 15 = .ok (.iload_n 1, 1) := by decide +kernel
theorem dX9_remembered_16 : decode cX9_remembered 16 = .ok (.ireturn, 1) := by decide +kernel
theorem dX9_year_0 : decode cX9_year 0 = .ok (.aload_n 0, 1) := by decide +kernel
theorem dX9_year_1 : decode cX9_year 1 = .ok (.invokevirtual 215, 3) := by decide +kernel
theorem dX9_year_4 : decode cX9_year 4 = .ok (.istore_n 1, 1) := by decide +kernel
theorem dX9_year_5 : decode cX9_year 5 = .ok (.iload_n 1, 1) := by decide +kernel
theorem dX9_year_6 : decode cX9_year 6 = .ok (.iconst (-1), 1) := by decide +kernel
theorem dX9_year_7 : decode cX9_year 7 = .ok (.if_icmp .eq 14, 3) := by decide +kernel
theorem dX9_year_10 : decode cX9_year 10 = .ok (.aload_n 0, 1) := by decide +kernel
theorem dX9_year_11 : decode cX9_year 11 = .ok (.getfield 10, 3) := by decide +kernel
theorem dX9_year_14 : decode cX9_year 14 = .ok (.invokevirtual 115, 3) := by decide +kernel
theorem dX9_year_17 : decode cX9_year 17 = .ok (.iconst (-1), 1) := by decide +kernel
theorem dX9_year_18 : decode cX9_year 18 = .ok (.iload_n 1, 1) := by decide +kernel
theorem dX9_year_19 : decode cX9_year 19 = .ok (.isub, 1) := by decide +kernel
theorem dX9_year_20 : decode cX9_year 20 = .ok (.ireturn, 1) := by decide +kernel
theorem dX9_year_21 : decode cX9_year 21 = .ok (.aload_n 0, 1) := by decide +kernel
theorem dX9_year_22 : decode cX9_year 22 = .ok (.getfield 30, 3) := by decide +kernel
theorem dX9_year_25 : decode cX9_year 25 = .ok (.aload_n 0, 1) := by decide +kernel
theorem dX9_year_26 : decode cX9_year 26 = .ok (.getfield 26, 3) := by decide +kernel
theorem dX9_year_29 : decode cX9_year 29 = .ok (.invokevirtual 175, 3) := by decide +kernel
theorem dX9_year_32 : decode cX9_year 32 = .ok (.iconst 0, 1) := by decide +kernel
theorem dX9_year_33 : decode cX9_year 33 = .ok (.istore_n 2, 1) := by decide +kernel
theorem dX9_year_34 : decode cX9_year 34 = .ok (.iconst 0, 1) := by decide +kernel
theorem dX9_year_35 : decode cX9_year 35 = .ok (.istore_n 3, 1) := by decide +kernel
theorem dX9_year_36 : decode cX9_year 36 = .ok (.iconst 0, 1) := by decide +kernel
theorem dX9_year_37 : decode cX9_year 37 = .ok (.istore 4, 2) := by decide +kernel
theorem dX9_year_39 : decode cX9_year 39 = .ok (.iload 4, 2) := by decide +kernel
theorem dX9_year_41 : decode cX9_year 41 = .ok (.aload_n 0, 1) := by decide +kernel
theorem dX9_year_42 : decode cX9_year 42 = .ok (.getfield 10, 3) := by decide +kernel
theorem dX9_year_45 : decode cX9_year 45 = .ok (.getfield 105, 3) := by decide +kernel
theorem dX9_year_48 : decode cX9_year 48 = .ok (.if_icmp .ge 53, 3) := by decide +kernel
theorem dX9_year_51 : decode cX9_year 51 = .ok (.iload_n 3, 1) := by decide +kernel
theorem dX9_year_52 : decode cX9_year 52 = .ok (.ifCond .ne 49, 3) := by decide +kernel
theorem dX9_year_55 : decode cX9_year 55 = .ok (.aload_n 0, 1) := by decide +kernel
theorem dX9_year_56 : decode cX9_year 56 = .ok (.iload 4, 2) := by decide +kernel
theorem dX9_year_58 : decode cX9_year 58 = .ok (.invokevirtual 218, 3) := by decide +kernel
theorem dX9_year_61 : decode cX9_year 61 = .ok (.ifCond .ge 8, 3) := by decide +kernel
theorem dX9_year_64 : decode cX9_year 64 = .ok (.iconst 1, 1) := by decide +kernel
theorem dX9_year_65 : decode cX9_year 65 = .ok (.istore_n 3, 1) := by decide +kernel
theorem dX9_year_66 : decode cX9_year 66 = .ok (.goto (-27), 3) := by decide +kernel
theorem dX9_year_69 : decode cX9_year 69 = .ok (.iinc 2 1, 3) := by decide +kernel
theorem dX9_year_72 : decode cX9_year 72 = .ok (.iload 4, 2) := by decide +kernel
theorem dX9_year_74 : decode cX9_year 74 = .ok (.iconst 1, 1) := by decide +kernel
theorem dX9_year_75 : decode cX9_year 75 = .ok (.aload_n 0, 1) := by decide +kernel
theorem dX9_year_76 : decode cX9_year 76 = .ok (.getfield 10, 3) := by decide +kernel
theorem dX9_year_79 : decode cX9_year 79 = .ok (.iload 4, 2) := by decide +kernel
theorem dX9_year_81 : decode cX9_year 81 = .ok (.bipush 60, 2) := by decide +kernel
theorem dX9_year_83 : decode cX9_year 83 = .ok (.invokevirtual 221, 3) := by decide +kernel
theorem dX9_year_86 : decode cX9_year 86 = .ok (.invokestatic 224, 3) := by decide +kernel
theorem dX9_year_89 : decode cX9_year 89 = .ok (.invokevirtual 228, 3) := by decide +kernel
theorem dX9_year_92 : decode cX9_year 92 = .ok (.invokestatic 232, 3) := by decide +kernel
theorem dX9_year_95 : decode cX9_year 95 = .ok (.iadd, 1) := by decide +kernel
theorem dX9_year_96 : decode cX9_year 96 = .ok (.istore 4, 2) := by decide +kernel
theorem dX9_year_98 : decode cX9_year 98 = .ok (.goto (-59), 3) := by decide +kernel
theorem dX9_year_101 : decode cX9_year 101 = .ok (.aload_n 0, 1) := by decide +kernel
theorem dX9_year_102 : decode cX9_year 102 = .ok (.getfield 10, 3) := by decide +kernel
theorem dX9_year_105 : decode cX9_year 105 = .ok (.invokevirtual 115, 3) := by decide +kernel
theorem dX9_year_108 : decode cX9_year 108 = .ok (.iload_n 2, 1) := by decide +kernel
theorem dX9_year_109 : decode cX9_year 109 = .ok (.ifCond .le 14, 3) := by decide +kernel
theorem dX9_year_112 : decode cX9_year 112 = .ok (.aload_n 0, 1) := by decide +kernel
theorem dX9_year_113 : decode cX9_year 113 = .ok (.getfield 39, 3) := by decide +kernel
theorem dX9_year_116 : decode cX9_year 116 = .ok (.aload_n 0, 1) := by decide +kernel
theorem dX9_year_117 : decode cX9_year 117 = .ok (.getfield 30, 3) := by decide +kernel
theorem dX9_year_120 : decode cX9_year 120 = .ok (.invokevirtual 183, 3) := by decide +kernel
theorem dX9_year_123 : decode cX9_year 123 = .ok (.aload_n 0, 1) := by decide +kernel
theorem dX9_year_124 : decode cX9_year 124 = .ok (.getfield 19, 3) := by decide +kernel
theorem dX9_year_127 : decode cX9_year 127 = .ok (.iload_n 3, 1) := by decide +kernel
theorem dX9_year_128 : decode cX9_year 128 = .ok (.i2l, 1) := by decide +kernel
theorem dX9_year_129 : decode cX9_year 129 = .ok (.aload_n 0, 1) := by decide +kernel
theorem dX9_year_130 : decode cX9_year 130 = .ok (.getfield 26, 3) := by decide +kernel
theorem dX9_year_133 : decode cX9_year 133 = .ok (.getfield 237, 3) := by decide +kernel
theorem dX9_year_136 : decode cX9_year 136 = .ok (.i2l, 1) := by decide +kernel
theorem dX9_year_137 : decode cX9_year 137 = .ok (.invokevirtual 185, 3) := by decide +kernel
theorem dX9_year_140 : decode cX9_year 140 = .ok (.iload_n 2, 1) := by decide +kernel
theorem dX9_year_141 : decode cX9_year 141 = .ok (.ireturn, 1) := by decide +kernel
theorem dX9_badSignOfYear_0 : decode cX9_badSignOfYear 0 = .ok (.aload_n 0, 1) := by decide +kernel
theorem dX9_badSignOfYear_1 : decode cX9_badSignOfYear 1 = .ok (.getfield 10, 3) := by decide +kernel
theorem dX9_badSignOfYear_4 : decode cX9_badSignOfYear 4 = .ok (.getfield 105, 3) := by decide +kernel
theorem dX9_badSignOfYear_7 : decode cX9_badSignOfYear 7 = .ok (.bipush 60, 2) := by decide +kernel
theorem dX9_badSignOfYear_9 : decode cX9_badSignOfYear 9 = .ok (.invokestatic 240, 3) := by decide +kernel
theorem dX9_badSignOfYear_12 : decode cX9_badSignOfYear 12 = .ok (.istore_n 1, 1) := by decide +kernel
theorem dX9_badSignOfYear_13 : decode cX9_badSignOfYear 13 = .ok (.iconst 0, 1) := by decide +kernel
theorem dX9_badSignOfYear_14 : decode cX9_badSignOfYear 14 = .ok (.istore_n 2, 1) := by decide +kernel
theorem dX9_badSignOfYear_15 : decode cX9_badSignOfYear 15 = .ok (.iload_n 2, 1) := by decide +kernel
theorem dX9_badSignOfYear_16 : decode cX9_badSignOfYear 16 = .ok (.iload_n 1, 1) := by decide +kernel
theorem dX9_badSignOfYear_17 : decode cX9_badSignOfYear 17 = .ok (.if_icmp .ge 82, 3) := by decide +kernel
theorem dX9_badSignOfYear_20 : decode cX9_badSignOfYear 20 = .ok (.aload_n 0, 1) := by decide +kernel
theorem dX9_badSignOfYear_21 : decode cX9_badSignOfYear 21 = .ok (.getfield 10, 3) := by decide +kernel
theorem dX9_badSignOfYear_24 : decode cX9_badSignOfYear 24 = .ok (.iload_n 2, 1) := by decide +kernel
theorem dX9_badSignOfYear_25 : decode cX9_badSignOfYear 25 = .ok (.iload_n 1, 1) := by decide +kernel
theorem dX9_badSignOfYear_26 : decode cX9_badSignOfYear 26 = .ok (.invokevirtual 221, 3) := by decide +kernel
theorem dX9_badSignOfYear_29 : decode cX9_badSignOfYear 29 = .ok (.invokestatic 224, 3) := by decide +kernel
theorem dX9_badSignOfYear_32 : decode cX9_badSignOfYear 32 = .ok (.astore_n 3, 1) := by decide +kernel
theorem dX9_badSignOfYear_33 : decode cX9_badSignOfYear 33 = .ok (.aload_n 3, 1) := by decide +kernel
theorem dX9_badSignOfYear_34 : decode cX9_badSignOfYear 34 = .ok (.invokevirtual 243, 3) := by decide +kernel
theorem dX9_badSignOfYear_37 : decode cX9_badSignOfYear 37 = .ok (.ifCond .eq 5, 3) := by decide +kernel
theorem dX9_badSignOfYear_40 : decode cX9_badSignOfYear 40 = .ok (.iload_n 2, 1) := by decide +kernel
theorem dX9_badSignOfYear_41 : decode cX9_badSignOfYear 41 = .ok (.ireturn, 1) := by decide +kernel
theorem dX9_badSignOfYear_42 : decode cX9_badSignOfYear 42 = .ok (.iconst 0, 1) := by decide +kernel
theorem dX9_badSignOfYear_43 : decode cX9_badSignOfYear 43 = .ok (.istore 4, 2) := by decide +kernel
theorem dX9_badSignOfYear_45 : decode cX9_badSignOfYear 45 = .ok (.iload 4, 2) := by decide +kernel
theorem dX9_badSignOfYear_47 : decode cX9_badSignOfYear 47 = .ok (.aload_n 3, 1) := by decide +kernel
theorem dX9_badSignOfYear_48 : decode cX9_badSignOfYear 48 = .ok (.invokevirtual 228, 3) := by decide +kernel
theorem dX9_badSignOfYear_51 : decode cX9_badSignOfYear 51 = .ok (.if_icmp .ge 38, 3) := by decide +kernel
theorem dX9_badSignOfYear_54 : decode cX9_badSignOfYear 54 = .ok (.aload_n 3, 1) := by decide +kernel
theorem dX9_badSignOfYear_55 : decode cX9_badSignOfYear 55 = .ok (.iload 4, 2) := by decide +kernel
theorem dX9_badSignOfYear_57 : decode cX9_badSignOfYear 57 = .ok (.invokevirtual 247, 3) := by decide +kernel
theorem dX9_badSignOfYear_60 : decode cX9_badSignOfYear 60 = .ok (.aload_n 0, 1) := by decide +kernel
theorem dX9_badSignOfYear_61 : decode cX9_badSignOfYear 61 = .ok (.getfield 10, 3) := by decide +kernel
theorem dX9_badSignOfYear_64 : decode cX9_badSignOfYear 64 = .ok (.iload_n 2, 1) := by decide +kernel
theorem dX9_badSignOfYear_65 : decode cX9_badSignOfYear 65 = .ok (.iload 4, 2) := by decide +kernel
theorem dX9_badSignOfYear_67 : decode cX9_badSignOfYear 67 = .ok (.iadd, 1) := by decide +kernel
theorem dX9_badSignOfYear_68 : decode cX9_badSignOfYear 68 = .ok (.iload_n 1, 1) := by decide +kernel
theorem dX9_badSignOfYear_69 : decode cX9_badSignOfYear 69 = .ok (.invokevirtual 221, 3) := by decide +kernel
theorem dX9_badSignOfYear_72 : decode cX9_badSignOfYear 72 = .ok (.invokestatic 251, 3) := by decide +kernel
theorem dX9_badSignOfYear_75 : decode cX9_badSignOfYear 75 = .ok (.ifCond .ne 8, 3) := by decide +kernel
theorem dX9_badSignOfYear_78 : decode cX9_badSignOfYear 78 = .ok (.iload_n 2, 1) := by decide +kernel
theorem dX9_badSignOfYear_79 : decode cX9_badSignOfYear 79 = .ok (.iload 4, 2) := by decide +kernel
theorem dX9_badSignOfYear_81 : decode cX9_badSignOfYear 81 = .ok (.iadd, 1) := by decide +kernel
theorem dX9_badSignOfYear_82 : decode cX9_badSignOfYear 82 = .ok (.ireturn, 1) := by decide +kernel
theorem dX9_badSignOfYear_83 : decode cX9_badSignOfYear 83 = .ok (.iinc 4 1, 3) := by decide +kernel
theorem dX9_badSignOfYear_86 : decode cX9_badSignOfYear 86 = .ok (.goto (-41), 3) := by decide +kernel
theorem dX9_badSignOfYear_89 : decode cX9_badSignOfYear 89 = .ok (.iload_n 2, 1) := by decide +kernel
theorem dX9_badSignOfYear_90 : decode cX9_badSignOfYear 90 = .ok (.aload_n 3, 1) := by decide +kernel
theorem dX9_badSignOfYear_91 : decode cX9_badSignOfYear 91 = .ok (.invokevirtual 228, 3) := by decide +kernel
theorem dX9_badSignOfYear_94 : decode cX9_badSignOfYear 94 = .ok (.iadd, 1) := by decide +kernel
theorem dX9_badSignOfYear_95 : decode cX9_badSignOfYear 95 = .ok (.istore_n 2, 1) := by decide +kernel
theorem dX9_badSignOfYear_96 : decode cX9_badSignOfYear 96 = .ok (.goto (-81), 3) := by decide +kernel
theorem dX9_badSignOfYear_99 : decode cX9_badSignOfYear 99 = .ok (.aload_n 0, 1) := by decide +kernel
theorem dX9_badSignOfYear_100 : decode cX9_badSignOfYear 100 = .ok (.getfield 10, 3) := by decide +kernel
theorem dX9_badSignOfYear_103 : decode cX9_badSignOfYear 103 = .ok (.getfield 105, 3) := by decide +kernel
theorem dX9_badSignOfYear_106 : decode cX9_badSignOfYear 106 = .ok (.iload_n 1, 1) := by decide +kernel
theorem dX9_badSignOfYear_107 : decode cX9_badSignOfYear 107 = .ok (.if_icmp .le 7, 3) := by decide +kernel
theorem dX9_badSignOfYear_110 : decode cX9_badSignOfYear 110 = .ok (.iload_n 1, 1) := by decide +kernel
theorem dX9_badSignOfYear_111 : decode cX9_badSignOfYear 111 = .ok (.goto 4, 3) := by decide +kernel
theorem dX9_badSignOfYear_114 : decode cX9_badSignOfYear 114 = .ok (.iconst (-1), 1) := by decide +kernel
theorem dX9_badSignOfYear_115 : decode cX9_badSignOfYear 115 = .ok (.ireturn, 1) := by decide +kernel
theorem dX9_shapeOfAct_0 : decode cX9_shapeOfAct 0 = .ok (.iload_n 0, 1) := by decide +kernel
theorem dX9_shapeOfAct_1 : decode cX9_shapeOfAct 1 = .ok (.tableswitch 118 98 116 #[98, 118, 118, 118, 106, 118, 118, 118, 118, 118, 110, 91, 118, 118, 102, 118, 118, 114, 94], 91) := by decide +kernel
theorem dX9_shapeOfAct_92 : decode cX9_shapeOfAct 92 = .ok (.ldc 255, 2) := by decide +kernel
theorem dX9_shapeOfAct_94 : decode cX9_shapeOfAct 94 = .ok (.areturn, 1) := by decide +kernel
theorem dX9_shapeOfAct_95 : decode cX9_shapeOfAct 95 = .ok (.ldc_w 257, 3) := by decide +kernel
theorem dX9_shapeOfAct_98 : decode cX9_shapeOfAct 98 = .ok (.areturn, 1) := by decide +kernel
theorem dX9_shapeOfAct_99 : decode cX9_shapeOfAct 99 = .ok (.ldc_w 259, 3) := by decide +kernel
theorem dX9_shapeOfAct_102 : decode cX9_shapeOfAct 102 = .ok (.areturn, 1) := by decide +kernel
theorem dX9_shapeOfAct_103 : decode cX9_shapeOfAct 103 = .ok (.ldc_w 261, 3) := by decide +kernel
theorem dX9_shapeOfAct_106 : decode cX9_shapeOfAct 106 = .ok (.areturn, 1) := by decide +kernel
theorem dX9_shapeOfAct_107 : decode cX9_shapeOfAct 107 = .ok (.ldc_w 263, 3) := by decide +kernel
theorem dX9_shapeOfAct_110 : decode cX9_shapeOfAct 110 = .ok (.areturn, 1) := by decide +kernel
theorem dX9_shapeOfAct_111 : decode cX9_shapeOfAct 111 = .ok (.ldc_w 265, 3) := by decide +kernel
theorem dX9_shapeOfAct_114 : decode cX9_shapeOfAct 114 = .ok (.areturn, 1) := by decide +kernel
theorem dX9_shapeOfAct_115 : decode cX9_shapeOfAct 115 = .ok (.ldc_w 267, 3) := by decide +kernel
theorem dX9_shapeOfAct_118 : decode cX9_shapeOfAct 118 = .ok (.areturn, 1) := by decide +kernel
theorem dX9_shapeOfAct_119 : decode cX9_shapeOfAct 119 = .ok (.ldc_w 269, 3) := by decide +kernel
theorem dX9_shapeOfAct_122 : decode cX9_shapeOfAct 122 = .ok (.areturn, 1) := by decide +kernel
theorem dX9_suits_0 : decode cX9_suits 0 = .ok (.iload_n 0, 1) := by decide +kernel
theorem dX9_suits_1 : decode cX9_suits 1 = .ok (.lookupswitch 77 #[(48, 35), (49, 40), (107, 59)], 35) := by decide +kernel
theorem dX9_suits_36 : decode cX9_suits 36 = .ok (.iload_n 1, 1) := by decide +kernel
theorem dX9_suits_37 : decode cX9_suits 37 = .ok (.invokestatic 271, 3) := by decide +kernel
theorem dX9_suits_40 : decode cX9_suits 40 = .ok (.ireturn, 1) := by decide +kernel
theorem dX9_suits_41 : decode cX9_suits 41 = .ok (.iload_n 1, 1) := by decide +kernel
theorem dX9_suits_42 : decode cX9_suits 42 = .ok (.invokestatic 271, 3) := by decide +kernel
theorem dX9_suits_45 : decode cX9_suits 45 = .ok (.ifCond .eq 13, 3) := by decide +kernel
theorem dX9_suits_48 : decode cX9_suits 48 = .ok (.iload_n 1, 1) := by decide +kernel
theorem dX9_suits_49 : decode cX9_suits 49 = .ok (.bipush 48, 2) := by decide +kernel
theorem dX9_suits_51 : decode cX9_suits 51 = .ok (.if_icmp .eq 7, 3) := by decide +kernel
theorem dX9_suits_54 : decode cX9_suits 54 = .ok (.iconst 1, 1) := by decide +kernel
theorem dX9_suits_55 : decode cX9_suits 55 = .ok (.goto 4, 3) := by decide +kernel
theorem dX9_suits_58 : decode cX9_suits 58 = .ok (.iconst 0, 1) := by decide +kernel
theorem dX9_suits_59 : decode cX9_suits 59 = .ok (.ireturn, 1) := by decide +kernel
theorem dX9_suits_60 : decode cX9_suits 60 = .ok (.iload_n 1, 1) := by decide +kernel
theorem dX9_suits_61 : decode cX9_suits 61 = .ok (.bipush 111, 2) := by decide +kernel
theorem dX9_suits_63 : decode cX9_suits 63 = .ok (.if_icmp .eq 9, 3) := by decide +kernel
theorem dX9_suits_66 : decode cX9_suits 66 = .ok (.iload_n 1, 1) := by decide +kernel
theorem dX9_suits_67 : decode cX9_suits 67 = .ok (.bipush 110, 2) := by decide +kernel
theorem dX9_suits_69 : decode cX9_suits 69 = .ok (.if_icmp .ne 7, 3) := by decide +kernel
theorem dX9_suits_72 : decode cX9_suits 72 = .ok (.iconst 1, 1) := by decide +kernel
theorem dX9_suits_73 : decode cX9_suits 73 = .ok (.goto 4, 3) := by decide +kernel
theorem dX9_suits_76 : decode cX9_suits 76 = .ok (.iconst 0, 1) := by decide +kernel
theorem dX9_suits_77 : decode cX9_suits 77 = .ok (.ireturn, 1) := by decide +kernel
theorem dX9_suits_78 : decode cX9_suits 78 = .ok (.iload_n 1, 1) := by decide +kernel
theorem dX9_suits_79 : decode cX9_suits 79 = .ok (.iload_n 0, 1) := by decide +kernel
theorem dX9_suits_80 : decode cX9_suits 80 = .ok (.if_icmp .ne 7, 3) := by decide +kernel
theorem dX9_suits_83 : decode cX9_suits 83 = .ok (.iconst 1, 1) := by decide +kernel
theorem dX9_suits_84 : decode cX9_suits 84 = .ok (.goto 4, 3) := by decide +kernel
theorem dX9_suits_87 : decode cX9_suits 87 = .ok (.iconst 0, 1) := by decide +kernel
theorem dX9_suits_88 : decode cX9_suits 88 = .ok (.ireturn, 1) := by decide +kernel
theorem dX9_act_0 : decode cX9_act 0 = .ok (.aload_n 0, 1) := by decide +kernel
theorem dX9_act_1 : decode cX9_act 1 = .ok (.getfield 10, 3) := by decide +kernel
theorem dX9_act_4 : decode cX9_act 4 = .ok (.iload_n 1, 1) := by decide +kernel
theorem dX9_act_5 : decode cX9_act 5 = .ok (.iconst 1, 1) := by decide +kernel
theorem dX9_act_6 : decode cX9_act 6 = .ok (.iadd, 1) := by decide +kernel
theorem dX9_act_7 : decode cX9_act 7 = .ok (.bipush 60, 2) := by decide +kernel
theorem dX9_act_9 : decode cX9_act 9 = .ok (.invokevirtual 221, 3) := by decide +kernel
theorem dX9_act_12 : decode cX9_act 12 = .ok (.bipush 48, 2) := by decide +kernel
theorem dX9_act_14 : decode cX9_act 14 = .ok (.isub, 1) := by decide +kernel
theorem dX9_act_15 : decode cX9_act 15 = .ok (.istore_n 2, 1) := by decide +kernel
theorem dX9_act_16 : decode cX9_act 16 = .ok (.aload_n 0, 1) := by decide +kernel
theorem dX9_act_17 : decode cX9_act 17 = .ok (.getfield 10, 3) := by decide +kernel
theorem dX9_act_20 : decode cX9_act 20 = .ok (.iload_n 1, 1) := by decide +kernel
theorem dX9_act_21 : decode cX9_act 21 = .ok (.iconst 2, 1) := by decide +kernel
theorem dX9_act_22 : decode cX9_act 22 = .ok (.iadd, 1) := by decide +kernel
theorem dX9_act_23 : decode cX9_act 23 = .ok (.bipush 60, 2) := by decide +kernel
theorem dX9_act_25 : decode cX9_act 25 = .ok (.invokevirtual 221, 3) := by decide +kernel
theorem dX9_act_28 : decode cX9_act 28 = .ok (.istore_n 3, 1) := by decide +kernel
theorem dX9_act_29 : decode cX9_act 29 = .ok (.aload_n 0, 1) := by decide +kernel
theorem dX9_act_30 : decode cX9_act 30 = .ok (.getfield 10, 3) := by decide +kernel
theorem dX9_act_33 : decode cX9_act 33 = .ok (.iload_n 1, 1) := by decide +kernel
theorem dX9_act_34 : decode cX9_act 34 = .ok (.iconst 3, 1) := by decide +kernel
theorem dX9_act_35 : decode cX9_act 35 = .ok (.iadd, 1) := by decide +kernel
theorem dX9_act_36 : decode cX9_act 36 = .ok (.bipush 60, 2) := by decide +kernel
theorem dX9_act_38 : decode cX9_act 38 = .ok (.invokevirtual 221, 3) := by decide +kernel
theorem dX9_act_41 : decode cX9_act 41 = .ok (.bipush 48, 2) := by decide +kernel
theorem dX9_act_43 : decode cX9_act 43 = .ok (.isub, 1) := by decide +kernel
theorem dX9_act_44 : decode cX9_act 44 = .ok (.istore 4, 2) := by decide +kernel
theorem dX9_act_46 : decode cX9_act 46 = .ok (.iload_n 3, 1) := by decide +kernel
theorem dX9_act_47 : decode cX9_act 47 = .ok (.bipush 111, 2) := by decide +kernel
theorem dX9_act_49 : decode cX9_act 49 = .ok (.if_icmp .ne 7, 3) := by decide +kernel
theorem dX9_act_52 : decode cX9_act 52 = .ok (.iconst 0, 1) := by decide +kernel
theorem dX9_act_53 : decode cX9_act 53 = .ok (.goto 4, 3) := by decide +kernel
theorem dX9_act_56 : decode cX9_act 56 = .ok (.iconst 1, 1) := by decide +kernel
theorem dX9_act_57 : decode cX9_act 57 = .ok (.istore 5, 2) := by decide +kernel
theorem dX9_act_59 : decode cX9_act 59 = .ok (.aload_n 0, 1) := by decide +kernel
theorem dX9_act_60 : decode cX9_act 60 = .ok (.getfield 10, 3) := by decide +kernel
theorem dX9_act_63 : decode cX9_act 63 = .ok (.iload_n 1, 1) := by decide +kernel
theorem dX9_act_64 : decode cX9_act 64 = .ok (.bipush 60, 2) := by decide +kernel
theorem dX9_act_66 : decode cX9_act 66 = .ok (.invokevirtual 221, 3) := by decide +kernel
theorem dX9_act_69 : decode cX9_act 69 = .ok (.tableswitch 175 98 116 #[117, 175, 175, 175, 134, 175, 175, 175, 175, 175, 143, 91, 175, 175, 126, 175, 175, 159, 104], 91) := by decide +kernel
theorem dX9_act_160 : decode cX9_act 160 = .ok (.aload_n 0, 1) := by decide +kernel
theorem dX9_act_161 : decode cX9_act 161 = .ok (.getfield 26, 3) := by decide +kernel
theorem dX9_act_164 : decode cX9_act 164 = .ok (.aload_n 0, 1) := by decide +kernel
theorem dX9_act_165 : decode cX9_act 165 = .ok (.getfield 84, 3) := by decide +kernel
theorem dX9_act_168 : decode cX9_act 168 = .ok (.iload_n 2, 1) := by decide +kernel
theorem dX9_act_169 : decode cX9_act 169 = .ok (.invokevirtual 179, 3) := by decide +kernel
theorem dX9_act_172 : decode cX9_act 172 = .ok (.ireturn, 1) := by decide +kernel
theorem dX9_act_173 : decode cX9_act 173 = .ok (.aload_n 0, 1) := by decide +kernel
theorem dX9_act_174 : decode cX9_act 174 = .ok (.getfield 26, 3) := by decide +kernel
theorem dX9_act_177 : decode cX9_act 177 = .ok (.iload_n 2, 1) := by decide +kernel
theorem dX9_act_178 : decode cX9_act 178 = .ok (.iload_n 3, 1) := by decide +kernel
theorem dX9_act_179 : decode cX9_act 179 = .ok (.bipush 48, 2) := by decide +kernel
theorem dX9_act_181 : decode cX9_act 181 = .ok (.isub, 1) := by decide +kernel
theorem dX9_act_182 : decode cX9_act 182 = .ok (.invokevirtual 202, 3) := by decide +kernel
theorem dX9_act_185 : decode cX9_act 185 = .ok (.ireturn, 1) := by decide +kernel
theorem dX9_act_186 : decode cX9_act 186 = .ok (.aload_n 0, 1) := by decide +kernel
theorem dX9_act_187 : decode cX9_act 187 = .ok (.getfield 26, 3) := by decide +kernel
theorem dX9_act_190 : decode cX9_act 190 = .ok (.iload_n 2, 1) := by decide +kernel
theorem dX9_act_191 : decode cX9_act 191 = .ok (.invokevirtual 205, 3) := by decide +kernel
theorem dX9_act_194 : decode cX9_act 194 = .ok (.ireturn, 1) := by decide +kernel
theorem dX9_act_195 : decode cX9_act 195 = .ok (.aload_n 0, 1) := by decide +kernel
theorem dX9_act_196 : decode cX9_act 196 = .ok (.getfield 26, 3) := by decide +kernel
theorem dX9_act_199 : decode cX9_act 199 = .ok (.invokevirtual 208, 3) := by decide +kernel
theorem dX9_act_202 : decode cX9_act 202 = .ok (.ireturn, 1) := by decide +kernel
theorem dX9_act_203 : decode cX9_act 203 = .ok (.aload_n 0, 1) := by decide +kernel
theorem dX9_act_204 : decode cX9_act 204 = .ok (.getfield 26, 3) := by decide +kernel
theorem dX9_act_207 : decode cX9_act 207 = .ok (.iload_n 2, 1) := by decide +kernel
theorem dX9_act_208 : decode cX9_act 208 = .ok (.invokevirtual 212, 3) := by decide +kernel
theorem dX9_act_211 : decode cX9_act 211 = .ok (.ireturn, 1) := by decide +kernel
theorem dX9_act_212 : decode cX9_act 212 = .ok (.aload_n 0, 1) := by decide +kernel
theorem dX9_act_213 : decode cX9_act 213 = .ok (.getfield 26, 3) := by decide +kernel
theorem dX9_act_216 : decode cX9_act 216 = .ok (.iload_n 2, 1) := by decide +kernel
theorem dX9_act_217 : decode cX9_act 217 = .ok (.iload 5, 2) := by decide +kernel
theorem dX9_act_219 : decode cX9_act 219 = .ok (.bipush 100, 2) := by decide +kernel
theorem dX9_act_221 : decode cX9_act 221 = .ok (.iload 4, 2) := by decide +kernel
theorem dX9_act_223 : decode cX9_act 223 = .ok (.imul, 1) := by decide +kernel
theorem dX9_act_224 : decode cX9_act 224 = .ok (.invokevirtual 196, 3) := by decide +kernel
theorem dX9_act_227 : decode cX9_act 227 = .ok (.ireturn, 1) := by decide +kernel
theorem dX9_act_228 : decode cX9_act 228 = .ok (.aload_n 0, 1) := by decide +kernel
theorem dX9_act_229 : decode cX9_act 229 = .ok (.getfield 26, 3) := by decide +kernel
theorem dX9_act_232 : decode cX9_act 232 = .ok (.iload_n 2, 1) := by decide +kernel
theorem dX9_act_233 : decode cX9_act 233 = .ok (.iload 5, 2) := by decide +kernel
theorem dX9_act_235 : decode cX9_act 235 = .ok (.bipush 100, 2) := by decide +kernel
theorem dX9_act_237 : decode cX9_act 237 = .ok (.iload 4, 2) := by decide +kernel
theorem dX9_act_239 : decode cX9_act 239 = .ok (.imul, 1) := by decide +kernel
theorem dX9_act_240 : decode cX9_act 240 = .ok (.invokevirtual 199, 3) := by decide +kernel
theorem dX9_act_243 : decode cX9_act 243 = .ok (.ireturn, 1) := by decide +kernel
theorem dX9_act_244 : decode cX9_act 244 = .ok (.iconst (-1), 1) := by decide +kernel
theorem dX9_act_245 : decode cX9_act 245 = .ok (.ireturn, 1) := by decide +kernel
theorem dX9_undo_0 : decode cX9_undo 0 = .ok (.aload_n 0, 1) := by decide +kernel
theorem dX9_undo_1 : decode cX9_undo 1 = .ok (.getfield 39, 3) := by decide +kernel
theorem dX9_undo_4 : decode cX9_undo 4 = .ok (.aload_n 0, 1) := by decide +kernel
theorem dX9_undo_5 : decode cX9_undo 5 = .ok (.getfield 26, 3) := by decide +kernel
theorem dX9_undo_8 : decode cX9_undo 8 = .ok (.invokevirtual 274, 3) := by decide +kernel
theorem dX9_undo_11 : decode cX9_undo 11 = .ok (.ifCond .eq 13, 3) := by decide +kernel
theorem dX9_undo_14 : decode cX9_undo 14 = .ok (.aload_n 0, 1) := by decide +kernel
theorem dX9_undo_15 : decode cX9_undo 15 = .ok (.getfield 39, 3) := by decide +kernel
theorem dX9_undo_18 : decode cX9_undo 18 = .ok (.getfield 278, 3) := by decide +kernel
theorem dX9_undo_21 : decode cX9_undo 21 = .ok (.goto 4, 3) := by decide +kernel
theorem dX9_undo_24 : decode cX9_undo 24 = .ok (.iconst (-1), 1) := by decide +kernel
theorem dX9_undo_25 : decode cX9_undo 25 = .ok (.ireturn, 1) := by decide +kernel
theorem dX9_ahead_0 : decode cX9_ahead 0 = .ok (.aload_n 0, 1) := by decide +kernel
theorem dX9_ahead_1 : decode cX9_ahead 1 = .ok (.getfield 26, 3) := by decide +kernel
theorem dX9_ahead_4 : decode cX9_ahead 4 = .ok (.iload_n 1, 1) := by decide +kernel
theorem dX9_ahead_5 : decode cX9_ahead 5 = .ok (.invokevirtual 137, 3) := by decide +kernel
theorem dX9_ahead_8 : decode cX9_ahead 8 = .ok (.ifCond .eq 13, 3) := by decide +kernel
theorem dX9_ahead_11 : decode cX9_ahead 11 = .ok (.iload_n 2, 1) := by decide +kernel
theorem dX9_ahead_12 : decode cX9_ahead 12 = .ok (.iconst 0, 1) := by decide +kernel
theorem dX9_ahead_13 : decode cX9_ahead 13 = .ok (.bipush 99, 2) := by decide +kernel
theorem dX9_ahead_15 : decode cX9_ahead 15 = .ok (.invokestatic 140, 3) := by decide +kernel
theorem dX9_ahead_18 : decode cX9_ahead 18 = .ok (.ifCond .ne 5, 3) := by decide +kernel
theorem dX9_ahead_21 : decode cX9_ahead 21 = .ok (.iconst (-1), 1) := by decide +kernel
theorem dX9_ahead_22 : decode cX9_ahead 22 = .ok (.ireturn, 1) := by decide +kernel
theorem dX9_ahead_23 : decode cX9_ahead 23 = .ok (.aload_n 0, 1) := by decide +kernel
theorem dX9_ahead_24 : decode cX9_ahead 24 = .ok (.iload_n 2, 1) := by decide +kernel
theorem dX9_ahead_25 : decode cX9_ahead 25 = .ok (.invokevirtual 279, 3) := by decide +kernel
theorem dX9_ahead_28 : decode cX9_ahead 28 = .ok (.aload_n 0, 1) := by decide +kernel
theorem dX9_ahead_29 : decode cX9_ahead 29 = .ok (.getfield 19, 3) := by decide +kernel
theorem dX9_ahead_32 : decode cX9_ahead 32 = .ok (.aload_n 0, 1) := by decide +kernel
theorem dX9_ahead_33 : decode cX9_ahead 33 = .ok (.getfield 33, 3) := by decide +kernel
theorem dX9_ahead_36 : decode cX9_ahead 36 = .ok (.getfield 147, 3) := by decide +kernel
theorem dX9_ahead_39 : decode cX9_ahead 39 = .ok (.iconst 0, 1) := by decide +kernel
theorem dX9_ahead_40 : decode cX9_ahead 40 = .ok (.aaload, 1) := by decide +kernel
theorem dX9_ahead_41 : decode cX9_ahead 41 = .ok (.iload_n 1, 1) := by decide +kernel
theorem dX9_ahead_42 : decode cX9_ahead 42 = .ok (.iaload, 1) := by decide +kernel
theorem dX9_ahead_43 : decode cX9_ahead 43 = .ok (.i2l, 1) := by decide +kernel
theorem dX9_ahead_44 : decode cX9_ahead 44 = .ok (.aload_n 0, 1) := by decide +kernel
theorem dX9_ahead_45 : decode cX9_ahead 45 = .ok (.getfield 33, 3) := by decide +kernel
theorem dX9_ahead_48 : decode cX9_ahead 48 = .ok (.getfield 147, 3) := by decide +kernel
theorem dX9_ahead_51 : decode cX9_ahead 51 = .ok (.iconst 1, 1) := by decide +kernel
theorem dX9_ahead_52 : decode cX9_ahead 52 = .ok (.aaload, 1) := by decide +kernel
theorem dX9_ahead_53 : decode cX9_ahead 53 = .ok (.iload_n 1, 1) := by decide +kernel
theorem dX9_ahead_54 : decode cX9_ahead 54 = .ok (.iaload, 1) := by decide +kernel
theorem dX9_ahead_55 : decode cX9_ahead 55 = .ok (.i2l, 1) := by decide +kernel
theorem dX9_ahead_56 : decode cX9_ahead 56 = .ok (.invokevirtual 185, 3) := by decide +kernel
theorem dX9_ahead_59 : decode cX9_ahead 59 = .ok (.aload_n 0, 1) := by decide +kernel
theorem dX9_ahead_60 : decode cX9_ahead 60 = .ok (.aload_n 0, 1) := by decide +kernel
theorem dX9_ahead_61 : decode cX9_ahead 61 = .ok (.getfield 33, 3) := by decide +kernel
theorem dX9_ahead_64 : decode cX9_ahead 64 = .ok (.iload_n 1, 1) := by decide +kernel
theorem dX9_ahead_65 : decode cX9_ahead 65 = .ok (.invokevirtual 153, 3) := by decide +kernel
theorem dX9_ahead_68 : decode cX9_ahead 68 = .ok (.ireturn, 1) := by decide +kernel
theorem dX9_doubles_0 : decode cX9_doubles 0 = .ok (.aload_n 0, 1) := by decide +kernel
theorem dX9_doubles_1 : decode cX9_doubles 1 = .ok (.getfield 26, 3) := by decide +kernel
theorem dX9_doubles_4 : decode cX9_doubles 4 = .ok (.iload_n 1, 1) := by decide +kernel
theorem dX9_doubles_5 : decode cX9_doubles 5 = .ok (.invokevirtual 137, 3) := by decide +kernel
theorem dX9_doubles_8 : decode cX9_doubles 8 = .ok (.ifCond .ne 5, 3) := by decide +kernel
theorem dX9_doubles_11 : decode cX9_doubles 11 = .ok (.iconst (-1), 1) := by decide +kernel
theorem dX9_doubles_12 : decode cX9_doubles 12 = .ok (.ireturn, 1) := by decide +kernel
theorem dX9_doubles_13 : decode cX9_doubles 13 = .ok (.aload_n 0, 1) := by decide +kernel
theorem dX9_doubles_14 : decode cX9_doubles 14 = .ok (.aload_n 0, 1) := by decide +kernel
theorem dX9_doubles_15 : decode cX9_doubles 15 = .ok (.getfield 26, 3) := by decide +kernel
theorem dX9_doubles_18 : decode cX9_doubles 18 = .ok (.iload_n 1, 1) := by decide +kernel
theorem dX9_doubles_19 : decode cX9_doubles 19 = .ok (.invokevirtual 153, 3) := by decide +kernel
theorem dX9_doubles_22 : decode cX9_doubles 22 = .ok (.istore_n 2, 1) := by decide +kernel
theorem dX9_doubles_23 : decode cX9_doubles 23 = .ok (.iload_n 2, 1) := by decide +kernel
theorem dX9_doubles_24 : decode cX9_doubles 24 = .ok (.ifCond .ne 7, 3) := by decide +kernel
theorem dX9_doubles_27 : decode cX9_doubles 27 = .ok (.iconst 1, 1) := by decide +kernel
theorem dX9_doubles_28 : decode cX9_doubles 28 = .ok (.goto 6, 3) := by decide +kernel
theorem dX9_doubles_31 : decode cX9_doubles 31 = .ok (.iconst 2, 1) := by decide +kernel
theorem dX9_doubles_32 : decode cX9_doubles 32 = .ok (.iload_n 2, 1) := by decide +kernel
theorem dX9_doubles_33 : decode cX9_doubles 33 = .ok (.imul, 1) := by decide +kernel
theorem dX9_doubles_34 : decode cX9_doubles 34 = .ok (.istore_n 3, 1) := by decide +kernel
theorem dX9_doubles_35 : decode cX9_doubles 35 = .ok (.aload_n 0, 1) := by decide +kernel
theorem dX9_doubles_36 : decode cX9_doubles 36 = .ok (.iconst 0, 1) := by decide +kernel
theorem dX9_doubles_37 : decode cX9_doubles 37 = .ok (.invokevirtual 279, 3) := by decide +kernel
theorem dX9_doubles_40 : decode cX9_doubles 40 = .ok (.iconst 1, 1) := by decide +kernel
theorem dX9_doubles_41 : decode cX9_doubles 41 = .ok (.istore 4, 2) := by decide +kernel
theorem dX9_doubles_43 : decode cX9_doubles 43 = .ok (.iload 4, 2) := by decide +kernel
theorem dX9_doubles_45 : decode cX9_doubles 45 = .ok (.bipush 99, 2) := by decide +kernel
theorem dX9_doubles_47 : decode cX9_doubles 47 = .ok (.if_icmp .gt 52, 3) := by decide +kernel
theorem dX9_doubles_50 : decode cX9_doubles 50 = .ok (.aload_n 0, 1) := by decide +kernel
theorem dX9_doubles_51 : decode cX9_doubles 51 = .ok (.getfield 33, 3) := by decide +kernel
theorem dX9_doubles_54 : decode cX9_doubles 54 = .ok (.aload_n 0, 1) := by decide +kernel
theorem dX9_doubles_55 : decode cX9_doubles 55 = .ok (.getfield 84, 3) := by decide +kernel
theorem dX9_doubles_58 : decode cX9_doubles 58 = .ok (.iconst 1, 1) := by decide +kernel
theorem dX9_doubles_59 : decode cX9_doubles 59 = .ok (.invokevirtual 179, 3) := by decide +kernel
theorem dX9_doubles_62 : decode cX9_doubles 62 = .ok (.pop, 1) := by decide +kernel
theorem dX9_doubles_63 : decode cX9_doubles 63 = .ok (.aload_n 0, 1) := by decide +kernel
theorem dX9_doubles_64 : decode cX9_doubles 64 = .ok (.aload_n 0, 1) := by decide +kernel
theorem dX9_doubles_65 : decode cX9_doubles 65 = .ok (.getfield 33, 3) := by decide +kernel
theorem dX9_doubles_68 : decode cX9_doubles 68 = .ok (.iload_n 1, 1) := by decide +kernel
theorem dX9_doubles_69 : decode cX9_doubles 69 = .ok (.invokevirtual 153, 3) := by decide +kernel
theorem dX9_doubles_72 : decode cX9_doubles 72 = .ok (.istore 5, 2) := by decide +kernel
theorem dX9_doubles_74 : decode cX9_doubles 74 = .ok (.iload 5, 2) := by decide +kernel
theorem dX9_doubles_76 : decode cX9_doubles 76 = .ok (.iload_n 3, 1) := by decide +kernel
theorem dX9_doubles_77 : decode cX9_doubles 77 = .ok (.if_icmp .lt 16, 3) := by decide +kernel
theorem dX9_doubles_80 : decode cX9_doubles 80 = .ok (.aload_n 0, 1) := by decide +kernel
theorem dX9_doubles_81 : decode cX9_doubles 81 = .ok (.getfield 19, 3) := by decide +kernel
theorem dX9_doubles_84 : decode cX9_doubles 84 = .ok (.iload 5, 2) := by decide +kernel
theorem dX9_doubles_86 : decode cX9_doubles 86 = .ok (.i2l, 1) := by decide +kernel
theorem dX9_doubles_87 : decode cX9_doubles 87 = .ok (.invokevirtual 282, 3) := by decide +kernel
theorem dX9_doubles_90 : decode cX9_doubles 90 = .ok (.iload 4, 2) := by decide +kernel
theorem dX9_doubles_92 : decode cX9_doubles 92 = .ok (.ireturn, 1) := by decide +kernel
theorem dX9_doubles_93 : decode cX9_doubles 93 = .ok (.iinc 4 1, 3) := by decide +kernel
theorem dX9_doubles_96 : decode cX9_doubles 96 = .ok (.goto (-53), 3) := by decide +kernel
theorem dX9_doubles_99 : decode cX9_doubles 99 = .ok (.bipush (-2), 2) := by decide +kernel
theorem dX9_doubles_101 : decode cX9_doubles 101 = .ok (.ireturn, 1) := by decide +kernel
theorem dX9_trade_0 : decode cX9_trade 0 = .ok (.iload_n 1, 1) := by decide +kernel
theorem dX9_trade_1 : decode cX9_trade 1 = .ok (.iconst 1, 1) := by decide +kernel
theorem dX9_trade_2 : decode cX9_trade 2 = .ok (.sipush 9999, 3) := by decide +kernel
theorem dX9_trade_5 : decode cX9_trade 5 = .ok (.invokestatic 140, 3) := by decide +kernel
theorem dX9_trade_8 : decode cX9_trade 8 = .ok (.ifCond .ne 5, 3) := by decide +kernel
theorem dX9_trade_11 : decode cX9_trade 11 = .ok (.iconst (-1), 1) := by decide +kernel
theorem dX9_trade_12 : decode cX9_trade 12 = .ok (.ireturn, 1) := by decide +kernel
theorem dX9_trade_13 : decode cX9_trade 13 = .ok (.aload_n 0, 1) := by decide +kernel
theorem dX9_trade_14 : decode cX9_trade 14 = .ok (.getfield 19, 3) := by decide +kernel
theorem dX9_trade_17 : decode cX9_trade 17 = .ok (.invokevirtual 285, 3) := by decide +kernel
theorem dX9_trade_20 : decode cX9_trade 20 = .ok (.aload_n 0, 1) := by decide +kernel
theorem dX9_trade_21 : decode cX9_trade 21 = .ok (.getfield 26, 3) := by decide +kernel
theorem dX9_trade_24 : decode cX9_trade 24 = .ok (.getfield 47, 3) := by decide +kernel
theorem dX9_trade_27 : decode cX9_trade 27 = .ok (.iconst 2, 1) := by decide +kernel
theorem dX9_trade_28 : decode cX9_trade 28 = .ok (.if_icmp .ge 5, 3) := by decide +kernel
theorem dX9_trade_31 : decode cX9_trade 31 = .ok (.iload_n 1, 1) := by decide +kernel
theorem dX9_trade_32 : decode cX9_trade 32 = .ok (.ireturn, 1) := by decide +kernel
theorem dX9_trade_33 : decode cX9_trade 33 = .ok (.aload_n 0, 1) := by decide +kernel
theorem dX9_trade_34 : decode cX9_trade 34 = .ok (.invokevirtual 286, 3) := by decide +kernel
theorem dX9_trade_37 : decode cX9_trade 37 = .ok (.iconst (-1), 1) := by decide +kernel
theorem dX9_trade_38 : decode cX9_trade 38 = .ok (.istore_n 2, 1) := by decide +kernel
theorem dX9_trade_39 : decode cX9_trade 39 = .ok (.iconst 0, 1) := by decide +kernel
theorem dX9_trade_40 : decode cX9_trade 40 = .ok (.istore_n 3, 1) := by decide +kernel
theorem dX9_trade_41 : decode cX9_trade 41 = .ok (.iload_n 3, 1) := by decide +kernel
theorem dX9_trade_42 : decode cX9_trade 42 = .ok (.aload_n 0, 1) := by decide +kernel
theorem dX9_trade_43 : decode cX9_trade 43 = .ok (.getfield 26, 3) := by decide +kernel
theorem dX9_trade_46 : decode cX9_trade 46 = .ok (.getfield 47, 3) := by decide +kernel
theorem dX9_trade_49 : decode cX9_trade 49 = .ok (.if_icmp .ge 67, 3) := by decide +kernel
theorem dX9_trade_52 : decode cX9_trade 52 = .ok (.iconst 0, 1) := by decide +kernel
theorem dX9_trade_53 : decode cX9_trade 53 = .ok (.istore 4, 2) := by decide +kernel
theorem dX9_trade_55 : decode cX9_trade 55 = .ok (.iload 4, 2) := by decide +kernel
theorem dX9_trade_57 : decode cX9_trade 57 = .ok (.aload_n 0, 1) := by decide +kernel
theorem dX9_trade_58 : decode cX9_trade 58 = .ok (.getfield 26, 3) := by decide +kernel
theorem dX9_trade_61 : decode cX9_trade 61 = .ok (.getfield 47, 3) := by decide +kernel
theorem dX9_trade_64 : decode cX9_trade 64 = .ok (.if_icmp .ge 46, 3) := by decide +kernel
theorem dX9_trade_67 : decode cX9_trade 67 = .ok (.aload_n 0, 1) := by decide +kernel
theorem dX9_trade_68 : decode cX9_trade 68 = .ok (.iload_n 1, 1) := by decide +kernel
theorem dX9_trade_69 : decode cX9_trade 69 = .ok (.iload_n 3, 1) := by decide +kernel
theorem dX9_trade_70 : decode cX9_trade 70 = .ok (.iload 4, 2) := by decide +kernel
theorem dX9_trade_72 : decode cX9_trade 72 = .ok (.invokevirtual 289, 3) := by decide +kernel
theorem dX9_trade_75 : decode cX9_trade 75 = .ok (.istore 5, 2) := by decide +kernel
theorem dX9_trade_77 : decode cX9_trade 77 = .ok (.iload_n 3, 1) := by decide +kernel
theorem dX9_trade_78 : decode cX9_trade 78 = .ok (.iload 4, 2) := by decide +kernel
theorem dX9_trade_80 : decode cX9_trade 80 = .ok (.if_icmp .eq 24, 3) := by decide +kernel
theorem dX9_trade_83 : decode cX9_trade 83 = .ok (.iload 5, 2) := by decide +kernel
theorem dX9_trade_85 : decode cX9_trade 85 = .ok (.iload_n 2, 1) := by decide +kernel
theorem dX9_trade_86 : decode cX9_trade 86 = .ok (.if_icmp .le 18, 3) := by decide +kernel
theorem dX9_trade_89 : decode cX9_trade 89 = .ok (.iload 5, 2) := by decide +kernel
theorem dX9_trade_91 : decode cX9_trade 91 = .ok (.istore_n 2, 1) := by decide +kernel
theorem dX9_trade_92 : decode cX9_trade 92 = .ok (.aload_n 0, 1) := by decide +kernel
theorem dX9_trade_93 : decode cX9_trade 93 = .ok (.getfield 19, 3) := by decide +kernel
theorem dX9_trade_96 : decode cX9_trade 96 = .ok (.iload_n 3, 1) := by decide +kernel
theorem dX9_trade_97 : decode cX9_trade 97 = .ok (.i2l, 1) := by decide +kernel
theorem dX9_trade_98 : decode cX9_trade 98 = .ok (.iload 4, 2) := by decide +kernel
theorem dX9_trade_100 : decode cX9_trade 100 = .ok (.i2l, 1) := by decide +kernel
theorem dX9_trade_101 : decode cX9_trade 101 = .ok (.invokevirtual 185, 3) := by decide +kernel
theorem dX9_trade_104 : decode cX9_trade 104 = .ok (.iinc 4 1, 3) := by decide +kernel
theorem dX9_trade_107 : decode cX9_trade 107 = .ok (.goto (-52), 3) := by decide +kernel
theorem dX9_trade_110 : decode cX9_trade 110 = .ok (.iinc 3 1, 3) := by decide +kernel
theorem dX9_trade_113 : decode cX9_trade 113 = .ok (.goto (-72), 3) := by decide +kernel
theorem dX9_trade_116 : decode cX9_trade 116 = .ok (.iload_n 2, 1) := by decide +kernel
theorem dX9_trade_117 : decode cX9_trade 117 = .ok (.ireturn, 1) := by decide +kernel
theorem dX9_traded_0 : decode cX9_traded 0 = .ok (.aload_n 0, 1) := by decide +kernel
theorem dX9_traded_1 : decode cX9_traded 1 = .ok (.getfield 57, 3) := by decide +kernel
theorem dX9_traded_4 : decode cX9_traded 4 = .ok (.iconst 0, 1) := by decide +kernel
theorem dX9_traded_5 : decode cX9_traded 5 = .ok (.aaload, 1) := by decide +kernel
theorem dX9_traded_6 : decode cX9_traded 6 = .ok (.iload_n 2, 1) := by decide +kernel
theorem dX9_traded_7 : decode cX9_traded 7 = .ok (.iaload, 1) := by decide +kernel
theorem dX9_traded_8 : decode cX9_traded 8 = .ok (.istore 4, 2) := by decide +kernel
theorem dX9_traded_10 : decode cX9_traded 10 = .ok (.iload_n 2, 1) := by decide +kernel
theorem dX9_traded_11 : decode cX9_traded 11 = .ok (.iload_n 3, 1) := by decide +kernel
theorem dX9_traded_12 : decode cX9_traded 12 = .ok (.if_icmp .ge 9, 3) := by decide +kernel
theorem dX9_traded_15 : decode cX9_traded 15 = .ok (.iload_n 3, 1) := by decide +kernel
theorem dX9_traded_16 : decode cX9_traded 16 = .ok (.iload_n 2, 1) := by decide +kernel
theorem dX9_traded_17 : decode cX9_traded 17 = .ok (.isub, 1) := by decide +kernel
theorem dX9_traded_18 : decode cX9_traded 18 = .ok (.goto 6, 3) := by decide +kernel
theorem dX9_traded_21 : decode cX9_traded 21 = .ok (.iload_n 2, 1) := by decide +kernel
theorem dX9_traded_22 : decode cX9_traded 22 = .ok (.iload_n 3, 1) := by decide +kernel
theorem dX9_traded_23 : decode cX9_traded 23 = .ok (.isub, 1) := by decide +kernel
theorem dX9_traded_24 : decode cX9_traded 24 = .ok (.istore 5, 2) := by decide +kernel
theorem dX9_traded_26 : decode cX9_traded 26 = .ok (.iload 4, 2) := by decide +kernel
theorem dX9_traded_28 : decode cX9_traded 28 = .ok (.ifCond .ne 7, 3) := by decide +kernel
theorem dX9_traded_31 : decode cX9_traded 31 = .ok (.iconst 0, 1) := by decide +kernel
theorem dX9_traded_32 : decode cX9_traded 32 = .ok (.goto 7, 3) := by decide +kernel
theorem dX9_traded_35 : decode cX9_traded 35 = .ok (.iload_n 1, 1) := by decide +kernel
theorem dX9_traded_36 : decode cX9_traded 36 = .ok (.iload 4, 2) := by decide +kernel
theorem dX9_traded_38 : decode cX9_traded 38 = .ok (.idiv, 1) := by decide +kernel
theorem dX9_traded_39 : decode cX9_traded 39 = .ok (.istore 6, 2) := by decide +kernel
theorem dX9_traded_41 : decode cX9_traded 41 = .ok (.iload_n 1, 1) := by decide +kernel
theorem dX9_traded_42 : decode cX9_traded 42 = .ok (.iload 6, 2) := by decide +kernel
theorem dX9_traded_44 : decode cX9_traded 44 = .ok (.iload 4, 2) := by decide +kernel
theorem dX9_traded_46 : decode cX9_traded 46 = .ok (.imul, 1) := by decide +kernel
theorem dX9_traded_47 : decode cX9_traded 47 = .ok (.isub, 1) := by decide +kernel
theorem dX9_traded_48 : decode cX9_traded 48 = .ok (.iload 6, 2) := by decide +kernel
theorem dX9_traded_50 : decode cX9_traded 50 = .ok (.aload_n 0, 1) := by decide +kernel
theorem dX9_traded_51 : decode cX9_traded 51 = .ok (.getfield 57, 3) := by decide +kernel
theorem dX9_traded_54 : decode cX9_traded 54 = .ok (.iload 5, 2) := by decide +kernel
theorem dX9_traded_56 : decode cX9_traded 56 = .ok (.aaload, 1) := by decide +kernel
theorem dX9_traded_57 : decode cX9_traded 57 = .ok (.iload_n 3, 1) := by decide +kernel
theorem dX9_traded_58 : decode cX9_traded 58 = .ok (.iaload, 1) := by decide +kernel
theorem dX9_traded_59 : decode cX9_traded 59 = .ok (.imul, 1) := by decide +kernel
theorem dX9_traded_60 : decode cX9_traded 60 = .ok (.iadd, 1) := by decide +kernel
theorem dX9_traded_61 : decode cX9_traded 61 = .ok (.ireturn, 1) := by decide +kernel
theorem dX9_buys_0 : decode cX9_buys 0 = .ok (.iload_n 1, 1) := by decide +kernel
theorem dX9_buys_1 : decode cX9_buys 1 = .ok (.iconst 0, 1) := by decide +kernel
theorem dX9_buys_2 : decode cX9_buys 2 = .ok (.iconst 4, 1) := by decide +kernel
theorem dX9_buys_3 : decode cX9_buys 3 = .ok (.invokestatic 140, 3) := by decide +kernel
theorem dX9_buys_6 : decode cX9_buys 6 = .ok (.ifCond .eq 14, 3) := by decide +kernel
theorem dX9_buys_9 : decode cX9_buys 9 = .ok (.aload_n 0, 1) := by decide +kernel
theorem dX9_buys_10 : decode cX9_buys 10 = .ok (.iload_n 2, 1) := by decide +kernel
theorem dX9_buys_11 : decode cX9_buys 11 = .ok (.iload_n 3, 1) := by decide +kernel
theorem dX9_buys_12 : decode cX9_buys 12 = .ok (.iload 4, 2) := by decide +kernel
theorem dX9_buys_14 : decode cX9_buys 14 = .ok (.invokevirtual 292, 3) := by decide +kernel
theorem dX9_buys_17 : decode cX9_buys 17 = .ok (.ifCond .ne 5, 3) := by decide +kernel
theorem dX9_buys_20 : decode cX9_buys 20 = .ok (.iconst (-1), 1) := by decide +kernel
theorem dX9_buys_21 : decode cX9_buys 21 = .ok (.ireturn, 1) := by decide +kernel
theorem dX9_buys_22 : decode cX9_buys 22 = .ok (.aload_n 0, 1) := by decide +kernel
theorem dX9_buys_23 : decode cX9_buys 23 = .ok (.iload_n 1, 1) := by decide +kernel
theorem dX9_buys_24 : decode cX9_buys 24 = .ok (.iload_n 2, 1) := by decide +kernel
theorem dX9_buys_25 : decode cX9_buys 25 = .ok (.iload_n 3, 1) := by decide +kernel
theorem dX9_buys_26 : decode cX9_buys 26 = .ok (.iload 4, 2) := by decide +kernel
theorem dX9_buys_28 : decode cX9_buys 28 = .ok (.invokevirtual 295, 3) := by decide +kernel
theorem dX9_buys_31 : decode cX9_buys 31 = .ok (.ireturn, 1) := by decide +kernel
theorem dX9_best_0 : decode cX9_best 0 = .ok (.aload_n 0, 1) := by decide +kernel
theorem dX9_best_1 : decode cX9_best 1 = .ok (.iload_n 1, 1) := by decide +kernel
theorem dX9_best_2 : decode cX9_best 2 = .ok (.iload_n 2, 1) := by decide +kernel
theorem dX9_best_3 : decode cX9_best 3 = .ok (.iload_n 3, 1) := by decide +kernel
theorem dX9_best_4 : decode cX9_best 4 = .ok (.invokevirtual 292, 3) := by decide +kernel
theorem dX9_best_7 : decode cX9_best 7 = .ok (.ifCond .ne 5, 3) := by decide +kernel
theorem dX9_best_10 : decode cX9_best 10 = .ok (.iconst (-1), 1) := by decide +kernel
theorem dX9_best_11 : decode cX9_best 11 = .ok (.ireturn, 1) := by decide +kernel
theorem dX9_best_12 : decode cX9_best 12 = .ok (.iconst (-1), 1) := by decide +kernel
theorem dX9_best_13 : decode cX9_best 13 = .ok (.istore 4, 2) := by decide +kernel
theorem dX9_best_15 : decode cX9_best 15 = .ok (.iconst (-1), 1) := by decide +kernel
theorem dX9_best_16 : decode cX9_best 16 = .ok (.istore 5, 2) := by decide +kernel
theorem dX9_best_18 : decode cX9_best 18 = .ok (.iconst 0, 1) := by decide +kernel
theorem dX9_best_19 : decode cX9_best 19 = .ok (.istore 6, 2) := by decide +kernel
theorem dX9_best_21 : decode cX9_best 21 = .ok (.iload 6, 2) := by decide +kernel
theorem dX9_best_23 : decode cX9_best 23 = .ok (.iconst 4, 1) := by decide +kernel
theorem dX9_best_24 : decode cX9_best 24 = .ok (.if_icmp .gt 35, 3) := by decide +kernel
theorem dX9_best_27 : decode cX9_best 27 = .ok (.aload_n 0, 1) := by decide +kernel
theorem dX9_best_28 : decode cX9_best 28 = .ok (.iload 6, 2) := by decide +kernel
theorem dX9_best_30 : decode cX9_best 30 = .ok (.iload_n 1, 1) := by decide +kernel
theorem dX9_best_31 : decode cX9_best 31 = .ok (.iload_n 2, 1) := by decide +kernel
theorem dX9_best_32 : decode cX9_best 32 = .ok (.iload_n 3, 1) := by decide +kernel
theorem dX9_best_33 : decode cX9_best 33 = .ok (.invokevirtual 295, 3) := by decide +kernel
theorem dX9_best_36 : decode cX9_best 36 = .ok (.istore 7, 2) := by decide +kernel
theorem dX9_best_38 : decode cX9_best 38 = .ok (.iload 7, 2) := by decide +kernel
theorem dX9_best_40 : decode cX9_best 40 = .ok (.iload 4, 2) := by decide +kernel
theorem dX9_best_42 : decode cX9_best 42 = .ok (.if_icmp .le 11, 3) := by decide +kernel
theorem dX9_best_45 : decode cX9_best 45 = .ok (.iload 7, 2) := by decide +kernel
theorem dX9_best_47 : decode cX9_best 47 = .ok (.istore 4, 2) := by decide +kernel
theorem dX9_best_49 : decode cX9_best 49 = .ok (.iload 6, 2) := by decide +kernel
theorem dX9_best_51 : decode cX9_best 51 = .ok (.istore 5, 2) := by decide +kernel
theorem dX9_best_53 : decode cX9_best 53 = .ok (.iinc 6 1, 3) := by decide +kernel
theorem dX9_best_56 : decode cX9_best 56 = .ok (.goto (-35), 3) := by decide +kernel
theorem dX9_best_59 : decode cX9_best 59 = .ok (.aload_n 0, 1) := by decide +kernel
theorem dX9_best_60 : decode cX9_best 60 = .ok (.getfield 19, 3) := by decide +kernel
theorem dX9_best_63 : decode cX9_best 63 = .ok (.iload 4, 2) := by decide +kernel
theorem dX9_best_65 : decode cX9_best 65 = .ok (.i2l, 1) := by decide +kernel
theorem dX9_best_66 : decode cX9_best 66 = .ok (.invokevirtual 282, 3) := by decide +kernel
theorem dX9_best_69 : decode cX9_best 69 = .ok (.iload 5, 2) := by decide +kernel
theorem dX9_best_71 : decode cX9_best 71 = .ok (.ireturn, 1) := by decide +kernel
theorem dX9_maySpend_0 : decode cX9_maySpend 0 = .ok (.aload_n 0, 1) := by decide +kernel
theorem dX9_maySpend_1 : decode cX9_maySpend 1 = .ok (.getfield 26, 3) := by decide +kernel
theorem dX9_maySpend_4 : decode cX9_maySpend 4 = .ok (.iload_n 1, 1) := by decide +kernel
theorem dX9_maySpend_5 : decode cX9_maySpend 5 = .ok (.invokevirtual 137, 3) := by decide +kernel
theorem dX9_maySpend_8 : decode cX9_maySpend 8 = .ok (.ifCond .eq 28, 3) := by decide +kernel
theorem dX9_maySpend_11 : decode cX9_maySpend 11 = .ok (.iload_n 2, 1) := by decide +kernel
theorem dX9_maySpend_12 : decode cX9_maySpend 12 = .ok (.iconst 0, 1) := by decide +kernel
theorem dX9_maySpend_13 : decode cX9_maySpend 13 = .ok (.sipush 9999, 3) := by decide +kernel
theorem dX9_maySpend_16 : decode cX9_maySpend 16 = .ok (.invokestatic 140, 3) := by decide +kernel
theorem dX9_maySpend_19 : decode cX9_maySpend 19 = .ok (.ifCond .eq 17, 3) := by decide +kernel
theorem dX9_maySpend_22 : decode cX9_maySpend 22 = .ok (.iload_n 3, 1) := by decide +kernel
theorem dX9_maySpend_23 : decode cX9_maySpend 23 = .ok (.iconst 0, 1) := by decide +kernel
theorem dX9_maySpend_24 : decode cX9_maySpend 24 = .ok (.bipush 60, 2) := by decide +kernel
theorem dX9_maySpend_26 : decode cX9_maySpend 26 = .ok (.invokestatic 140, 3) := by decide +kernel
theorem dX9_maySpend_29 : decode cX9_maySpend 29 = .ok (.ifCond .eq 7, 3) := by decide +kernel
theorem dX9_maySpend_32 : decode cX9_maySpend 32 = .ok (.iconst 1, 1) := by decide +kernel
theorem dX9_maySpend_33 : decode cX9_maySpend 33 = .ok (.goto 4, 3) := by decide +kernel
theorem dX9_maySpend_36 : decode cX9_maySpend 36 = .ok (.iconst 0, 1) := by decide +kernel
theorem dX9_maySpend_37 : decode cX9_maySpend 37 = .ok (.ireturn, 1) := by decide +kernel
theorem dX9_goodsByKind_0 : decode cX9_goodsByKind 0 = .ok (.iload_n 1, 1) := by decide +kernel
theorem dX9_goodsByKind_1 : decode cX9_goodsByKind 1 = .ok (.tableswitch 104 0 3 #[31, 45, 68, 84], 31) := by decide +kernel
theorem dX9_goodsByKind_32 : decode cX9_goodsByKind 32 = .ok (.iload_n 3, 1) := by decide +kernel
theorem dX9_goodsByKind_33 : decode cX9_goodsByKind 33 = .ok (.aload_n 0, 1) := by decide +kernel
theorem dX9_goodsByKind_34 : decode cX9_goodsByKind 34 = .ok (.aload_n 0, 1) := by decide +kernel
theorem dX9_goodsByKind_35 : decode cX9_goodsByKind 35 = .ok (.getfield 26, 3) := by decide +kernel
theorem dX9_goodsByKind_38 : decode cX9_goodsByKind 38 = .ok (.iload_n 2, 1) := by decide +kernel
theorem dX9_goodsByKind_39 : decode cX9_goodsByKind 39 = .ok (.invokevirtual 153, 3) := by decide +kernel
theorem dX9_goodsByKind_42 : decode cX9_goodsByKind 42 = .ok (.invokestatic 298, 3) := by decide +kernel
theorem dX9_goodsByKind_45 : decode cX9_goodsByKind 45 = .ok (.ireturn, 1) := by decide +kernel
theorem dX9_goodsByKind_46 : decode cX9_goodsByKind 46 = .ok (.iload_n 3, 1) := by decide +kernel
theorem dX9_goodsByKind_47 : decode cX9_goodsByKind 47 = .ok (.aload_n 0, 1) := by decide +kernel
theorem dX9_goodsByKind_48 : decode cX9_goodsByKind 48 = .ok (.getfield 94, 3) := by decide +kernel
theorem dX9_goodsByKind_51 : decode cX9_goodsByKind 51 = .ok (.iconst 0, 1) := by decide +kernel
theorem dX9_goodsByKind_52 : decode cX9_goodsByKind 52 = .ok (.iconst 0, 1) := by decide +kernel
theorem dX9_goodsByKind_53 : decode cX9_goodsByKind 53 = .ok (.aload_n 0, 1) := by decide +kernel
theorem dX9_goodsByKind_54 : decode cX9_goodsByKind 54 = .ok (.getfield 51, 3) := by decide +kernel
theorem dX9_goodsByKind_57 : decode cX9_goodsByKind 57 = .ok (.iload_n 2, 1) := by decide +kernel
theorem dX9_goodsByKind_58 : decode cX9_goodsByKind 58 = .ok (.iaload, 1) := by decide +kernel
theorem dX9_goodsByKind_59 : decode cX9_goodsByKind 59 = .ok (.iload_n 2, 1) := by decide +kernel
theorem dX9_goodsByKind_60 : decode cX9_goodsByKind 60 = .ok (.iconst 0, 1) := by decide +kernel
theorem dX9_goodsByKind_61 : decode cX9_goodsByKind 61 = .ok (.iconst 0, 1) := by decide +kernel
theorem dX9_goodsByKind_62 : decode cX9_goodsByKind 62 = .ok (.invokevirtual 301, 3) := by decide +kernel
theorem dX9_goodsByKind_65 : decode cX9_goodsByKind 65 = .ok (.invokestatic 298, 3) := by decide +kernel
theorem dX9_goodsByKind_68 : decode cX9_goodsByKind 68 = .ok (.ireturn, 1) := by decide +kernel
theorem dX9_goodsByKind_69 : decode cX9_goodsByKind 69 = .ok (.iload_n 3, 1) := by decide +kernel
theorem dX9_goodsByKind_70 : decode cX9_goodsByKind 70 = .ok (.aload_n 0, 1) := by decide +kernel
theorem dX9_goodsByKind_71 : decode cX9_goodsByKind 71 = .ok (.aload_n 0, 1) := by decide +kernel
theorem dX9_goodsByKind_72 : decode cX9_goodsByKind 72 = .ok (.getfield 26, 3) := by decide +kernel
theorem dX9_goodsByKind_75 : decode cX9_goodsByKind 75 = .ok (.iload_n 2, 1) := by decide +kernel
theorem dX9_goodsByKind_76 : decode cX9_goodsByKind 76 = .ok (.invokevirtual 153, 3) := by decide +kernel
theorem dX9_goodsByKind_79 : decode cX9_goodsByKind 79 = .ok (.iconst 2, 1) := by decide +kernel
theorem dX9_goodsByKind_80 : decode cX9_goodsByKind 80 = .ok (.idiv, 1) := by decide +kernel
theorem dX9_goodsByKind_81 : decode cX9_goodsByKind 81 = .ok (.invokestatic 298, 3) := by decide +kernel
theorem dX9_goodsByKind_84 : decode cX9_goodsByKind 84 = .ok (.ireturn, 1) := by decide +kernel
theorem dX9_goodsByKind_85 : decode cX9_goodsByKind 85 = .ok (.aload_n 0, 1) := by decide +kernel
theorem dX9_goodsByKind_86 : decode cX9_goodsByKind 86 = .ok (.iload 4, 2) := by decide +kernel
theorem dX9_goodsByKind_88 : decode cX9_goodsByKind 88 = .ok (.invokevirtual 279, 3) := by decide +kernel
theorem dX9_goodsByKind_91 : decode cX9_goodsByKind 91 = .ok (.iload_n 3, 1) := by decide +kernel
theorem dX9_goodsByKind_92 : decode cX9_goodsByKind 92 = .ok (.aload_n 0, 1) := by decide +kernel
theorem dX9_goodsByKind_93 : decode cX9_goodsByKind 93 = .ok (.aload_n 0, 1) := by decide +kernel
theorem dX9_goodsByKind_94 : decode cX9_goodsByKind 94 = .ok (.getfield 33, 3) := by decide +kernel
theorem dX9_goodsByKind_97 : decode cX9_goodsByKind 97 = .ok (.iload_n 2, 1) := by decide +kernel
theorem dX9_goodsByKind_98 : decode cX9_goodsByKind 98 = .ok (.invokevirtual 153, 3) := by decide +kernel
theorem dX9_goodsByKind_101 : decode cX9_goodsByKind 101 = .ok (.invokestatic 298, 3) := by decide +kernel
theorem dX9_goodsByKind_104 : decode cX9_goodsByKind 104 = .ok (.ireturn, 1) := by decide +kernel
theorem dX9_goodsByKind_105 : decode cX9_goodsByKind 105 = .ok (.iload_n 3, 1) := by decide +kernel
theorem dX9_goodsByKind_106 : decode cX9_goodsByKind 106 = .ok (.iconst 2, 1) := by decide +kernel
theorem dX9_goodsByKind_107 : decode cX9_goodsByKind 107 = .ok (.idiv, 1) := by decide +kernel
theorem dX9_goodsByKind_108 : decode cX9_goodsByKind 108 = .ok (.aload_n 0, 1) := by decide +kernel
theorem dX9_goodsByKind_109 : decode cX9_goodsByKind 109 = .ok (.aload_n 0, 1) := by decide +kernel
theorem dX9_goodsByKind_110 : decode cX9_goodsByKind 110 = .ok (.getfield 26, 3) := by decide +kernel
theorem dX9_goodsByKind_113 : decode cX9_goodsByKind 113 = .ok (.iload_n 2, 1) := by decide +kernel
theorem dX9_goodsByKind_114 : decode cX9_goodsByKind 114 = .ok (.invokevirtual 153, 3) := by decide +kernel
theorem dX9_goodsByKind_117 : decode cX9_goodsByKind 117 = .ok (.invokestatic 298, 3) := by decide +kernel
theorem dX9_goodsByKind_120 : decode cX9_goodsByKind 120 = .ok (.ireturn, 1) := by decide +kernel
theorem dX9_closes_0 : decode cX9_closes 0 = .ok (.aload_n 0, 1) := by decide +kernel
theorem dX9_closes_1 : decode cX9_closes 1 = .ok (.getfield 26, 3) := by decide +kernel
theorem dX9_closes_4 : decode cX9_closes 4 = .ok (.iload_n 1, 1) := by decide +kernel
theorem dX9_closes_5 : decode cX9_closes 5 = .ok (.invokevirtual 137, 3) := by decide +kernel
theorem dX9_closes_8 : decode cX9_closes 8 = .ok (.ifCond .eq 23, 3) := by decide +kernel
theorem dX9_closes_11 : decode cX9_closes 11 = .ok (.iload_n 2, 1) := by decide +kernel
theorem dX9_closes_12 : decode cX9_closes 12 = .ok (.iconst 1, 1) := by decide +kernel
theorem dX9_closes_13 : decode cX9_closes 13 = .ok (.bipush 8, 2) := by decide +kernel
theorem dX9_closes_15 : decode cX9_closes 15 = .ok (.invokestatic 140, 3) := by decide +kernel
theorem dX9_closes_18 : decode cX9_closes 18 = .ok (.ifCond .eq 13, 3) := by decide +kernel
theorem dX9_closes_21 : decode cX9_closes 21 = .ok (.iload_n 3, 1) := by decide +kernel
theorem dX9_closes_22 : decode cX9_closes 22 = .ok (.iconst 0, 1) := by decide +kernel
theorem dX9_closes_23 : decode cX9_closes 23 = .ok (.bipush 8, 2) := by decide +kernel
theorem dX9_closes_25 : decode cX9_closes 25 = .ok (.invokestatic 140, 3) := by decide +kernel
theorem dX9_closes_28 : decode cX9_closes 28 = .ok (.ifCond .ne 5, 3) := by decide +kernel
theorem dX9_closes_31 : decode cX9_closes 31 = .ok (.iconst (-1), 1) := by decide +kernel
theorem dX9_closes_32 : decode cX9_closes 32 = .ok (.ireturn, 1) := by decide +kernel
theorem dX9_closes_33 : decode cX9_closes 33 = .ok (.iconst 0, 1) := by decide +kernel
theorem dX9_closes_34 : decode cX9_closes 34 = .ok (.istore 4, 2) := by decide +kernel
theorem dX9_closes_36 : decode cX9_closes 36 = .ok (.iconst (-1), 1) := by decide +kernel
theorem dX9_closes_37 : decode cX9_closes 37 = .ok (.istore 5, 2) := by decide +kernel
theorem dX9_closes_39 : decode cX9_closes 39 = .ok (.iconst 0, 1) := by decide +kernel
theorem dX9_closes_40 : decode cX9_closes 40 = .ok (.istore 6, 2) := by decide +kernel
theorem dX9_closes_42 : decode cX9_closes 42 = .ok (.iload 6, 2) := by decide +kernel
theorem dX9_closes_44 : decode cX9_closes 44 = .ok (.iconst 1, 1) := by decide +kernel
theorem dX9_closes_45 : decode cX9_closes 45 = .ok (.iload_n 2, 1) := by decide +kernel
theorem dX9_closes_46 : decode cX9_closes 46 = .ok (.ishl, 1) := by decide +kernel
theorem dX9_closes_47 : decode cX9_closes 47 = .ok (.if_icmp .ge 66, 3) := by decide +kernel
theorem dX9_closes_50 : decode cX9_closes 50 = .ok (.iload 6, 2) := by decide +kernel
theorem dX9_closes_52 : decode cX9_closes 52 = .ok (.invokestatic 305, 3) := by decide +kernel
theorem dX9_closes_55 : decode cX9_closes 55 = .ok (.iload_n 3, 1) := by decide +kernel
theorem dX9_closes_56 : decode cX9_closes 56 = .ok (.if_icmp .gt 51, 3) := by decide +kernel
theorem dX9_closes_59 : decode cX9_closes 59 = .ok (.aload_n 0, 1) := by decide +kernel
theorem dX9_closes_60 : decode cX9_closes 60 = .ok (.iload_n 1, 1) := by decide +kernel
theorem dX9_closes_61 : decode cX9_closes 61 = .ok (.iload_n 2, 1) := by decide +kernel
theorem dX9_closes_62 : decode cX9_closes 62 = .ok (.iload 6, 2) := by decide +kernel
theorem dX9_closes_64 : decode cX9_closes 64 = .ok (.invokevirtual 310, 3) := by decide +kernel
theorem dX9_closes_67 : decode cX9_closes 67 = .ok (.istore 7, 2) := by decide +kernel
theorem dX9_closes_69 : decode cX9_closes 69 = .ok (.iload 5, 2) := by decide +kernel
theorem dX9_closes_71 : decode cX9_closes 71 = .ok (.iconst (-1), 1) := by decide +kernel
theorem dX9_closes_72 : decode cX9_closes 72 = .ok (.if_icmp .eq 27, 3) := by decide +kernel
theorem dX9_closes_75 : decode cX9_closes 75 = .ok (.iload 7, 2) := by decide +kernel
theorem dX9_closes_77 : decode cX9_closes 77 = .ok (.iload 4, 2) := by decide +kernel
theorem dX9_closes_79 : decode cX9_closes 79 = .ok (.if_icmp .lt 20, 3) := by decide +kernel
theorem dX9_closes_82 : decode cX9_closes 82 = .ok (.iload 7, 2) := by decide +kernel
theorem dX9_closes_84 : decode cX9_closes 84 = .ok (.iload 4, 2) := by decide +kernel
theorem dX9_closes_86 : decode cX9_closes 86 = .ok (.if_icmp .ne 21, 3) := by decide +kernel
theorem dX9_closes_89 : decode cX9_closes 89 = .ok (.iload 6, 2) := by decide +kernel
theorem dX9_closes_91 : decode cX9_closes 91 = .ok (.iload 5, 2) := by decide +kernel
theorem dX9_closes_93 : decode cX9_closes 93 = .ok (.invokestatic 313, 3) := by decide +kernel
theorem dX9_closes_96 : decode cX9_closes 96 = .ok (.ifCond .eq 11, 3) := by decide +kernel
theorem dX9_closes_99 : decode cX9_closes 99 = .ok (.iload 7, 2) := by decide +kernel
theorem dX9_closes_101 : decode cX9_closes 101 = .ok (.istore 4, 2) := by decide +kernel
theorem dX9_closes_103 : decode cX9_closes 103 = .ok (.iload 6, 2) := by decide +kernel
theorem dX9_closes_105 : decode cX9_closes 105 = .ok (.istore 5, 2) := by decide +kernel
theorem dX9_closes_107 : decode cX9_closes 107 = .ok (.iinc 6 1, 3) := by decide +kernel
theorem dX9_closes_110 : decode cX9_closes 110 = .ok (.goto (-68), 3) := by decide +kernel
theorem dX9_closes_113 : decode cX9_closes 113 = .ok (.aload_n 0, 1) := by decide +kernel
theorem dX9_closes_114 : decode cX9_closes 114 = .ok (.getfield 19, 3) := by decide +kernel
theorem dX9_closes_117 : decode cX9_closes 117 = .ok (.iload 5, 2) := by decide +kernel
theorem dX9_closes_119 : decode cX9_closes 119 = .ok (.i2l, 1) := by decide +kernel
theorem dX9_closes_120 : decode cX9_closes 120 = .ok (.invokevirtual 282, 3) := by decide +kernel
theorem dX9_closes_123 : decode cX9_closes 123 = .ok (.iload 4, 2) := by decide +kernel
theorem dX9_closes_125 : decode cX9_closes 125 = .ok (.ireturn, 1) := by decide +kernel
theorem dX9_priceBehindClosing_0 : decode cX9_priceBehindClosing 0 = .ok (.aload_n 0, 1) := by decide +kernel
theorem dX9_priceBehindClosing_1 : decode cX9_priceBehindClosing 1 = .ok (.getfield 33, 3) := by decide +kernel
theorem dX9_priceBehindClosing_4 : decode cX9_priceBehindClosing 4 = .ok (.aload_n 0, 1) := by decide +kernel
theorem dX9_priceBehindClosing_5 : decode cX9_priceBehindClosing 5 = .ok (.getfield 26, 3) := by decide +kernel
theorem dX9_priceBehindClosing_8 : decode cX9_priceBehindClosing 8 = .ok (.invokevirtual 175, 3) := by decide +kernel
theorem dX9_priceBehindClosing_11 : decode cX9_priceBehindClosing 11 = .ok (.iconst 0, 1) := by decide +kernel
theorem dX9_priceBehindClosing_12 : decode cX9_priceBehindClosing 12 = .ok (.istore 4, 2) := by decide +kernel
theorem dX9_priceBehindClosing_14 : decode cX9_priceBehindClosing 14 = .ok (.iload 4, 2) := by decide +kernel
theorem dX9_priceBehindClosing_16 : decode cX9_priceBehindClosing 16 = .ok (.iload_n 2, 1) := by decide +kernel
theorem dX9_priceBehindClosing_17 : decode cX9_priceBehindClosing 17 = .ok (.if_icmp .ge 44, 3) := by decide +kernel
theorem dX9_priceBehindClosing_20 : decode cX9_priceBehindClosing 20 = .ok (.aload_n 0, 1) := by decide +kernel
theorem dX9_priceBehindClosing_21 : decode cX9_priceBehindClosing 21 = .ok (.getfield 33, 3) := by decide +kernel
theorem dX9_priceBehindClosing_24 : decode cX9_priceBehindClosing 24 = .ok (.iload_n 3, 1) := by decide +kernel
theorem dX9_priceBehindClosing_25 : decode cX9_priceBehindClosing 25 = .ok (.iload 4, 2) := by decide +kernel
theorem dX9_priceBehindClosing_27 : decode cX9_priceBehindClosing 27 = .ok (.ishr, 1) := by decide +kernel
theorem dX9_priceBehindClosing_28 : decode cX9_priceBehindClosing 28 = .ok (.iconst 1, 1) := by decide +kernel
theorem dX9_priceBehindClosing_29 : decode cX9_priceBehindClosing 29 = .ok (.iand, 1) := by decide +kernel
theorem dX9_priceBehindClosing_30 : decode cX9_priceBehindClosing 30 = .ok (.iconst 1, 1) := by decide +kernel
theorem dX9_priceBehindClosing_31 : decode cX9_priceBehindClosing 31 = .ok (.if_icmp .ne 7, 3) := by decide +kernel
theorem dX9_priceBehindClosing_34 : decode cX9_priceBehindClosing 34 = .ok (.iconst 1, 1) := by decide +kernel
theorem dX9_priceBehindClosing_35 : decode cX9_priceBehindClosing 35 = .ok (.goto 4, 3) := by decide +kernel
theorem dX9_priceBehindClosing_38 : decode cX9_priceBehindClosing 38 = .ok (.iconst 0, 1) := by decide +kernel
theorem dX9_priceBehindClosing_39 : decode cX9_priceBehindClosing 39 = .ok (.putfield 317, 3) := by decide +kernel
theorem dX9_priceBehindClosing_42 : decode cX9_priceBehindClosing 42 = .ok (.aload_n 0, 1) := by decide +kernel
theorem dX9_priceBehindClosing_43 : decode cX9_priceBehindClosing 43 = .ok (.getfield 33, 3) := by decide +kernel
theorem dX9_priceBehindClosing_46 : decode cX9_priceBehindClosing 46 = .ok (.aload_n 0, 1) := by decide +kernel
theorem dX9_priceBehindClosing_47 : decode cX9_priceBehindClosing 47 = .ok (.getfield 84, 3) := by decide +kernel
theorem dX9_priceBehindClosing_50 : decode cX9_priceBehindClosing 50 = .ok (.iconst 1, 1) := by decide +kernel
theorem dX9_priceBehindClosing_51 : decode cX9_priceBehindClosing 51 = .ok (.invokevirtual 179, 3) := by decide +kernel
theorem dX9_priceBehindClosing_54 : decode cX9_priceBehindClosing 54 = .ok (.pop, 1) := by decide +kernel
theorem dX9_priceBehindClosing_55 : decode cX9_priceBehindClosing 55 = .ok (.iinc 4 1, 3) := by decide +kernel
theorem dX9_priceBehindClosing_58 : decode cX9_priceBehindClosing 58 = .ok (.goto (-44), 3) := by decide +kernel
theorem dX9_priceBehindClosing_61 : decode cX9_priceBehindClosing 61 = .ok (.aload_n 0, 1) := by decide +kernel
theorem dX9_priceBehindClosing_62 : decode cX9_priceBehindClosing 62 = .ok (.aload_n 0, 1) := by decide +kernel
theorem dX9_priceBehindClosing_63 : decode cX9_priceBehindClosing 63 = .ok (.getfield 33, 3) := by decide +kernel
theorem dX9_priceBehindClosing_66 : decode cX9_priceBehindClosing 66 = .ok (.iload_n 1, 1) := by decide +kernel
theorem dX9_priceBehindClosing_67 : decode cX9_priceBehindClosing 67 = .ok (.invokevirtual 153, 3) := by decide +kernel
theorem dX9_priceBehindClosing_70 : decode cX9_priceBehindClosing 70 = .ok (.ireturn, 1) := by decide +kernel
theorem dX9_grows_0 : decode cX9_grows 0 = .ok (.iload_n 1, 1) := by decide +kernel
theorem dX9_grows_1 : decode cX9_grows 1 = .ok (.iconst 1, 1) := by decide +kernel
theorem dX9_grows_2 : decode cX9_grows 2 = .ok (.bipush 60, 2) := by decide +kernel
theorem dX9_grows_4 : decode cX9_grows 4 = .ok (.invokestatic 140, 3) := by decide +kernel
theorem dX9_grows_7 : decode cX9_grows 7 = .ok (.ifCond .ne 5, 3) := by decide +kernel
theorem dX9_grows_10 : decode cX9_grows 10 = .ok (.iconst (-1), 1) := by decide +kernel
theorem dX9_grows_11 : decode cX9_grows 11 = .ok (.ireturn, 1) := by decide +kernel
theorem dX9_grows_12 : decode cX9_grows 12 = .ok (.aload_n 0, 1) := by decide +kernel
theorem dX9_grows_13 : decode cX9_grows 13 = .ok (.getfield 26, 3) := by decide +kernel
theorem dX9_grows_16 : decode cX9_grows 16 = .ok (.getfield 47, 3) := by decide +kernel
theorem dX9_grows_19 : decode cX9_grows 19 = .ok (.ifCond .ne 6, 3) := by decide +kernel
theorem dX9_grows_22 : decode cX9_grows 22 = .ok (.bipush (-2), 2) := by decide +kernel
theorem dX9_grows_24 : decode cX9_grows 24 = .ok (.ireturn, 1) := by decide +kernel
theorem dX9_grows_25 : decode cX9_grows 25 = .ok (.aload_n 0, 1) := by decide +kernel
theorem dX9_grows_26 : decode cX9_grows 26 = .ok (.iload_n 1, 1) := by decide +kernel
theorem dX9_grows_27 : decode cX9_grows 27 = .ok (.invokevirtual 279, 3) := by decide +kernel
theorem dX9_grows_30 : decode cX9_grows 30 = .ok (.iconst 0, 1) := by decide +kernel
theorem dX9_grows_31 : decode cX9_grows 31 = .ok (.istore_n 2, 1) := by decide +kernel
theorem dX9_grows_32 : decode cX9_grows 32 = .ok (.aload_n 0, 1) := by decide +kernel
theorem dX9_grows_33 : decode cX9_grows 33 = .ok (.iconst 0, 1) := by decide +kernel
theorem dX9_grows_34 : decode cX9_grows 34 = .ok (.invokevirtual 321, 3) := by decide +kernel
theorem dX9_grows_37 : decode cX9_grows 37 = .ok (.istore_n 3, 1) := by decide +kernel
theorem dX9_grows_38 : decode cX9_grows 38 = .ok (.iconst 1, 1) := by decide +kernel
theorem dX9_grows_39 : decode cX9_grows 39 = .ok (.istore 4, 2) := by decide +kernel
theorem dX9_grows_41 : decode cX9_grows 41 = .ok (.iload 4, 2) := by decide +kernel
theorem dX9_grows_43 : decode cX9_grows 43 = .ok (.aload_n 0, 1) := by decide +kernel
theorem dX9_grows_44 : decode cX9_grows 44 = .ok (.getfield 26, 3) := by decide +kernel
theorem dX9_grows_47 : decode cX9_grows 47 = .ok (.getfield 47, 3) := by decide +kernel
theorem dX9_grows_50 : decode cX9_grows 50 = .ok (.if_icmp .ge 29, 3) := by decide +kernel
theorem dX9_grows_53 : decode cX9_grows 53 = .ok (.aload_n 0, 1) := by decide +kernel
theorem dX9_grows_54 : decode cX9_grows 54 = .ok (.iload 4, 2) := by decide +kernel
theorem dX9_grows_56 : decode cX9_grows 56 = .ok (.invokevirtual 321, 3) := by decide +kernel
theorem dX9_grows_59 : decode cX9_grows 59 = .ok (.iload_n 3, 1) := by decide +kernel
theorem dX9_grows_60 : decode cX9_grows 60 = .ok (.if_icmp .le 13, 3) := by decide +kernel
theorem dX9_grows_63 : decode cX9_grows 63 = .ok (.iload 4, 2) := by decide +kernel
theorem dX9_grows_65 : decode cX9_grows 65 = .ok (.istore_n 2, 1) := by decide +kernel
theorem dX9_grows_66 : decode cX9_grows 66 = .ok (.aload_n 0, 1) := by decide +kernel
theorem dX9_grows_67 : decode cX9_grows 67 = .ok (.iload 4, 2) := by decide +kernel
theorem dX9_grows_69 : decode cX9_grows 69 = .ok (.invokevirtual 321, 3) := by decide +kernel
theorem dX9_grows_72 : decode cX9_grows 72 = .ok (.istore_n 3, 1) := by decide +kernel
theorem dX9_grows_73 : decode cX9_grows 73 = .ok (.iinc 4 1, 3) := by decide +kernel
theorem dX9_grows_76 : decode cX9_grows 76 = .ok (.goto (-35), 3) := by decide +kernel
theorem dX9_grows_79 : decode cX9_grows 79 = .ok (.aload_n 0, 1) := by decide +kernel
theorem dX9_grows_80 : decode cX9_grows 80 = .ok (.getfield 19, 3) := by decide +kernel
theorem dX9_grows_83 : decode cX9_grows 83 = .ok (.iload_n 3, 1) := by decide +kernel
theorem dX9_grows_84 : decode cX9_grows 84 = .ok (.i2l, 1) := by decide +kernel
theorem dX9_grows_85 : decode cX9_grows 85 = .ok (.invokevirtual 282, 3) := by decide +kernel
theorem dX9_grows_88 : decode cX9_grows 88 = .ok (.iload_n 2, 1) := by decide +kernel
theorem dX9_grows_89 : decode cX9_grows 89 = .ok (.ireturn, 1) := by decide +kernel
theorem dX9_growth_0 : decode cX9_growth 0 = .ok (.aload_n 0, 1) := by decide +kernel
theorem dX9_growth_1 : decode cX9_growth 1 = .ok (.aload_n 0, 1) := by decide +kernel
theorem dX9_growth_2 : decode cX9_growth 2 = .ok (.getfield 33, 3) := by decide +kernel
theorem dX9_growth_5 : decode cX9_growth 5 = .ok (.iload_n 1, 1) := by decide +kernel
theorem dX9_growth_6 : decode cX9_growth 6 = .ok (.invokevirtual 153, 3) := by decide +kernel
theorem dX9_growth_9 : decode cX9_growth 9 = .ok (.aload_n 0, 1) := by decide +kernel
theorem dX9_growth_10 : decode cX9_growth 10 = .ok (.aload_n 0, 1) := by decide +kernel
theorem dX9_growth_11 : decode cX9_growth 11 = .ok (.getfield 26, 3) := by decide +kernel
theorem dX9_growth_14 : decode cX9_growth 14 = .ok (.iload_n 1, 1) := by decide +kernel
theorem dX9_growth_15 : decode cX9_growth 15 = .ok (.invokevirtual 153, 3) := by decide +kernel
theorem dX9_growth_18 : decode cX9_growth 18 = .ok (.isub, 1) := by decide +kernel
theorem dX9_growth_19 : decode cX9_growth 19 = .ok (.ireturn, 1) := by decide +kernel
theorem dX9_reign_0 : decode cX9_reign 0 = .ok (.iload_n 1, 1) := by decide +kernel
theorem dX9_reign_1 : decode cX9_reign 1 = .ok (.iconst 1, 1) := by decide +kernel
theorem dX9_reign_2 : decode cX9_reign 2 = .ok (.bipush 8, 2) := by decide +kernel
theorem dX9_reign_4 : decode cX9_reign 4 = .ok (.invokestatic 140, 3) := by decide +kernel
theorem dX9_reign_7 : decode cX9_reign 7 = .ok (.ifCond .eq 24, 3) := by decide +kernel
theorem dX9_reign_10 : decode cX9_reign 10 = .ok (.iload_n 2, 1) := by decide +kernel
theorem dX9_reign_11 : decode cX9_reign 11 = .ok (.iconst 1, 1) := by decide +kernel
theorem dX9_reign_12 : decode cX9_reign 12 = .ok (.bipush 9, 2) := by decide +kernel
theorem dX9_reign_14 : decode cX9_reign 14 = .ok (.invokestatic 140, 3) := by decide +kernel
theorem dX9_reign_17 : decode cX9_reign 17 = .ok (.ifCond .eq 14, 3) := by decide +kernel
theorem dX9_reign_20 : decode cX9_reign 20 = .ok (.iload_n 3, 1) := by decide +kernel
theorem dX9_reign_21 : decode cX9_reign 21 = .ok (.iconst 0, 1) := by decide +kernel
theorem dX9_reign_22 : decode cX9_reign 22 = .ok (.ldc_w 324, 3) := by decide +kernel
theorem dX9_reign_25 : decode cX9_reign 25 = .ok (.invokestatic 140, 3) := by decide +kernel
theorem dX9_reign_28 : decode cX9_reign 28 = .ok (.ifCond .ne 5, 3) := by decide +kernel
theorem dX9_reign_31 : decode cX9_reign 31 = .ok (.iconst (-1), 1) := by decide +kernel
theorem dX9_reign_32 : decode cX9_reign 32 = .ok (.ireturn, 1) := by decide +kernel
theorem dX9_reign_33 : decode cX9_reign 33 = .ok (.aload_n 0, 1) := by decide +kernel
theorem dX9_reign_34 : decode cX9_reign 34 = .ok (.getfield 26, 3) := by decide +kernel
theorem dX9_reign_37 : decode cX9_reign 37 = .ok (.getfield 47, 3) := by decide +kernel
theorem dX9_reign_40 : decode cX9_reign 40 = .ok (.ifCond .ne 6, 3) := by decide +kernel
theorem dX9_reign_43 : decode cX9_reign 43 = .ok (.bipush (-2), 2) := by decide +kernel
theorem dX9_reign_45 : decode cX9_reign 45 = .ok (.ireturn, 1) := by decide +kernel
theorem dX9_reign_46 : decode cX9_reign 46 = .ok (.iconst (-1), 1) := by decide +kernel
theorem dX9_reign_47 : decode cX9_reign 47 = .ok (.istore 4, 2) := by decide +kernel
theorem dX9_reign_49 : decode cX9_reign 49 = .ok (.iconst (-1), 1) := by decide +kernel
theorem dX9_reign_50 : decode cX9_reign 50 = .ok (.istore 5, 2) := by decide +kernel
theorem dX9_reign_52 : decode cX9_reign 52 = .ok (.iconst 0, 1) := by decide +kernel
theorem dX9_reign_53 : decode cX9_reign 53 = .ok (.istore 6, 2) := by decide +kernel
theorem dX9_reign_55 : decode cX9_reign 55 = .ok (.iload 6, 2) := by decide +kernel
theorem dX9_reign_57 : decode cX9_reign 57 = .ok (.iconst 1, 1) := by decide +kernel
theorem dX9_reign_58 : decode cX9_reign 58 = .ok (.iload_n 1, 1) := by decide +kernel
theorem dX9_reign_59 : decode cX9_reign 59 = .ok (.ishl, 1) := by decide +kernel
theorem dX9_reign_60 : decode cX9_reign 60 = .ok (.if_icmp .ge 77, 3) := by decide +kernel
theorem dX9_reign_63 : decode cX9_reign 63 = .ok (.aload_n 0, 1) := by decide +kernel
theorem dX9_reign_64 : decode cX9_reign 64 = .ok (.iload_n 1, 1) := by decide +kernel
theorem dX9_reign_65 : decode cX9_reign 65 = .ok (.iload_n 2, 1) := by decide +kernel
theorem dX9_reign_66 : decode cX9_reign 66 = .ok (.iload 6, 2) := by decide +kernel
theorem dX9_reign_68 : decode cX9_reign 68 = .ok (.invokevirtual 325, 3) := by decide +kernel
theorem dX9_reign_71 : decode cX9_reign 71 = .ok (.aload_n 0, 1) := by decide +kernel
theorem dX9_reign_72 : decode cX9_reign 72 = .ok (.aload_n 0, 1) := by decide +kernel
theorem dX9_reign_73 : decode cX9_reign 73 = .ok (.getfield 33, 3) := by decide +kernel
theorem dX9_reign_76 : decode cX9_reign 76 = .ok (.iconst 0, 1) := by decide +kernel
theorem dX9_reign_77 : decode cX9_reign 77 = .ok (.invokevirtual 153, 3) := by decide +kernel
theorem dX9_reign_80 : decode cX9_reign 80 = .ok (.iload_n 3, 1) := by decide +kernel
theorem dX9_reign_81 : decode cX9_reign 81 = .ok (.if_icmp .lt 50, 3) := by decide +kernel
theorem dX9_reign_84 : decode cX9_reign 84 = .ok (.aload_n 0, 1) := by decide +kernel
theorem dX9_reign_85 : decode cX9_reign 85 = .ok (.getfield 33, 3) := by decide +kernel
theorem dX9_reign_88 : decode cX9_reign 88 = .ok (.getfield 237, 3) := by decide +kernel
theorem dX9_reign_91 : decode cX9_reign 91 = .ok (.istore 7, 2) := by decide +kernel
theorem dX9_reign_93 : decode cX9_reign 93 = .ok (.iload 5, 2) := by decide +kernel
theorem dX9_reign_95 : decode cX9_reign 95 = .ok (.iconst (-1), 1) := by decide +kernel
theorem dX9_reign_96 : decode cX9_reign 96 = .ok (.if_icmp .eq 27, 3) := by decide +kernel
theorem dX9_reign_99 : decode cX9_reign 99 = .ok (.iload 7, 2) := by decide +kernel
theorem dX9_reign_101 : decode cX9_reign 101 = .ok (.iload 4, 2) := by decide +kernel
theorem dX9_reign_103 : decode cX9_reign 103 = .ok (.if_icmp .gt 20, 3) := by decide +kernel
theorem dX9_reign_106 : decode cX9_reign 106 = .ok (.iload 7, 2) := by decide +kernel
theorem dX9_reign_108 : decode cX9_reign 108 = .ok (.iload 4, 2) := by decide +kernel
theorem dX9_reign_110 : decode cX9_reign 110 = .ok (.if_icmp .ne 21, 3) := by decide +kernel
theorem dX9_reign_113 : decode cX9_reign 113 = .ok (.iload 6, 2) := by decide +kernel
theorem dX9_reign_115 : decode cX9_reign 115 = .ok (.iload 5, 2) := by decide +kernel
theorem dX9_reign_117 : decode cX9_reign 117 = .ok (.invokestatic 313, 3) := by decide +kernel
theorem dX9_reign_120 : decode cX9_reign 120 = .ok (.ifCond .eq 11, 3) := by decide +kernel
theorem dX9_reign_123 : decode cX9_reign 123 = .ok (.iload 7, 2) := by decide +kernel
theorem dX9_reign_125 : decode cX9_reign 125 = .ok (.istore 4, 2) := by decide +kernel
theorem dX9_reign_127 : decode cX9_reign 127 = .ok (.iload 6, 2) := by decide +kernel
theorem dX9_reign_129 : decode cX9_reign 129 = .ok (.istore 5, 2) := by decide +kernel
theorem dX9_reign_131 : decode cX9_reign 131 = .ok (.iinc 6 1, 3) := by decide +kernel
theorem dX9_reign_134 : decode cX9_reign 134 = .ok (.goto (-79), 3) := by decide +kernel
theorem dX9_reign_137 : decode cX9_reign 137 = .ok (.iload 5, 2) := by decide +kernel
theorem dX9_reign_139 : decode cX9_reign 139 = .ok (.iconst (-1), 1) := by decide +kernel
theorem dX9_reign_140 : decode cX9_reign 140 = .ok (.if_icmp .ne 6, 3) := by decide +kernel
theorem dX9_reign_143 : decode cX9_reign 143 = .ok (.bipush (-2), 2) := by decide +kernel
theorem dX9_reign_145 : decode cX9_reign 145 = .ok (.ireturn, 1) := by decide +kernel
theorem dX9_reign_146 : decode cX9_reign 146 = .ok (.aload_n 0, 1) := by decide +kernel
theorem dX9_reign_147 : decode cX9_reign 147 = .ok (.getfield 19, 3) := by decide +kernel
theorem dX9_reign_150 : decode cX9_reign 150 = .ok (.iload 5, 2) := by decide +kernel
theorem dX9_reign_152 : decode cX9_reign 152 = .ok (.i2l, 1) := by decide +kernel
theorem dX9_reign_153 : decode cX9_reign 153 = .ok (.invokevirtual 282, 3) := by decide +kernel
theorem dX9_reign_156 : decode cX9_reign 156 = .ok (.iload 4, 2) := by decide +kernel
theorem dX9_reign_158 : decode cX9_reign 158 = .ok (.ireturn, 1) := by decide +kernel
theorem dX9_tryTaxes_0 : decode cX9_tryTaxes 0 = .ok (.aload_n 0, 1) := by decide +kernel
theorem dX9_tryTaxes_1 : decode cX9_tryTaxes 1 = .ok (.getfield 33, 3) := by decide +kernel
theorem dX9_tryTaxes_4 : decode cX9_tryTaxes 4 = .ok (.aload_n 0, 1) := by decide +kernel
theorem dX9_tryTaxes_5 : decode cX9_tryTaxes 5 = .ok (.getfield 26, 3) := by decide +kernel
theorem dX9_tryTaxes_8 : decode cX9_tryTaxes 8 = .ok (.invokevirtual 175, 3) := by decide +kernel
theorem dX9_tryTaxes_11 : decode cX9_tryTaxes 11 = .ok (.iconst 0, 1) := by decide +kernel
theorem dX9_tryTaxes_12 : decode cX9_tryTaxes 12 = .ok (.istore 4, 2) := by decide +kernel
theorem dX9_tryTaxes_14 : decode cX9_tryTaxes 14 = .ok (.iload 4, 2) := by decide +kernel
theorem dX9_tryTaxes_16 : decode cX9_tryTaxes 16 = .ok (.iload_n 1, 1) := by decide +kernel
theorem dX9_tryTaxes_17 : decode cX9_tryTaxes 17 = .ok (.if_icmp .ge 42, 3) := by decide +kernel
theorem dX9_tryTaxes_20 : decode cX9_tryTaxes 20 = .ok (.aload_n 0, 1) := by decide +kernel
theorem dX9_tryTaxes_21 : decode cX9_tryTaxes 21 = .ok (.getfield 33, 3) := by decide +kernel
theorem dX9_tryTaxes_24 : decode cX9_tryTaxes 24 = .ok (.aload_n 0, 1) := by decide +kernel
theorem dX9_tryTaxes_25 : decode cX9_tryTaxes 25 = .ok (.getfield 84, 3) := by decide +kernel
theorem dX9_tryTaxes_28 : decode cX9_tryTaxes 28 = .ok (.iconst 1, 1) := by decide +kernel
theorem dX9_tryTaxes_29 : decode cX9_tryTaxes 29 = .ok (.invokevirtual 179, 3) := by decide +kernel
theorem dX9_tryTaxes_32 : decode cX9_tryTaxes 32 = .ok (.pop, 1) := by decide +kernel
theorem dX9_tryTaxes_33 : decode cX9_tryTaxes 33 = .ok (.iload_n 3, 1) := by decide +kernel
theorem dX9_tryTaxes_34 : decode cX9_tryTaxes 34 = .ok (.iload 4, 2) := by decide +kernel
theorem dX9_tryTaxes_36 : decode cX9_tryTaxes 36 = .ok (.ishr, 1) := by decide +kernel
theorem dX9_tryTaxes_37 : decode cX9_tryTaxes 37 = .ok (.iconst 1, 1) := by decide +kernel
theorem dX9_tryTaxes_38 : decode cX9_tryTaxes 38 = .ok (.iand, 1) := by decide +kernel
theorem dX9_tryTaxes_39 : decode cX9_tryTaxes 39 = .ok (.iconst 1, 1) := by decide +kernel
theorem dX9_tryTaxes_40 : decode cX9_tryTaxes 40 = .ok (.if_icmp .ne 13, 3) := by decide +kernel
theorem dX9_tryTaxes_43 : decode cX9_tryTaxes 43 = .ok (.aload_n 0, 1) := by decide +kernel
theorem dX9_tryTaxes_44 : decode cX9_tryTaxes 44 = .ok (.getfield 33, 3) := by decide +kernel
theorem dX9_tryTaxes_47 : decode cX9_tryTaxes 47 = .ok (.iconst 0, 1) := by decide +kernel
theorem dX9_tryTaxes_48 : decode cX9_tryTaxes 48 = .ok (.iload_n 2, 1) := by decide +kernel
theorem dX9_tryTaxes_49 : decode cX9_tryTaxes 49 = .ok (.invokevirtual 202, 3) := by decide +kernel
theorem dX9_tryTaxes_52 : decode cX9_tryTaxes 52 = .ok (.pop, 1) := by decide +kernel
theorem dX9_tryTaxes_53 : decode cX9_tryTaxes 53 = .ok (.iinc 4 1, 3) := by decide +kernel
theorem dX9_tryTaxes_56 : decode cX9_tryTaxes 56 = .ok (.goto (-42), 3) := by decide +kernel
theorem dX9_tryTaxes_59 : decode cX9_tryTaxes 59 = .ok (.return_, 1) := by decide +kernel
theorem dX9_hasFewer_0 : decode cX9_hasFewer 0 = .ok (.iload_n 0, 1) := by decide +kernel
theorem dX9_hasFewer_1 : decode cX9_hasFewer 1 = .ok (.invokestatic 305, 3) := by decide +kernel
theorem dX9_hasFewer_4 : decode cX9_hasFewer 4 = .ok (.iload_n 1, 1) := by decide +kernel
theorem dX9_hasFewer_5 : decode cX9_hasFewer 5 = .ok (.invokestatic 305, 3) := by decide +kernel
theorem dX9_hasFewer_8 : decode cX9_hasFewer 8 = .ok (.if_icmp .ge 7, 3) := by decide +kernel
theorem dX9_hasFewer_11 : decode cX9_hasFewer 11 = .ok (.iconst 1, 1) := by decide +kernel
theorem dX9_hasFewer_12 : decode cX9_hasFewer 12 = .ok (.goto 4, 3) := by decide +kernel
theorem dX9_hasFewer_15 : decode cX9_hasFewer 15 = .ok (.iconst 0, 1) := by decide +kernel
theorem dX9_hasFewer_16 : decode cX9_hasFewer 16 = .ok (.ireturn, 1) := by decide +kernel
theorem dX9_melts_0 : decode cX9_melts 0 = .ok (.aload_n 0, 1) := by decide +kernel
theorem dX9_melts_1 : decode cX9_melts 1 = .ok (.getfield 26, 3) := by decide +kernel
theorem dX9_melts_4 : decode cX9_melts 4 = .ok (.iload_n 1, 1) := by decide +kernel
theorem dX9_melts_5 : decode cX9_melts 5 = .ok (.invokevirtual 137, 3) := by decide +kernel
theorem dX9_melts_8 : decode cX9_melts 8 = .ok (.ifCond .eq 24, 3) := by decide +kernel
theorem dX9_melts_11 : decode cX9_melts 11 = .ok (.iload_n 2, 1) := by decide +kernel
theorem dX9_melts_12 : decode cX9_melts 12 = .ok (.iconst 0, 1) := by decide +kernel
theorem dX9_melts_13 : decode cX9_melts 13 = .ok (.sipush 9999, 3) := by decide +kernel
theorem dX9_melts_16 : decode cX9_melts 16 = .ok (.invokestatic 140, 3) := by decide +kernel
theorem dX9_melts_19 : decode cX9_melts 19 = .ok (.ifCond .eq 13, 3) := by decide +kernel
theorem dX9_melts_22 : decode cX9_melts 22 = .ok (.iload_n 3, 1) := by decide +kernel
theorem dX9_melts_23 : decode cX9_melts 23 = .ok (.iconst 1, 1) := by decide +kernel
theorem dX9_melts_24 : decode cX9_melts 24 = .ok (.bipush 99, 2) := by decide +kernel
theorem dX9_melts_26 : decode cX9_melts 26 = .ok (.invokestatic 140, 3) := by decide +kernel
theorem dX9_melts_29 : decode cX9_melts 29 = .ok (.ifCond .ne 5, 3) := by decide +kernel
theorem dX9_melts_32 : decode cX9_melts 32 = .ok (.iconst (-1), 1) := by decide +kernel
theorem dX9_melts_33 : decode cX9_melts 33 = .ok (.ireturn, 1) := by decide +kernel
theorem dX9_melts_34 : decode cX9_melts 34 = .ok (.aload_n 0, 1) := by decide +kernel
theorem dX9_melts_35 : decode cX9_melts 35 = .ok (.iconst 0, 1) := by decide +kernel
theorem dX9_melts_36 : decode cX9_melts 36 = .ok (.invokevirtual 279, 3) := by decide +kernel
theorem dX9_melts_39 : decode cX9_melts 39 = .ok (.iconst 0, 1) := by decide +kernel
theorem dX9_melts_40 : decode cX9_melts 40 = .ok (.istore 4, 2) := by decide +kernel
theorem dX9_melts_42 : decode cX9_melts 42 = .ok (.iload 4, 2) := by decide +kernel
theorem dX9_melts_44 : decode cX9_melts 44 = .ok (.bipush 99, 2) := by decide +kernel
theorem dX9_melts_46 : decode cX9_melts 46 = .ok (.if_icmp .gt 56, 3) := by decide +kernel
theorem dX9_melts_49 : decode cX9_melts 49 = .ok (.iload_n 2, 1) := by decide +kernel
theorem dX9_melts_50 : decode cX9_melts 50 = .ok (.aload_n 0, 1) := by decide +kernel
theorem dX9_melts_51 : decode cX9_melts 51 = .ok (.aload_n 0, 1) := by decide +kernel
theorem dX9_melts_52 : decode cX9_melts 52 = .ok (.getfield 33, 3) := by decide +kernel
theorem dX9_melts_55 : decode cX9_melts 55 = .ok (.iload_n 1, 1) := by decide +kernel
theorem dX9_melts_56 : decode cX9_melts 56 = .ok (.invokevirtual 153, 3) := by decide +kernel
theorem dX9_melts_59 : decode cX9_melts 59 = .ok (.invokestatic 298, 3) := by decide +kernel
theorem dX9_melts_62 : decode cX9_melts 62 = .ok (.istore 5, 2) := by decide +kernel
theorem dX9_melts_64 : decode cX9_melts 64 = .ok (.iload 5, 2) := by decide +kernel
theorem dX9_melts_66 : decode cX9_melts 66 = .ok (.iload_n 3, 1) := by decide +kernel
theorem dX9_melts_67 : decode cX9_melts 67 = .ok (.if_icmp .ge 16, 3) := by decide +kernel
theorem dX9_melts_70 : decode cX9_melts 70 = .ok (.aload_n 0, 1) := by decide +kernel
theorem dX9_melts_71 : decode cX9_melts 71 = .ok (.getfield 19, 3) := by decide +kernel
theorem dX9_melts_74 : decode cX9_melts 74 = .ok (.iload 5, 2) := by decide +kernel
theorem dX9_melts_76 : decode cX9_melts 76 = .ok (.i2l, 1) := by decide +kernel
theorem dX9_melts_77 : decode cX9_melts 77 = .ok (.invokevirtual 282, 3) := by decide +kernel
theorem dX9_melts_80 : decode cX9_melts 80 = .ok (.iload 4, 2) := by decide +kernel
theorem dX9_melts_82 : decode cX9_melts 82 = .ok (.ireturn, 1) := by decide +kernel
theorem dX9_melts_83 : decode cX9_melts 83 = .ok (.aload_n 0, 1) := by decide +kernel
theorem dX9_melts_84 : decode cX9_melts 84 = .ok (.getfield 33, 3) := by decide +kernel
theorem dX9_melts_87 : decode cX9_melts 87 = .ok (.aload_n 0, 1) := by decide +kernel
theorem dX9_melts_88 : decode cX9_melts 88 = .ok (.getfield 84, 3) := by decide +kernel
theorem dX9_melts_91 : decode cX9_melts 91 = .ok (.iconst 1, 1) := by decide +kernel
theorem dX9_melts_92 : decode cX9_melts 92 = .ok (.invokevirtual 179, 3) := by decide +kernel
theorem dX9_melts_95 : decode cX9_melts 95 = .ok (.pop, 1) := by decide +kernel
theorem dX9_melts_96 : decode cX9_melts 96 = .ok (.iinc 4 1, 3) := by decide +kernel
theorem dX9_melts_99 : decode cX9_melts 99 = .ok (.goto (-57), 3) := by decide +kernel
theorem dX9_melts_102 : decode cX9_melts 102 = .ok (.bipush (-2), 2) := by decide +kernel
theorem dX9_melts_104 : decode cX9_melts 104 = .ok (.ireturn, 1) := by decide +kernel
theorem dX9_when_0 : decode cX9_when 0 = .ok (.aload_n 0, 1) := by decide +kernel
theorem dX9_when_1 : decode cX9_when 1 = .ok (.getfield 26, 3) := by decide +kernel
theorem dX9_when_4 : decode cX9_when 4 = .ok (.iload_n 1, 1) := by decide +kernel
theorem dX9_when_5 : decode cX9_when 5 = .ok (.invokevirtual 137, 3) := by decide +kernel
theorem dX9_when_8 : decode cX9_when 8 = .ok (.ifCond .eq 13, 3) := by decide +kernel
theorem dX9_when_11 : decode cX9_when 11 = .ok (.iload_n 2, 1) := by decide +kernel
theorem dX9_when_12 : decode cX9_when 12 = .ok (.iconst 0, 1) := by decide +kernel
theorem dX9_when_13 : decode cX9_when 13 = .ok (.bipush 60, 2) := by decide +kernel
theorem dX9_when_15 : decode cX9_when 15 = .ok (.invokestatic 140, 3) := by decide +kernel
theorem dX9_when_18 : decode cX9_when 18 = .ok (.ifCond .ne 5, 3) := by decide +kernel
theorem dX9_when_21 : decode cX9_when 21 = .ok (.iconst (-1), 1) := by decide +kernel
theorem dX9_when_22 : decode cX9_when 22 = .ok (.ireturn, 1) := by decide +kernel
theorem dX9_when_23 : decode cX9_when 23 = .ok (.iconst 2, 1) := by decide +kernel
theorem dX9_when_24 : decode cX9_when 24 = .ok (.aload_n 0, 1) := by decide +kernel
theorem dX9_when_25 : decode cX9_when 25 = .ok (.getfield 26, 3) := by decide +kernel
theorem dX9_when_28 : decode cX9_when 28 = .ok (.getfield 150, 3) := by decide +kernel
theorem dX9_when_31 : decode cX9_when 31 = .ok (.iconst 0, 1) := by decide +kernel
theorem dX9_when_32 : decode cX9_when 32 = .ok (.aaload, 1) := by decide +kernel
theorem dX9_when_33 : decode cX9_when 33 = .ok (.iload_n 1, 1) := by decide +kernel
theorem dX9_when_34 : decode cX9_when 34 = .ok (.iaload, 1) := by decide +kernel
theorem dX9_when_35 : decode cX9_when 35 = .ok (.imul, 1) := by decide +kernel
theorem dX9_when_36 : decode cX9_when 36 = .ok (.aload_n 0, 1) := by decide +kernel
theorem dX9_when_37 : decode cX9_when 37 = .ok (.getfield 26, 3) := by decide +kernel
theorem dX9_when_40 : decode cX9_when 40 = .ok (.getfield 150, 3) := by decide +kernel
theorem dX9_when_43 : decode cX9_when 43 = .ok (.iconst 1, 1) := by decide +kernel
theorem dX9_when_44 : decode cX9_when 44 = .ok (.aaload, 1) := by decide +kernel
theorem dX9_when_45 : decode cX9_when 45 = .ok (.iload_n 1, 1) := by decide +kernel
theorem dX9_when_46 : decode cX9_when 46 = .ok (.iaload, 1) := by decide +kernel
theorem dX9_when_47 : decode cX9_when 47 = .ok (.iadd, 1) := by decide +kernel
theorem dX9_when_48 : decode cX9_when 48 = .ok (.istore_n 3, 1) := by decide +kernel
theorem dX9_when_49 : decode cX9_when 49 = .ok (.iconst (-1), 1) := by decide +kernel
theorem dX9_when_50 : decode cX9_when 50 = .ok (.istore 4, 2) := by decide +kernel
theorem dX9_when_52 : decode cX9_when 52 = .ok (.iconst 0, 1) := by decide +kernel
theorem dX9_when_53 : decode cX9_when 53 = .ok (.istore 5, 2) := by decide +kernel
theorem dX9_when_55 : decode cX9_when 55 = .ok (.aload_n 0, 1) := by decide +kernel
theorem dX9_when_56 : decode cX9_when 56 = .ok (.iconst 0, 1) := by decide +kernel
theorem dX9_when_57 : decode cX9_when 57 = .ok (.invokevirtual 279, 3) := by decide +kernel
theorem dX9_when_60 : decode cX9_when 60 = .ok (.iconst 0, 1) := by decide +kernel
theorem dX9_when_61 : decode cX9_when 61 = .ok (.istore 6, 2) := by decide +kernel
theorem dX9_when_63 : decode cX9_when 63 = .ok (.iload 6, 2) := by decide +kernel
theorem dX9_when_65 : decode cX9_when 65 = .ok (.iload_n 2, 1) := by decide +kernel
theorem dX9_when_66 : decode cX9_when 66 = .ok (.if_icmp .gt 52, 3) := by decide +kernel
theorem dX9_when_69 : decode cX9_when 69 = .ok (.iload_n 3, 1) := by decide +kernel
theorem dX9_when_70 : decode cX9_when 70 = .ok (.aload_n 0, 1) := by decide +kernel
theorem dX9_when_71 : decode cX9_when 71 = .ok (.aload_n 0, 1) := by decide +kernel
theorem dX9_when_72 : decode cX9_when 72 = .ok (.getfield 33, 3) := by decide +kernel
theorem dX9_when_75 : decode cX9_when 75 = .ok (.iload_n 1, 1) := by decide +kernel
theorem dX9_when_76 : decode cX9_when 76 = .ok (.invokevirtual 153, 3) := by decide +kernel
theorem dX9_when_79 : decode cX9_when 79 = .ok (.invokestatic 298, 3) := by decide +kernel
theorem dX9_when_82 : decode cX9_when 82 = .ok (.istore 7, 2) := by decide +kernel
theorem dX9_when_84 : decode cX9_when 84 = .ok (.iload 7, 2) := by decide +kernel
theorem dX9_when_86 : decode cX9_when 86 = .ok (.iload 4, 2) := by decide +kernel
theorem dX9_when_88 : decode cX9_when 88 = .ok (.if_icmp .le 11, 3) := by decide +kernel
theorem dX9_when_91 : decode cX9_when 91 = .ok (.iload 7, 2) := by decide +kernel
theorem dX9_when_93 : decode cX9_when 93 = .ok (.istore 4, 2) := by decide +kernel
theorem dX9_when_95 : decode cX9_when 95 = .ok (.iload 6, 2) := by decide +kernel
theorem dX9_when_97 : decode cX9_when 97 = .ok (.istore 5, 2) := by decide +kernel
theorem dX9_when_99 : decode cX9_when 99 = .ok (.aload_n 0, 1) := by decide +kernel
theorem dX9_when_100 : decode cX9_when 100 = .ok (.getfield 33, 3) := by decide +kernel
theorem dX9_when_103 : decode cX9_when 103 = .ok (.aload_n 0, 1) := by decide +kernel
theorem dX9_when_104 : decode cX9_when 104 = .ok (.getfield 84, 3) := by decide +kernel
theorem dX9_when_107 : decode cX9_when 107 = .ok (.iconst 1, 1) := by decide +kernel
theorem dX9_when_108 : decode cX9_when 108 = .ok (.invokevirtual 179, 3) := by decide +kernel
theorem dX9_when_111 : decode cX9_when 111 = .ok (.pop, 1) := by decide +kernel
theorem dX9_when_112 : decode cX9_when 112 = .ok (.iinc 6 1, 3) := by decide +kernel
theorem dX9_when_115 : decode cX9_when 115 = .ok (.goto (-52), 3) := by decide +kernel
theorem dX9_when_118 : decode cX9_when 118 = .ok (.aload_n 0, 1) := by decide +kernel
theorem dX9_when_119 : decode cX9_when 119 = .ok (.getfield 19, 3) := by decide +kernel
theorem dX9_when_122 : decode cX9_when 122 = .ok (.iload 4, 2) := by decide +kernel
theorem dX9_when_124 : decode cX9_when 124 = .ok (.i2l, 1) := by decide +kernel
theorem dX9_when_125 : decode cX9_when 125 = .ok (.invokevirtual 282, 3) := by decide +kernel
theorem dX9_when_128 : decode cX9_when 128 = .ok (.iload 5, 2) := by decide +kernel
theorem dX9_when_130 : decode cX9_when 130 = .ok (.ireturn, 1) := by decide +kernel
theorem dX9_rises_0 : decode cX9_rises 0 = .ok (.iload_n 1, 1) := by decide +kernel
theorem dX9_rises_1 : decode cX9_rises 1 = .ok (.iconst 1, 1) := by decide +kernel
theorem dX9_rises_2 : decode cX9_rises 2 = .ok (.bipush 60, 2) := by decide +kernel
theorem dX9_rises_4 : decode cX9_rises 4 = .ok (.invokestatic 140, 3) := by decide +kernel
theorem dX9_rises_7 : decode cX9_rises 7 = .ok (.ifCond .ne 5, 3) := by decide +kernel
theorem dX9_rises_10 : decode cX9_rises 10 = .ok (.iconst (-1), 1) := by decide +kernel
theorem dX9_rises_11 : decode cX9_rises 11 = .ok (.ireturn, 1) := by decide +kernel
theorem dX9_rises_12 : decode cX9_rises 12 = .ok (.aload_n 0, 1) := by decide +kernel
theorem dX9_rises_13 : decode cX9_rises 13 = .ok (.iload_n 1, 1) := by decide +kernel
theorem dX9_rises_14 : decode cX9_rises 14 = .ok (.invokevirtual 279, 3) := by decide +kernel
theorem dX9_rises_17 : decode cX9_rises 17 = .ok (.iconst 0, 1) := by decide +kernel
theorem dX9_rises_18 : decode cX9_rises 18 = .ok (.istore_n 2, 1) := by decide +kernel
theorem dX9_rises_19 : decode cX9_rises 19 = .ok (.iconst 0, 1) := by decide +kernel
theorem dX9_rises_20 : decode cX9_rises 20 = .ok (.istore_n 3, 1) := by decide +kernel
theorem dX9_rises_21 : decode cX9_rises 21 = .ok (.iconst 0, 1) := by decide +kernel
theorem dX9_rises_22 : decode cX9_rises 22 = .ok (.istore 4, 2) := by decide +kernel
theorem dX9_rises_24 : decode cX9_rises 24 = .ok (.iload 4, 2) := by decide +kernel
theorem dX9_rises_26 : decode cX9_rises 26 = .ok (.aload_n 0, 1) := by decide +kernel
theorem dX9_rises_27 : decode cX9_rises 27 = .ok (.getfield 26, 3) := by decide +kernel
theorem dX9_rises_30 : decode cX9_rises 30 = .ok (.getfield 47, 3) := by decide +kernel
theorem dX9_rises_33 : decode cX9_rises 33 = .ok (.if_icmp .ge 41, 3) := by decide +kernel
theorem dX9_rises_36 : decode cX9_rises 36 = .ok (.aload_n 0, 1) := by decide +kernel
theorem dX9_rises_37 : decode cX9_rises 37 = .ok (.iload 4, 2) := by decide +kernel
theorem dX9_rises_39 : decode cX9_rises 39 = .ok (.invokevirtual 321, 3) := by decide +kernel
theorem dX9_rises_42 : decode cX9_rises 42 = .ok (.istore 5, 2) := by decide +kernel
theorem dX9_rises_44 : decode cX9_rises 44 = .ok (.iload 5, 2) := by decide +kernel
theorem dX9_rises_46 : decode cX9_rises 46 = .ok (.ifCond .le 10, 3) := by decide +kernel
theorem dX9_rises_49 : decode cX9_rises 49 = .ok (.iload_n 2, 1) := by decide +kernel
theorem dX9_rises_50 : decode cX9_rises 50 = .ok (.iconst 1, 1) := by decide +kernel
theorem dX9_rises_51 : decode cX9_rises 51 = .ok (.iload 4, 2) := by decide +kernel
theorem dX9_rises_53 : decode cX9_rises 53 = .ok (.ishl, 1) := by decide +kernel
theorem dX9_rises_54 : decode cX9_rises 54 = .ok (.ior, 1) := by decide +kernel
theorem dX9_rises_55 : decode cX9_rises 55 = .ok (.istore_n 2, 1) := by decide +kernel
theorem dX9_rises_56 : decode cX9_rises 56 = .ok (.iload 5, 2) := by decide +kernel
theorem dX9_rises_58 : decode cX9_rises 58 = .ok (.ifCond .ge 10, 3) := by decide +kernel
theorem dX9_rises_61 : decode cX9_rises 61 = .ok (.iload_n 3, 1) := by decide +kernel
theorem dX9_rises_62 : decode cX9_rises 62 = .ok (.iconst 1, 1) := by decide +kernel
theorem dX9_rises_63 : decode cX9_rises 63 = .ok (.iload 4, 2) := by decide +kernel
theorem dX9_rises_65 : decode cX9_rises 65 = .ok (.ishl, 1) := by decide +kernel
theorem dX9_rises_66 : decode cX9_rises 66 = .ok (.ior, 1) := by decide +kernel
theorem dX9_rises_67 : decode cX9_rises 67 = .ok (.istore_n 3, 1) := by decide +kernel
theorem dX9_rises_68 : decode cX9_rises 68 = .ok (.iinc 4 1, 3) := by decide +kernel
theorem dX9_rises_71 : decode cX9_rises 71 = .ok (.goto (-47), 3) := by decide +kernel
theorem dX9_rises_74 : decode cX9_rises 74 = .ok (.aload_n 0, 1) := by decide +kernel
theorem dX9_rises_75 : decode cX9_rises 75 = .ok (.getfield 19, 3) := by decide +kernel
theorem dX9_rises_78 : decode cX9_rises 78 = .ok (.iload_n 3, 1) := by decide +kernel
theorem dX9_rises_79 : decode cX9_rises 79 = .ok (.i2l, 1) := by decide +kernel
theorem dX9_rises_80 : decode cX9_rises 80 = .ok (.invokevirtual 282, 3) := by decide +kernel
theorem dX9_rises_83 : decode cX9_rises 83 = .ok (.iload_n 2, 1) := by decide +kernel
theorem dX9_rises_84 : decode cX9_rises 84 = .ok (.ireturn, 1) := by decide +kernel
theorem dX9_caravan_0 : decode cX9_caravan 0 = .ok (.iload_n 1, 1) := by decide +kernel
theorem dX9_caravan_1 : decode cX9_caravan 1 = .ok (.iconst 1, 1) := by decide +kernel
theorem dX9_caravan_2 : decode cX9_caravan 2 = .ok (.sipush 9999, 3) := by decide +kernel
theorem dX9_caravan_5 : decode cX9_caravan 5 = .ok (.invokestatic 140, 3) := by decide +kernel
theorem dX9_caravan_8 : decode cX9_caravan 8 = .ok (.ifCond .ne 5, 3) := by decide +kernel
theorem dX9_caravan_11 : decode cX9_caravan 11 = .ok (.iconst (-1), 1) := by decide +kernel
theorem dX9_caravan_12 : decode cX9_caravan 12 = .ok (.ireturn, 1) := by decide +kernel
theorem dX9_caravan_13 : decode cX9_caravan 13 = .ok (.aload_n 0, 1) := by decide +kernel
theorem dX9_caravan_14 : decode cX9_caravan 14 = .ok (.getfield 26, 3) := by decide +kernel
theorem dX9_caravan_17 : decode cX9_caravan 17 = .ok (.getfield 47, 3) := by decide +kernel
theorem dX9_caravan_20 : decode cX9_caravan 20 = .ok (.ifCond .ne 6, 3) := by decide +kernel
theorem dX9_caravan_23 : decode cX9_caravan 23 = .ok (.bipush (-2), 2) := by decide +kernel
theorem dX9_caravan_25 : decode cX9_caravan 25 = .ok (.ireturn, 1) := by decide +kernel
theorem dX9_caravan_26 : decode cX9_caravan 26 = .ok (.aload_n 0, 1) := by decide +kernel
theorem dX9_caravan_27 : decode cX9_caravan 27 = .ok (.invokevirtual 286, 3) := by decide +kernel
theorem dX9_caravan_30 : decode cX9_caravan 30 = .ok (.ldc2_w 329, 3) := by decide +kernel
theorem dX9_caravan_33 : decode cX9_caravan 33 = .ok (.lstore_n 2, 1) := by decide +kernel
theorem dX9_caravan_34 : decode cX9_caravan 34 = .ok (.iconst 0, 1) := by decide +kernel
theorem dX9_caravan_35 : decode cX9_caravan 35 = .ok (.istore 4, 2) := by decide +kernel
theorem dX9_caravan_37 : decode cX9_caravan 37 = .ok (.iconst 0, 1) := by decide +kernel
theorem dX9_caravan_38 : decode cX9_caravan 38 = .ok (.istore 5, 2) := by decide +kernel
theorem dX9_caravan_40 : decode cX9_caravan 40 = .ok (.iload 5, 2) := by decide +kernel
theorem dX9_caravan_42 : decode cX9_caravan 42 = .ok (.getstatic 331, 3) := by decide +kernel
theorem dX9_caravan_45 : decode cX9_caravan 45 = .ok (.aload_n 0, 1) := by decide +kernel
theorem dX9_caravan_46 : decode cX9_caravan 46 = .ok (.getfield 26, 3) := by decide +kernel
theorem dX9_caravan_49 : decode cX9_caravan 49 = .ok (.getfield 47, 3) := by decide +kernel
theorem dX9_caravan_52 : decode cX9_caravan 52 = .ok (.iaload, 1) := by decide +kernel
theorem dX9_caravan_53 : decode cX9_caravan 53 = .ok (.if_icmp .ge 32, 3) := by decide +kernel
theorem dX9_caravan_56 : decode cX9_caravan 56 = .ok (.aload_n 0, 1) := by decide +kernel
theorem dX9_caravan_57 : decode cX9_caravan 57 = .ok (.iload 5, 2) := by decide +kernel
theorem dX9_caravan_59 : decode cX9_caravan 59 = .ok (.iload_n 1, 1) := by decide +kernel
theorem dX9_caravan_60 : decode cX9_caravan 60 = .ok (.invokevirtual 334, 3) := by decide +kernel
theorem dX9_caravan_63 : decode cX9_caravan 63 = .ok (.lstore 6, 2) := by decide +kernel
theorem dX9_caravan_65 : decode cX9_caravan 65 = .ok (.lload 6, 2) := by decide +kernel
theorem dX9_caravan_67 : decode cX9_caravan 67 = .ok (.lload_n 2, 1) := by decide +kernel
theorem dX9_caravan_68 : decode cX9_caravan 68 = .ok (.lcmp, 1) := by decide +kernel
theorem dX9_caravan_69 : decode cX9_caravan 69 = .ok (.ifCond .le 10, 3) := by decide +kernel
theorem dX9_caravan_72 : decode cX9_caravan 72 = .ok (.lload 6, 2) := by decide +kernel
theorem dX9_caravan_74 : decode cX9_caravan 74 = .ok (.lstore_n 2, 1) := by decide +kernel
theorem dX9_caravan_75 : decode cX9_caravan 75 = .ok (.iload 5, 2) := by decide +kernel
theorem dX9_caravan_77 : decode cX9_caravan 77 = .ok (.istore 4, 2) := by decide +kernel
theorem dX9_caravan_79 : decode cX9_caravan 79 = .ok (.iinc 5 1, 3) := by decide +kernel
theorem dX9_caravan_82 : decode cX9_caravan 82 = .ok (.goto (-42), 3) := by decide +kernel
theorem dX9_caravan_85 : decode cX9_caravan 85 = .ok (.aload_n 0, 1) := by decide +kernel
theorem dX9_caravan_86 : decode cX9_caravan 86 = .ok (.getfield 19, 3) := by decide +kernel
theorem dX9_caravan_89 : decode cX9_caravan 89 = .ok (.invokevirtual 285, 3) := by decide +kernel
theorem dX9_caravan_92 : decode cX9_caravan 92 = .ok (.iconst 0, 1) := by decide +kernel
theorem dX9_caravan_93 : decode cX9_caravan 93 = .ok (.istore 5, 2) := by decide +kernel
theorem dX9_caravan_95 : decode cX9_caravan 95 = .ok (.iload 5, 2) := by decide +kernel
theorem dX9_caravan_97 : decode cX9_caravan 97 = .ok (.aload_n 0, 1) := by decide +kernel
theorem dX9_caravan_98 : decode cX9_caravan 98 = .ok (.getfield 26, 3) := by decide +kernel
theorem dX9_caravan_101 : decode cX9_caravan 101 = .ok (.getfield 47, 3) := by decide +kernel
theorem dX9_caravan_104 : decode cX9_caravan 104 = .ok (.if_icmp .ge 25, 3) := by decide +kernel
theorem dX9_caravan_107 : decode cX9_caravan 107 = .ok (.aload_n 0, 1) := by decide +kernel
theorem dX9_caravan_108 : decode cX9_caravan 108 = .ok (.getfield 19, 3) := by decide +kernel
theorem dX9_caravan_111 : decode cX9_caravan 111 = .ok (.aload_n 0, 1) := by decide +kernel
theorem dX9_caravan_112 : decode cX9_caravan 112 = .ok (.iload 4, 2) := by decide +kernel
theorem dX9_caravan_114 : decode cX9_caravan 114 = .ok (.iload 5, 2) := by decide +kernel
theorem dX9_caravan_116 : decode cX9_caravan 116 = .ok (.invokevirtual 338, 3) := by decide +kernel
theorem dX9_caravan_119 : decode cX9_caravan 119 = .ok (.i2l, 1) := by decide +kernel
theorem dX9_caravan_120 : decode cX9_caravan 120 = .ok (.invokevirtual 341, 3) := by decide +kernel
theorem dX9_caravan_123 : decode cX9_caravan 123 = .ok (.iinc 5 1, 3) := by decide +kernel
theorem dX9_caravan_126 : decode cX9_caravan 126 = .ok (.goto (-31), 3) := by decide +kernel
theorem dX9_caravan_129 : decode cX9_caravan 129 = .ok (.lload_n 2, 1) := by decide +kernel
theorem dX9_caravan_130 : decode cX9_caravan 130 = .ok (.l2i, 1) := by decide +kernel
theorem dX9_caravan_131 : decode cX9_caravan 131 = .ok (.ireturn, 1) := by decide +kernel
theorem dX9_deedOf_0 : decode cX9_deedOf 0 = .ok (.iload_n 1, 1) := by decide +kernel
theorem dX9_deedOf_1 : decode cX9_deedOf 1 = .ok (.getstatic 331, 3) := by decide +kernel
theorem dX9_deedOf_4 : decode cX9_deedOf 4 = .ok (.aload_n 0, 1) := by decide +kernel
theorem dX9_deedOf_5 : decode cX9_deedOf 5 = .ok (.getfield 26, 3) := by decide +kernel
theorem dX9_deedOf_8 : decode cX9_deedOf 8 = .ok (.getfield 47, 3) := by decide +kernel
theorem dX9_deedOf_11 : decode cX9_deedOf 11 = .ok (.iconst 1, 1) := by decide +kernel
theorem dX9_deedOf_12 : decode cX9_deedOf 12 = .ok (.isub, 1) := by decide +kernel
theorem dX9_deedOf_13 : decode cX9_deedOf 13 = .ok (.iload_n 2, 1) := by decide +kernel
theorem dX9_deedOf_14 : decode cX9_deedOf 14 = .ok (.isub, 1) := by decide +kernel
theorem dX9_deedOf_15 : decode cX9_deedOf 15 = .ok (.iaload, 1) := by decide +kernel
theorem dX9_deedOf_16 : decode cX9_deedOf 16 = .ok (.idiv, 1) := by decide +kernel
theorem dX9_deedOf_17 : decode cX9_deedOf 17 = .ok (.iconst 3, 1) := by decide +kernel
theorem dX9_deedOf_18 : decode cX9_deedOf 18 = .ok (.irem, 1) := by decide +kernel
theorem dX9_deedOf_19 : decode cX9_deedOf 19 = .ok (.ireturn, 1) := by decide +kernel
theorem dX9_shellsByPlan_0 : decode cX9_shellsByPlan 0 = .ok (.iload_n 2, 1) := by decide +kernel
theorem dX9_shellsByPlan_1 : decode cX9_shellsByPlan 1 = .ok (.i2l, 1) := by decide +kernel
theorem dX9_shellsByPlan_2 : decode cX9_shellsByPlan 2 = .ok (.lstore_n 3, 1) := by decide +kernel
theorem dX9_shellsByPlan_3 : decode cX9_shellsByPlan 3 = .ok (.lconst 0, 1) := by decide +kernel
theorem dX9_shellsByPlan_4 : decode cX9_shellsByPlan 4 = .ok (.lstore 5, 2) := by decide +kernel
theorem dX9_shellsByPlan_6 : decode cX9_shellsByPlan 6 = .ok (.iconst 0, 1) := by decide +kernel
theorem dX9_shellsByPlan_7 : decode cX9_shellsByPlan 7 = .ok (.istore 7, 2) := by decide +kernel
theorem dX9_shellsByPlan_9 : decode cX9_shellsByPlan 9 = .ok (.iload 7, 2) := by decide +kernel
theorem dX9_shellsByPlan_11 : decode cX9_shellsByPlan 11 = .ok (.aload_n 0, 1) := by decide +kernel
theorem dX9_shellsByPlan_12 : decode cX9_shellsByPlan 12 = .ok (.getfield 26, 3) := by decide +kernel
theorem dX9_shellsByPlan_15 : decode cX9_shellsByPlan 15 = .ok (.getfield 47, 3) := by decide +kernel
theorem dX9_shellsByPlan_18 : decode cX9_shellsByPlan 18 = .ok (.if_icmp .ge 81, 3) := by decide +kernel
theorem dX9_shellsByPlan_21 : decode cX9_shellsByPlan 21 = .ok (.aload_n 0, 1) := by decide +kernel
theorem dX9_shellsByPlan_22 : decode cX9_shellsByPlan 22 = .ok (.iload_n 1, 1) := by decide +kernel
theorem dX9_shellsByPlan_23 : decode cX9_shellsByPlan 23 = .ok (.iload 7, 2) := by decide +kernel
theorem dX9_shellsByPlan_25 : decode cX9_shellsByPlan 25 = .ok (.invokevirtual 338, 3) := by decide +kernel
theorem dX9_shellsByPlan_28 : decode cX9_shellsByPlan 28 = .ok (.istore 8, 2) := by decide +kernel
theorem dX9_shellsByPlan_30 : decode cX9_shellsByPlan 30 = .ok (.aload_n 0, 1) := by decide +kernel
theorem dX9_shellsByPlan_31 : decode cX9_shellsByPlan 31 = .ok (.getfield 57, 3) := by decide +kernel
theorem dX9_shellsByPlan_34 : decode cX9_shellsByPlan 34 = .ok (.iload 7, 2) := by decide +kernel
theorem dX9_shellsByPlan_36 : decode cX9_shellsByPlan 36 = .ok (.aaload, 1) := by decide +kernel
theorem dX9_shellsByPlan_37 : decode cX9_shellsByPlan 37 = .ok (.iload 7, 2) := by decide +kernel
theorem dX9_shellsByPlan_39 : decode cX9_shellsByPlan 39 = .ok (.iaload, 1) := by decide +kernel
theorem dX9_shellsByPlan_40 : decode cX9_shellsByPlan 40 = .ok (.istore 9, 2) := by decide +kernel
theorem dX9_shellsByPlan_42 : decode cX9_shellsByPlan 42 = .ok (.iload 8, 2) := by decide +kernel
theorem dX9_shellsByPlan_44 : decode cX9_shellsByPlan 44 = .ok (.iconst 1, 1) := by decide +kernel
theorem dX9_shellsByPlan_45 : decode cX9_shellsByPlan 45 = .ok (.if_icmp .ne 21, 3) := by decide +kernel
theorem dX9_shellsByPlan_48 : decode cX9_shellsByPlan 48 = .ok (.ldc2_w 343, 3) := by decide +kernel
theorem dX9_shellsByPlan_51 : decode cX9_shellsByPlan 51 = .ok (.lload_n 3, 1) := by decide +kernel
theorem dX9_shellsByPlan_52 : decode cX9_shellsByPlan 52 = .ok (.lload 5, 2) := by decide +kernel
theorem dX9_shellsByPlan_54 : decode cX9_shellsByPlan 54 = .ok (.iload 9, 2) := by decide +kernel
theorem dX9_shellsByPlan_56 : decode cX9_shellsByPlan 56 = .ok (.i2l, 1) := by decide +kernel
theorem dX9_shellsByPlan_57 : decode cX9_shellsByPlan 57 = .ok (.lmul, 1) := by decide +kernel
theorem dX9_shellsByPlan_58 : decode cX9_shellsByPlan 58 = .ok (.ladd, 1) := by decide +kernel
theorem dX9_shellsByPlan_59 : decode cX9_shellsByPlan 59 = .ok (.invokestatic 345, 3) := by decide +kernel
theorem dX9_shellsByPlan_62 : decode cX9_shellsByPlan 62 = .ok (.lstore_n 3, 1) := by decide +kernel
theorem dX9_shellsByPlan_63 : decode cX9_shellsByPlan 63 = .ok (.lconst 0, 1) := by decide +kernel
theorem dX9_shellsByPlan_64 : decode cX9_shellsByPlan 64 = .ok (.lstore 5, 2) := by decide +kernel
theorem dX9_shellsByPlan_66 : decode cX9_shellsByPlan 66 = .ok (.iload 8, 2) := by decide +kernel
theorem dX9_shellsByPlan_68 : decode cX9_shellsByPlan 68 = .ok (.iconst 2, 1) := by decide +kernel
theorem dX9_shellsByPlan_69 : decode cX9_shellsByPlan 69 = .ok (.if_icmp .ne 24, 3) := by decide +kernel
theorem dX9_shellsByPlan_72 : decode cX9_shellsByPlan 72 = .ok (.iload 9, 2) := by decide +kernel
theorem dX9_shellsByPlan_74 : decode cX9_shellsByPlan 74 = .ok (.ifCond .le 19, 3) := by decide +kernel
theorem dX9_shellsByPlan_77 : decode cX9_shellsByPlan 77 = .ok (.lload 5, 2) := by decide +kernel
theorem dX9_shellsByPlan_79 : decode cX9_shellsByPlan 79 = .ok (.lload_n 3, 1) := by decide +kernel
theorem dX9_shellsByPlan_80 : decode cX9_shellsByPlan 80 = .ok (.iload 9, 2) := by decide +kernel
theorem dX9_shellsByPlan_82 : decode cX9_shellsByPlan 82 = .ok (.i2l, 1) := by decide +kernel
theorem dX9_shellsByPlan_83 : decode cX9_shellsByPlan 83 = .ok (.ldiv, 1) := by decide +kernel
theorem dX9_shellsByPlan_84 : decode cX9_shellsByPlan 84 = .ok (.ladd, 1) := by decide +kernel
theorem dX9_shellsByPlan_85 : decode cX9_shellsByPlan 85 = .ok (.lstore 5, 2) := by decide +kernel
theorem dX9_shellsByPlan_87 : decode cX9_shellsByPlan 87 = .ok (.lload_n 3, 1) := by decide +kernel
theorem dX9_shellsByPlan_88 : decode cX9_shellsByPlan 88 = .ok (.iload 9, 2) := by decide +kernel
theorem dX9_shellsByPlan_90 : decode cX9_shellsByPlan 90 = .ok (.i2l, 1) := by decide +kernel
theorem dX9_shellsByPlan_91 : decode cX9_shellsByPlan 91 = .ok (.lrem, 1) := by decide +kernel
theorem dX9_shellsByPlan_92 : decode cX9_shellsByPlan 92 = .ok (.lstore_n 3, 1) := by decide +kernel
theorem dX9_shellsByPlan_93 : decode cX9_shellsByPlan 93 = .ok (.iinc 7 1, 3) := by decide +kernel
theorem dX9_shellsByPlan_96 : decode cX9_shellsByPlan 96 = .ok (.goto (-87), 3) := by decide +kernel
theorem dX9_shellsByPlan_99 : decode cX9_shellsByPlan 99 = .ok (.lload_n 3, 1) := by decide +kernel
theorem dX9_shellsByPlan_100 : decode cX9_shellsByPlan 100 = .ok (.lreturn, 1) := by decide +kernel
theorem dX9_priceOf_0 : decode cX9_priceOf 0 = .ok (.aload_n 0, 1) := by decide +kernel
theorem dX9_priceOf_1 : decode cX9_priceOf 1 = .ok (.aload_n 0, 1) := by decide +kernel
theorem dX9_priceOf_2 : decode cX9_priceOf 2 = .ok (.getfield 94, 3) := by decide +kernel
theorem dX9_priceOf_5 : decode cX9_priceOf 5 = .ok (.aload_n 1, 1) := by decide +kernel
theorem dX9_priceOf_6 : decode cX9_priceOf 6 = .ok (.iload_n 2, 1) := by decide +kernel
theorem dX9_priceOf_7 : decode cX9_priceOf 7 = .ok (.invokevirtual 348, 3) := by decide +kernel
theorem dX9_priceOf_10 : decode cX9_priceOf 10 = .ok (.ireturn, 1) := by decide +kernel
theorem dX9_priceBy_0 : decode cX9_priceBy 0 = .ok (.aload_n 2, 1) := by decide +kernel
theorem dX9_priceBy_1 : decode cX9_priceBy 1 = .ok (.iload_n 3, 1) := by decide +kernel
theorem dX9_priceBy_2 : decode cX9_priceBy 2 = .ok (.invokevirtual 137, 3) := by decide +kernel
theorem dX9_priceBy_5 : decode cX9_priceBy 5 = .ok (.ifCond .ne 5, 3) := by decide +kernel
theorem dX9_priceBy_8 : decode cX9_priceBy 8 = .ok (.iconst 0, 1) := by decide +kernel
theorem dX9_priceBy_9 : decode cX9_priceBy 9 = .ok (.ireturn, 1) := by decide +kernel
theorem dX9_priceBy_10 : decode cX9_priceBy 10 = .ok (.aload_n 2, 1) := by decide +kernel
theorem dX9_priceBy_11 : decode cX9_priceBy 11 = .ok (.getfield 150, 3) := by decide +kernel
theorem dX9_priceBy_14 : decode cX9_priceBy 14 = .ok (.iconst 0, 1) := by decide +kernel
theorem dX9_priceBy_15 : decode cX9_priceBy 15 = .ok (.aaload, 1) := by decide +kernel
theorem dX9_priceBy_16 : decode cX9_priceBy 16 = .ok (.iload_n 3, 1) := by decide +kernel
theorem dX9_priceBy_17 : decode cX9_priceBy 17 = .ok (.iaload, 1) := by decide +kernel
theorem dX9_priceBy_18 : decode cX9_priceBy 18 = .ok (.aload_n 2, 1) := by decide +kernel
theorem dX9_priceBy_19 : decode cX9_priceBy 19 = .ok (.getfield 150, 3) := by decide +kernel
theorem dX9_priceBy_22 : decode cX9_priceBy 22 = .ok (.iconst 1, 1) := by decide +kernel
theorem dX9_priceBy_23 : decode cX9_priceBy 23 = .ok (.aaload, 1) := by decide +kernel
theorem dX9_priceBy_24 : decode cX9_priceBy 24 = .ok (.iload_n 3, 1) := by decide +kernel
theorem dX9_priceBy_25 : decode cX9_priceBy 25 = .ok (.iaload, 1) := by decide +kernel
theorem dX9_priceBy_26 : decode cX9_priceBy 26 = .ok (.iadd, 1) := by decide +kernel
theorem dX9_priceBy_27 : decode cX9_priceBy 27 = .ok (.istore 4, 2) := by decide +kernel
theorem dX9_priceBy_29 : decode cX9_priceBy 29 = .ok (.aload_n 1, 1) := by decide +kernel
theorem dX9_priceBy_30 : decode cX9_priceBy 30 = .ok (.aload_n 2, 1) := by decide +kernel
theorem dX9_priceBy_31 : decode cX9_priceBy 31 = .ok (.getfield 147, 3) := by decide +kernel
theorem dX9_priceBy_34 : decode cX9_priceBy 34 = .ok (.iconst 0, 1) := by decide +kernel
theorem dX9_priceBy_35 : decode cX9_priceBy 35 = .ok (.aaload, 1) := by decide +kernel
theorem dX9_priceBy_36 : decode cX9_priceBy 36 = .ok (.iload_n 3, 1) := by decide +kernel
theorem dX9_priceBy_37 : decode cX9_priceBy 37 = .ok (.iaload, 1) := by decide +kernel
theorem dX9_priceBy_38 : decode cX9_priceBy 38 = .ok (.aload_n 2, 1) := by decide +kernel
theorem dX9_priceBy_39 : decode cX9_priceBy 39 = .ok (.getfield 147, 3) := by decide +kernel
theorem dX9_priceBy_42 : decode cX9_priceBy 42 = .ok (.iconst 1, 1) := by decide +kernel
theorem dX9_priceBy_43 : decode cX9_priceBy 43 = .ok (.aaload, 1) := by decide +kernel
theorem dX9_priceBy_44 : decode cX9_priceBy 44 = .ok (.iload_n 3, 1) := by decide +kernel
theorem dX9_priceBy_45 : decode cX9_priceBy 45 = .ok (.iaload, 1) := by decide +kernel
theorem dX9_priceBy_46 : decode cX9_priceBy 46 = .ok (.aload_n 0, 1) := by decide +kernel
theorem dX9_priceBy_47 : decode cX9_priceBy 47 = .ok (.getfield 51, 3) := by decide +kernel
theorem dX9_priceBy_50 : decode cX9_priceBy 50 = .ok (.iload_n 3, 1) := by decide +kernel
theorem dX9_priceBy_51 : decode cX9_priceBy 51 = .ok (.iaload, 1) := by decide +kernel
theorem dX9_priceBy_52 : decode cX9_priceBy 52 = .ok (.iload_n 3, 1) := by decide +kernel
theorem dX9_priceBy_53 : decode cX9_priceBy 53 = .ok (.aload_n 2, 1) := by decide +kernel
theorem dX9_priceBy_54 : decode cX9_priceBy 54 = .ok (.getfield 352, 3) := by decide +kernel
theorem dX9_priceBy_57 : decode cX9_priceBy 57 = .ok (.bipush 12, 2) := by decide +kernel
theorem dX9_priceBy_59 : decode cX9_priceBy 59 = .ok (.irem, 1) := by decide +kernel
theorem dX9_priceBy_60 : decode cX9_priceBy 60 = .ok (.iload 4, 2) := by decide +kernel
theorem dX9_priceBy_62 : decode cX9_priceBy 62 = .ok (.invokevirtual 301, 3) := by decide +kernel
theorem dX9_priceBy_65 : decode cX9_priceBy 65 = .ok (.ireturn, 1) := by decide +kernel
theorem dX9_goodsFor_0 : decode cX9_goodsFor 0 = .ok (.iload_n 1, 1) := by decide +kernel
theorem dX9_goodsFor_1 : decode cX9_goodsFor 1 = .ok (.ifCond .ne 9, 3) := by decide +kernel
theorem dX9_goodsFor_4 : decode cX9_goodsFor 4 = .ok (.sipush 9999, 3) := by decide +kernel
theorem dX9_goodsFor_7 : decode cX9_goodsFor 7 = .ok (.goto 6, 3) := by decide +kernel
theorem dX9_goodsFor_10 : decode cX9_goodsFor 10 = .ok (.iload_n 0, 1) := by decide +kernel
theorem dX9_goodsFor_11 : decode cX9_goodsFor 11 = .ok (.iload_n 1, 1) := by decide +kernel
theorem dX9_goodsFor_12 : decode cX9_goodsFor 12 = .ok (.idiv, 1) := by decide +kernel
theorem dX9_goodsFor_13 : decode cX9_goodsFor 13 = .ok (.ireturn, 1) := by decide +kernel
theorem dX9_tryMonths_0 : decode cX9_tryMonths 0 = .ok (.aload_n 0, 1) := by decide +kernel
theorem dX9_tryMonths_1 : decode cX9_tryMonths 1 = .ok (.getfield 33, 3) := by decide +kernel
theorem dX9_tryMonths_4 : decode cX9_tryMonths 4 = .ok (.aload_n 0, 1) := by decide +kernel
theorem dX9_tryMonths_5 : decode cX9_tryMonths 5 = .ok (.getfield 26, 3) := by decide +kernel
theorem dX9_tryMonths_8 : decode cX9_tryMonths 8 = .ok (.invokevirtual 175, 3) := by decide +kernel
theorem dX9_tryMonths_11 : decode cX9_tryMonths 11 = .ok (.aload_n 0, 1) := by decide +kernel
theorem dX9_tryMonths_12 : decode cX9_tryMonths 12 = .ok (.getfield 33, 3) := by decide +kernel
theorem dX9_tryMonths_15 : decode cX9_tryMonths 15 = .ok (.aload_n 0, 1) := by decide +kernel
theorem dX9_tryMonths_16 : decode cX9_tryMonths 16 = .ok (.getfield 84, 3) := by decide +kernel
theorem dX9_tryMonths_19 : decode cX9_tryMonths 19 = .ok (.iload_n 1, 1) := by decide +kernel
theorem dX9_tryMonths_20 : decode cX9_tryMonths 20 = .ok (.invokevirtual 179, 3) := by decide +kernel
theorem dX9_tryMonths_23 : decode cX9_tryMonths 23 = .ok (.pop, 1) := by decide +kernel
theorem dX9_tryMonths_24 : decode cX9_tryMonths 24 = .ok (.return_, 1) := by decide +kernel
theorem dX9_foresee_0 : decode cX9_foresee 0 = .ok (.aload_n 0, 1) := by decide +kernel
theorem dX9_foresee_1 : decode cX9_foresee 1 = .ok (.getfield 33, 3) := by decide +kernel
theorem dX9_foresee_4 : decode cX9_foresee 4 = .ok (.aload_n 0, 1) := by decide +kernel
theorem dX9_foresee_5 : decode cX9_foresee 5 = .ok (.getfield 26, 3) := by decide +kernel
theorem dX9_foresee_8 : decode cX9_foresee 8 = .ok (.invokevirtual 175, 3) := by decide +kernel
theorem dX9_foresee_11 : decode cX9_foresee 11 = .ok (.iconst 0, 1) := by decide +kernel
theorem dX9_foresee_12 : decode cX9_foresee 12 = .ok (.istore_n 1, 1) := by decide +kernel
theorem dX9_foresee_13 : decode cX9_foresee 13 = .ok (.iload_n 1, 1) := by decide +kernel
theorem dX9_foresee_14 : decode cX9_foresee 14 = .ok (.aload_n 0, 1) := by decide +kernel
theorem dX9_foresee_15 : decode cX9_foresee 15 = .ok (.getfield 26, 3) := by decide +kernel
theorem dX9_foresee_18 : decode cX9_foresee 18 = .ok (.getfield 47, 3) := by decide +kernel
theorem dX9_foresee_21 : decode cX9_foresee 21 = .ok (.if_icmp .ge 58, 3) := by decide +kernel
theorem dX9_foresee_24 : decode cX9_foresee 24 = .ok (.iconst 0, 1) := by decide +kernel
theorem dX9_foresee_25 : decode cX9_foresee 25 = .ok (.istore_n 2, 1) := by decide +kernel
theorem dX9_foresee_26 : decode cX9_foresee 26 = .ok (.iload_n 2, 1) := by decide +kernel
theorem dX9_foresee_27 : decode cX9_foresee 27 = .ok (.aload_n 0, 1) := by decide +kernel
theorem dX9_foresee_28 : decode cX9_foresee 28 = .ok (.getfield 26, 3) := by decide +kernel
theorem dX9_foresee_31 : decode cX9_foresee 31 = .ok (.getfield 47, 3) := by decide +kernel
theorem dX9_foresee_34 : decode cX9_foresee 34 = .ok (.if_icmp .ge 26, 3) := by decide +kernel
theorem dX9_foresee_37 : decode cX9_foresee 37 = .ok (.aload_n 0, 1) := by decide +kernel
theorem dX9_foresee_38 : decode cX9_foresee 38 = .ok (.getfield 57, 3) := by decide +kernel
theorem dX9_foresee_41 : decode cX9_foresee 41 = .ok (.iload_n 1, 1) := by decide +kernel
theorem dX9_foresee_42 : decode cX9_foresee 42 = .ok (.aaload, 1) := by decide +kernel
theorem dX9_foresee_43 : decode cX9_foresee 43 = .ok (.iload_n 2, 1) := by decide +kernel
theorem dX9_foresee_44 : decode cX9_foresee 44 = .ok (.aload_n 0, 1) := by decide +kernel
theorem dX9_foresee_45 : decode cX9_foresee 45 = .ok (.aload_n 0, 1) := by decide +kernel
theorem dX9_foresee_46 : decode cX9_foresee 46 = .ok (.getfield 33, 3) := by decide +kernel
theorem dX9_foresee_49 : decode cX9_foresee 49 = .ok (.iload_n 2, 1) := by decide +kernel
theorem dX9_foresee_50 : decode cX9_foresee 50 = .ok (.invokevirtual 153, 3) := by decide +kernel
theorem dX9_foresee_53 : decode cX9_foresee 53 = .ok (.iastore, 1) := by decide +kernel
theorem dX9_foresee_54 : decode cX9_foresee 54 = .ok (.iinc 2 1, 3) := by decide +kernel
theorem dX9_foresee_57 : decode cX9_foresee 57 = .ok (.goto (-31), 3) := by decide +kernel
theorem dX9_foresee_60 : decode cX9_foresee 60 = .ok (.aload_n 0, 1) := by decide +kernel
theorem dX9_foresee_61 : decode cX9_foresee 61 = .ok (.getfield 33, 3) := by decide +kernel
theorem dX9_foresee_64 : decode cX9_foresee 64 = .ok (.aload_n 0, 1) := by decide +kernel
theorem dX9_foresee_65 : decode cX9_foresee 65 = .ok (.getfield 84, 3) := by decide +kernel
theorem dX9_foresee_68 : decode cX9_foresee 68 = .ok (.iconst 1, 1) := by decide +kernel
theorem dX9_foresee_69 : decode cX9_foresee 69 = .ok (.invokevirtual 179, 3) := by decide +kernel
theorem dX9_foresee_72 : decode cX9_foresee 72 = .ok (.pop, 1) := by decide +kernel
theorem dX9_foresee_73 : decode cX9_foresee 73 = .ok (.iinc 1 1, 3) := by decide +kernel
theorem dX9_foresee_76 : decode cX9_foresee 76 = .ok (.goto (-63), 3) := by decide +kernel
theorem dX9_foresee_79 : decode cX9_foresee 79 = .ok (.return_, 1) := by decide +kernel
theorem dX9_strings_0 : decode cX9_strings 0 = .ok (.iload_n 1, 1) := by decide +kernel
theorem dX9_strings_1 : decode cX9_strings 1 = .ok (.iconst 0, 1) := by decide +kernel
theorem dX9_strings_2 : decode cX9_strings 2 = .ok (.ldc_w 324, 3) := by decide +kernel
theorem dX9_strings_5 : decode cX9_strings 5 = .ok (.invokestatic 140, 3) := by decide +kernel
theorem dX9_strings_8 : decode cX9_strings 8 = .ok (.ifCond .eq 13, 3) := by decide +kernel
theorem dX9_strings_11 : decode cX9_strings 11 = .ok (.iload_n 2, 1) := by decide +kernel
theorem dX9_strings_12 : decode cX9_strings 12 = .ok (.iconst 1, 1) := by decide +kernel
theorem dX9_strings_13 : decode cX9_strings 13 = .ok (.bipush 9, 2) := by decide +kernel
theorem dX9_strings_15 : decode cX9_strings 15 = .ok (.invokestatic 140, 3) := by decide +kernel
theorem dX9_strings_18 : decode cX9_strings 18 = .ok (.ifCond .ne 5, 3) := by decide +kernel
theorem dX9_strings_21 : decode cX9_strings 21 = .ok (.iconst (-1), 1) := by decide +kernel
theorem dX9_strings_22 : decode cX9_strings 22 = .ok (.ireturn, 1) := by decide +kernel
theorem dX9_strings_23 : decode cX9_strings 23 = .ok (.iload_n 1, 1) := by decide +kernel
theorem dX9_strings_24 : decode cX9_strings 24 = .ok (.bipush 40, 2) := by decide +kernel
theorem dX9_strings_26 : decode cX9_strings 26 = .ok (.idiv, 1) := by decide +kernel
theorem dX9_strings_27 : decode cX9_strings 27 = .ok (.istore_n 3, 1) := by decide +kernel
theorem dX9_strings_28 : decode cX9_strings 28 = .ok (.aload_n 0, 1) := by decide +kernel
theorem dX9_strings_29 : decode cX9_strings 29 = .ok (.getfield 19, 3) := by decide +kernel
theorem dX9_strings_32 : decode cX9_strings 32 = .ok (.iload_n 1, 1) := by decide +kernel
theorem dX9_strings_33 : decode cX9_strings 33 = .ok (.bipush 40, 2) := by decide +kernel
theorem dX9_strings_35 : decode cX9_strings 35 = .ok (.irem, 1) := by decide +kernel
theorem dX9_strings_36 : decode cX9_strings 36 = .ok (.i2l, 1) := by decide +kernel
theorem dX9_strings_37 : decode cX9_strings 37 = .ok (.iload_n 3, 1) := by decide +kernel
theorem dX9_strings_38 : decode cX9_strings 38 = .ok (.bipush 25, 2) := by decide +kernel
theorem dX9_strings_40 : decode cX9_strings 40 = .ok (.iload_n 2, 1) := by decide +kernel
theorem dX9_strings_41 : decode cX9_strings 41 = .ok (.imul, 1) := by decide +kernel
theorem dX9_strings_42 : decode cX9_strings 42 = .ok (.invokestatic 355, 3) := by decide +kernel
theorem dX9_strings_45 : decode cX9_strings 45 = .ok (.i2l, 1) := by decide +kernel
theorem dX9_strings_46 : decode cX9_strings 46 = .ok (.invokevirtual 185, 3) := by decide +kernel
theorem dX9_strings_49 : decode cX9_strings 49 = .ok (.iload_n 3, 1) := by decide +kernel
theorem dX9_strings_50 : decode cX9_strings 50 = .ok (.ireturn, 1) := by decide +kernel
theorem dX9_counts_0 : decode cX9_counts 0 = .ok (.iload_n 1, 1) := by decide +kernel
theorem dX9_counts_1 : decode cX9_counts 1 = .ok (.iconst 0, 1) := by decide +kernel
theorem dX9_counts_2 : decode cX9_counts 2 = .ok (.sipush 9999, 3) := by decide +kernel
theorem dX9_counts_5 : decode cX9_counts 5 = .ok (.invokestatic 140, 3) := by decide +kernel
theorem dX9_counts_8 : decode cX9_counts 8 = .ok (.ifCond .eq 13, 3) := by decide +kernel
theorem dX9_counts_11 : decode cX9_counts 11 = .ok (.iload_n 2, 1) := by decide +kernel
theorem dX9_counts_12 : decode cX9_counts 12 = .ok (.iconst 1, 1) := by decide +kernel
theorem dX9_counts_13 : decode cX9_counts 13 = .ok (.bipush 99, 2) := by decide +kernel
theorem dX9_counts_15 : decode cX9_counts 15 = .ok (.invokestatic 140, 3) := by decide +kernel
theorem dX9_counts_18 : decode cX9_counts 18 = .ok (.ifCond .ne 5, 3) := by decide +kernel
theorem dX9_counts_21 : decode cX9_counts 21 = .ok (.iconst (-1), 1) := by decide +kernel
theorem dX9_counts_22 : decode cX9_counts 22 = .ok (.ireturn, 1) := by decide +kernel
theorem dX9_counts_23 : decode cX9_counts 23 = .ok (.sipush 10000, 3) := by decide +kernel
theorem dX9_counts_26 : decode cX9_counts 26 = .ok (.istore_n 3, 1) := by decide +kernel
theorem dX9_counts_27 : decode cX9_counts 27 = .ok (.iload_n 3, 1) := by decide +kernel
theorem dX9_counts_28 : decode cX9_counts 28 = .ok (.ifCond .le 22, 3) := by decide +kernel
theorem dX9_counts_31 : decode cX9_counts 31 = .ok (.iload_n 3, 1) := by decide +kernel
theorem dX9_counts_32 : decode cX9_counts 32 = .ok (.iconst 1, 1) := by decide +kernel
theorem dX9_counts_33 : decode cX9_counts 33 = .ok (.isub, 1) := by decide +kernel
theorem dX9_counts_34 : decode cX9_counts 34 = .ok (.iload_n 2, 1) := by decide +kernel
theorem dX9_counts_35 : decode cX9_counts 35 = .ok (.invokestatic 358, 3) := by decide +kernel
theorem dX9_counts_38 : decode cX9_counts 38 = .ok (.iload_n 3, 1) := by decide +kernel
theorem dX9_counts_39 : decode cX9_counts 39 = .ok (.iconst 1, 1) := by decide +kernel
theorem dX9_counts_40 : decode cX9_counts 40 = .ok (.isub, 1) := by decide +kernel
theorem dX9_counts_41 : decode cX9_counts 41 = .ok (.if_icmp .gt 9, 3) := by decide +kernel
theorem dX9_counts_44 : decode cX9_counts 44 = .ok (.iinc 3 (-1), 3) := by decide +kernel
theorem dX9_counts_47 : decode cX9_counts 47 = .ok (.goto (-20), 3) := by decide +kernel
theorem dX9_counts_50 : decode cX9_counts 50 = .ok (.iload_n 1, 1) := by decide +kernel
theorem dX9_counts_51 : decode cX9_counts 51 = .ok (.iload_n 2, 1) := by decide +kernel
theorem dX9_counts_52 : decode cX9_counts 52 = .ok (.invokestatic 358, 3) := by decide +kernel
theorem dX9_counts_55 : decode cX9_counts 55 = .ok (.istore 4, 2) := by decide +kernel
theorem dX9_counts_57 : decode cX9_counts 57 = .ok (.aload_n 0, 1) := by decide +kernel
theorem dX9_counts_58 : decode cX9_counts 58 = .ok (.getfield 19, 3) := by decide +kernel
theorem dX9_counts_61 : decode cX9_counts 61 = .ok (.iload 4, 2) := by decide +kernel
theorem dX9_counts_63 : decode cX9_counts 63 = .ok (.iload_n 1, 1) := by decide +kernel
theorem dX9_counts_64 : decode cX9_counts 64 = .ok (.if_icmp .le 7, 3) := by decide +kernel
theorem dX9_counts_67 : decode cX9_counts 67 = .ok (.lconst 1, 1) := by decide +kernel
theorem dX9_counts_68 : decode cX9_counts 68 = .ok (.goto 4, 3) := by decide +kernel
theorem dX9_counts_71 : decode cX9_counts 71 = .ok (.lconst 0, 1) := by decide +kernel
theorem dX9_counts_72 : decode cX9_counts 72 = .ok (.iload_n 3, 1) := by decide +kernel
theorem dX9_counts_73 : decode cX9_counts 73 = .ok (.i2l, 1) := by decide +kernel
theorem dX9_counts_74 : decode cX9_counts 74 = .ok (.invokevirtual 185, 3) := by decide +kernel
theorem dX9_counts_77 : decode cX9_counts 77 = .ok (.iload 4, 2) := by decide +kernel
theorem dX9_counts_79 : decode cX9_counts 79 = .ok (.ireturn, 1) := by decide +kernel
theorem dX9_counted_0 : decode cX9_counted 0 = .ok (.iload_n 1, 1) := by decide +kernel
theorem dX9_counted_1 : decode cX9_counted 1 = .ok (.iload_n 0, 1) := by decide +kernel
theorem dX9_counted_2 : decode cX9_counted 2 = .ok (.bipush 100, 2) := by decide +kernel
theorem dX9_counted_4 : decode cX9_counted 4 = .ok (.invokestatic 355, 3) := by decide +kernel
theorem dX9_counted_7 : decode cX9_counted 7 = .ok (.imul, 1) := by decide +kernel
theorem dX9_counted_8 : decode cX9_counted 8 = .ok (.ireturn, 1) := by decide +kernel
theorem dX9_pays_0 : decode cX9_pays 0 = .ok (.iload_n 1, 1) := by decide +kernel
theorem dX9_pays_1 : decode cX9_pays 1 = .ok (.iconst 0, 1) := by decide +kernel
theorem dX9_pays_2 : decode cX9_pays 2 = .ok (.sipush 9999, 3) := by decide +kernel
theorem dX9_pays_5 : decode cX9_pays 5 = .ok (.invokestatic 140, 3) := by decide +kernel
theorem dX9_pays_8 : decode cX9_pays 8 = .ok (.ifCond .ne 14, 3) := by decide +kernel
theorem dX9_pays_11 : decode cX9_pays 11 = .ok (.aload_n 0, 1) := by decide +kernel
theorem dX9_pays_12 : decode cX9_pays 12 = .ok (.getfield 10, 3) := by decide +kernel
theorem dX9_pays_15 : decode cX9_pays 15 = .ok (.invokevirtual 115, 3) := by decide +kernel
theorem dX9_pays_18 : decode cX9_pays 18 = .ok (.sipush (-20000), 3) := by decide +kernel
theorem dX9_pays_21 : decode cX9_pays 21 = .ok (.ireturn, 1) := by decide +kernel
theorem dX9_pays_22 : decode cX9_pays 22 = .ok (.aload_n 0, 1) := by decide +kernel
theorem dX9_pays_23 : decode cX9_pays 23 = .ok (.getfield 63, 3) := by decide +kernel
theorem dX9_pays_26 : decode cX9_pays 26 = .ok (.aload_n 0, 1) := by decide +kernel
theorem dX9_pays_27 : decode cX9_pays 27 = .ok (.getfield 10, 3) := by decide +kernel
theorem dX9_pays_30 : decode cX9_pays 30 = .ok (.bipush 80, 2) := by decide +kernel
theorem dX9_pays_32 : decode cX9_pays 32 = .ok (.bipush 8, 2) := by decide +kernel
theorem dX9_pays_34 : decode cX9_pays 34 = .ok (.iconst 3, 1) := by decide +kernel
theorem dX9_pays_35 : decode cX9_pays 35 = .ok (.invokevirtual 111, 3) := by decide +kernel
theorem dX9_pays_38 : decode cX9_pays 38 = .ok (.istore_n 2, 1) := by decide +kernel
theorem dX9_pays_39 : decode cX9_pays 39 = .ok (.aload_n 0, 1) := by decide +kernel
theorem dX9_pays_40 : decode cX9_pays 40 = .ok (.getfield 10, 3) := by decide +kernel
theorem dX9_pays_43 : decode cX9_pays 43 = .ok (.invokevirtual 115, 3) := by decide +kernel
theorem dX9_pays_46 : decode cX9_pays 46 = .ok (.iload_n 2, 1) := by decide +kernel
theorem dX9_pays_47 : decode cX9_pays 47 = .ok (.iconst (-1), 1) := by decide +kernel
theorem dX9_pays_48 : decode cX9_pays 48 = .ok (.if_icmp .eq 7, 3) := by decide +kernel
theorem dX9_pays_51 : decode cX9_pays 51 = .ok (.iconst (-1), 1) := by decide +kernel
theorem dX9_pays_52 : decode cX9_pays 52 = .ok (.iload_n 2, 1) := by decide +kernel
theorem dX9_pays_53 : decode cX9_pays 53 = .ok (.isub, 1) := by decide +kernel
theorem dX9_pays_54 : decode cX9_pays 54 = .ok (.ireturn, 1) := by decide +kernel
theorem dX9_pays_55 : decode cX9_pays 55 = .ok (.iconst (-1), 1) := by decide +kernel
theorem dX9_pays_56 : decode cX9_pays 56 = .ok (.istore_n 3, 1) := by decide +kernel
theorem dX9_pays_57 : decode cX9_pays 57 = .ok (.iconst 0, 1) := by decide +kernel
theorem dX9_pays_58 : decode cX9_pays 58 = .ok (.istore 4, 2) := by decide +kernel
theorem dX9_pays_60 : decode cX9_pays 60 = .ok (.iload 4, 2) := by decide +kernel
theorem dX9_pays_62 : decode cX9_pays 62 = .ok (.iconst 1, 1) := by decide +kernel
theorem dX9_pays_63 : decode cX9_pays 63 = .ok (.aload_n 0, 1) := by decide +kernel
theorem dX9_pays_64 : decode cX9_pays 64 = .ok (.getfield 63, 3) := by decide +kernel
theorem dX9_pays_67 : decode cX9_pays 67 = .ok (.getfield 118, 3) := by decide +kernel
theorem dX9_pays_70 : decode cX9_pays 70 = .ok (.ishl, 1) := by decide +kernel
theorem dX9_pays_71 : decode cX9_pays 71 = .ok (.if_icmp .ge 39, 3) := by decide +kernel
theorem dX9_pays_74 : decode cX9_pays 74 = .ok (.aload_n 0, 1) := by decide +kernel
theorem dX9_pays_75 : decode cX9_pays 75 = .ok (.getfield 63, 3) := by decide +kernel
theorem dX9_pays_78 : decode cX9_pays 78 = .ok (.iload 4, 2) := by decide +kernel
theorem dX9_pays_80 : decode cX9_pays 80 = .ok (.invokevirtual 361, 3) := by decide +kernel
theorem dX9_pays_83 : decode cX9_pays 83 = .ok (.iload_n 1, 1) := by decide +kernel
theorem dX9_pays_84 : decode cX9_pays 84 = .ok (.if_icmp .ne 20, 3) := by decide +kernel
theorem dX9_pays_87 : decode cX9_pays 87 = .ok (.iload_n 3, 1) := by decide +kernel
theorem dX9_pays_88 : decode cX9_pays 88 = .ok (.iconst (-1), 1) := by decide +kernel
theorem dX9_pays_89 : decode cX9_pays 89 = .ok (.if_icmp .eq 12, 3) := by decide +kernel
theorem dX9_pays_92 : decode cX9_pays 92 = .ok (.iload 4, 2) := by decide +kernel
theorem dX9_pays_94 : decode cX9_pays 94 = .ok (.iload_n 3, 1) := by decide +kernel
theorem dX9_pays_95 : decode cX9_pays 95 = .ok (.invokestatic 313, 3) := by decide +kernel
theorem dX9_pays_98 : decode cX9_pays 98 = .ok (.ifCond .eq 6, 3) := by decide +kernel
theorem dX9_pays_101 : decode cX9_pays 101 = .ok (.iload 4, 2) := by decide +kernel
theorem dX9_pays_103 : decode cX9_pays 103 = .ok (.istore_n 3, 1) := by decide +kernel
theorem dX9_pays_104 : decode cX9_pays 104 = .ok (.iinc 4 1, 3) := by decide +kernel
theorem dX9_pays_107 : decode cX9_pays 107 = .ok (.goto (-47), 3) := by decide +kernel
theorem dX9_pays_110 : decode cX9_pays 110 = .ok (.iload_n 3, 1) := by decide +kernel
theorem dX9_pays_111 : decode cX9_pays 111 = .ok (.iconst (-1), 1) := by decide +kernel
theorem dX9_pays_112 : decode cX9_pays 112 = .ok (.if_icmp .ne 7, 3) := by decide +kernel
theorem dX9_pays_115 : decode cX9_pays 115 = .ok (.sipush (-10000), 3) := by decide +kernel
theorem dX9_pays_118 : decode cX9_pays 118 = .ok (.ireturn, 1) := by decide +kernel
theorem dX9_pays_119 : decode cX9_pays 119 = .ok (.aload_n 0, 1) := by decide +kernel
theorem dX9_pays_120 : decode cX9_pays 120 = .ok (.getfield 19, 3) := by decide +kernel
theorem dX9_pays_123 : decode cX9_pays 123 = .ok (.iload_n 3, 1) := by decide +kernel
theorem dX9_pays_124 : decode cX9_pays 124 = .ok (.i2l, 1) := by decide +kernel
theorem dX9_pays_125 : decode cX9_pays 125 = .ok (.invokevirtual 282, 3) := by decide +kernel
theorem dX9_pays_128 : decode cX9_pays 128 = .ok (.iload_n 3, 1) := by decide +kernel
theorem dX9_pays_129 : decode cX9_pays 129 = .ok (.invokestatic 305, 3) := by decide +kernel
theorem dX9_pays_132 : decode cX9_pays 132 = .ok (.ireturn, 1) := by decide +kernel
theorem dX9_bearers_0 : decode cX9_bearers 0 = .ok (.iload_n 1, 1) := by decide +kernel
theorem dX9_bearers_1 : decode cX9_bearers 1 = .ok (.iconst 0, 1) := by decide +kernel
theorem dX9_bearers_2 : decode cX9_bearers 2 = .ok (.ldc_w 324, 3) := by decide +kernel
theorem dX9_bearers_5 : decode cX9_bearers 5 = .ok (.invokestatic 140, 3) := by decide +kernel
theorem dX9_bearers_8 : decode cX9_bearers 8 = .ok (.ifCond .eq 14, 3) := by decide +kernel
theorem dX9_bearers_11 : decode cX9_bearers 11 = .ok (.aload_n 0, 1) := by decide +kernel
theorem dX9_bearers_12 : decode cX9_bearers 12 = .ok (.getfield 26, 3) := by decide +kernel
theorem dX9_bearers_15 : decode cX9_bearers 15 = .ok (.iload_n 2, 1) := by decide +kernel
theorem dX9_bearers_16 : decode cX9_bearers 16 = .ok (.invokevirtual 137, 3) := by decide +kernel
theorem dX9_bearers_19 : decode cX9_bearers 19 = .ok (.ifCond .ne 5, 3) := by decide +kernel
theorem dX9_bearers_22 : decode cX9_bearers 22 = .ok (.iconst (-1), 1) := by decide +kernel
theorem dX9_bearers_23 : decode cX9_bearers 23 = .ok (.ireturn, 1) := by decide +kernel
theorem dX9_bearers_24 : decode cX9_bearers 24 = .ok (.iload_n 1, 1) := by decide +kernel
theorem dX9_bearers_25 : decode cX9_bearers 25 = .ok (.sipush 400, 3) := by decide +kernel
theorem dX9_bearers_28 : decode cX9_bearers 28 = .ok (.invokestatic 355, 3) := by decide +kernel
theorem dX9_bearers_31 : decode cX9_bearers 31 = .ok (.istore_n 3, 1) := by decide +kernel
theorem dX9_bearers_32 : decode cX9_bearers 32 = .ok (.aload_n 0, 1) := by decide +kernel
theorem dX9_bearers_33 : decode cX9_bearers 33 = .ok (.getfield 19, 3) := by decide +kernel
theorem dX9_bearers_36 : decode cX9_bearers 36 = .ok (.iconst 0, 1) := by decide +kernel
theorem dX9_bearers_37 : decode cX9_bearers 37 = .ok (.iload_n 1, 1) := by decide +kernel
theorem dX9_bearers_38 : decode cX9_bearers 38 = .ok (.iload_n 3, 1) := by decide +kernel
theorem dX9_bearers_39 : decode cX9_bearers 39 = .ok (.bipush 10, 2) := by decide +kernel
theorem dX9_bearers_41 : decode cX9_bearers 41 = .ok (.imul, 1) := by decide +kernel
theorem dX9_bearers_42 : decode cX9_bearers 42 = .ok (.iload_n 2, 1) := by decide +kernel
theorem dX9_bearers_43 : decode cX9_bearers 43 = .ok (.imul, 1) := by decide +kernel
theorem dX9_bearers_44 : decode cX9_bearers 44 = .ok (.isub, 1) := by decide +kernel
theorem dX9_bearers_45 : decode cX9_bearers 45 = .ok (.invokestatic 232, 3) := by decide +kernel
theorem dX9_bearers_48 : decode cX9_bearers 48 = .ok (.i2l, 1) := by decide +kernel
theorem dX9_bearers_49 : decode cX9_bearers 49 = .ok (.invokevirtual 282, 3) := by decide +kernel
theorem dX9_bearers_52 : decode cX9_bearers 52 = .ok (.iload_n 3, 1) := by decide +kernel
theorem dX9_bearers_53 : decode cX9_bearers 53 = .ok (.ireturn, 1) := by decide +kernel
theorem dX9_left_0 : decode cX9_left 0 = .ok (.iload_n 1, 1) := by decide +kernel
theorem dX9_left_1 : decode cX9_left 1 = .ok (.iconst 2, 1) := by decide +kernel
theorem dX9_left_2 : decode cX9_left 2 = .ok (.bipush 40, 2) := by decide +kernel
theorem dX9_left_4 : decode cX9_left 4 = .ok (.invokestatic 140, 3) := by decide +kernel
theorem dX9_left_7 : decode cX9_left 7 = .ok (.ifCond .eq 14, 3) := by decide +kernel
theorem dX9_left_10 : decode cX9_left 10 = .ok (.iload_n 2, 1) := by decide +kernel
theorem dX9_left_11 : decode cX9_left 11 = .ok (.iconst 0, 1) := by decide +kernel
theorem dX9_left_12 : decode cX9_left 12 = .ok (.iload_n 1, 1) := by decide +kernel
theorem dX9_left_13 : decode cX9_left 13 = .ok (.iconst 1, 1) := by decide +kernel
theorem dX9_left_14 : decode cX9_left 14 = .ok (.isub, 1) := by decide +kernel
theorem dX9_left_15 : decode cX9_left 15 = .ok (.invokestatic 140, 3) := by decide +kernel
theorem dX9_left_18 : decode cX9_left 18 = .ok (.ifCond .ne 5, 3) := by decide +kernel
theorem dX9_left_21 : decode cX9_left 21 = .ok (.iconst (-1), 1) := by decide +kernel
theorem dX9_left_22 : decode cX9_left 22 = .ok (.ireturn, 1) := by decide +kernel
theorem dX9_left_23 : decode cX9_left 23 = .ok (.aload_n 0, 1) := by decide +kernel
theorem dX9_left_24 : decode cX9_left 24 = .ok (.getfield 70, 3) := by decide +kernel
theorem dX9_left_27 : decode cX9_left 27 = .ok (.iload_n 1, 1) := by decide +kernel
theorem dX9_left_28 : decode cX9_left 28 = .ok (.iload_n 2, 1) := by decide +kernel
theorem dX9_left_29 : decode cX9_left 29 = .ok (.invokevirtual 364, 3) := by decide +kernel
theorem dX9_left_32 : decode cX9_left 32 = .ok (.ifCond .eq 13, 3) := by decide +kernel
theorem dX9_left_35 : decode cX9_left 35 = .ok (.aload_n 0, 1) := by decide +kernel
theorem dX9_left_36 : decode cX9_left 36 = .ok (.getfield 70, 3) := by decide +kernel
theorem dX9_left_39 : decode cX9_left 39 = .ok (.getfield 367, 3) := by decide +kernel
theorem dX9_left_42 : decode cX9_left 42 = .ok (.goto 4, 3) := by decide +kernel
theorem dX9_left_45 : decode cX9_left 45 = .ok (.iconst (-1), 1) := by decide +kernel
theorem dX9_left_46 : decode cX9_left 46 = .ok (.ireturn, 1) := by decide +kernel
theorem dX9_forget_0 : decode cX9_forget 0 = .ok (.aload_n 0, 1) := by decide +kernel
theorem dX9_forget_1 : decode cX9_forget 1 = .ok (.getfield 70, 3) := by decide +kernel
theorem dX9_forget_4 : decode cX9_forget 4 = .ok (.getfield 367, 3) := by decide +kernel
theorem dX9_forget_7 : decode cX9_forget 7 = .ok (.istore_n 1, 1) := by decide +kernel
theorem dX9_forget_8 : decode cX9_forget 8 = .ok (.aload_n 0, 1) := by decide +kernel
theorem dX9_forget_9 : decode cX9_forget 9 = .ok (.getfield 70, 3) := by decide +kernel
theorem dX9_forget_12 : decode cX9_forget 12 = .ok (.iconst 0, 1) := by decide +kernel
theorem dX9_forget_13 : decode cX9_forget 13 = .ok (.putfield 367, 3) := by decide +kernel
theorem dX9_forget_16 : decode cX9_forget 16 = .ok (.iload_n 1, 1) := by decide +kernel
theorem dX9_forget_17 : decode cX9_forget 17 = .ok (.ireturn, 1) := by decide +kernel
theorem dX9_fits_0 : decode cX9_fits 0 = .ok (.aload_n 0, 1) := by decide +kernel
theorem dX9_fits_1 : decode cX9_fits 1 = .ok (.getfield 70, 3) := by decide +kernel
theorem dX9_fits_4 : decode cX9_fits 4 = .ok (.invokevirtual 368, 3) := by decide +kernel
theorem dX9_fits_7 : decode cX9_fits 7 = .ok (.iconst 0, 1) := by decide +kernel
theorem dX9_fits_8 : decode cX9_fits 8 = .ok (.istore_n 1, 1) := by decide +kernel
theorem dX9_fits_9 : decode cX9_fits 9 = .ok (.iconst 0, 1) := by decide +kernel
theorem dX9_fits_10 : decode cX9_fits 10 = .ok (.istore_n 2, 1) := by decide +kernel
theorem dX9_fits_11 : decode cX9_fits 11 = .ok (.iconst 0, 1) := by decide +kernel
theorem dX9_fits_12 : decode cX9_fits 12 = .ok (.istore_n 3, 1) := by decide +kernel
theorem dX9_fits_13 : decode cX9_fits 13 = .ok (.iconst 1, 1) := by decide +kernel
theorem dX9_fits_14 : decode cX9_fits 14 = .ok (.istore 4, 2) := by decide +kernel
theorem dX9_fits_16 : decode cX9_fits 16 = .ok (.iload 4, 2) := by decide +kernel
theorem dX9_fits_18 : decode cX9_fits 18 = .ok (.sipush 999, 3) := by decide +kernel
theorem dX9_fits_21 : decode cX9_fits 21 = .ok (.if_icmp .gt 39, 3) := by decide +kernel
theorem dX9_fits_24 : decode cX9_fits 24 = .ok (.aload_n 0, 1) := by decide +kernel
theorem dX9_fits_25 : decode cX9_fits 25 = .ok (.getfield 70, 3) := by decide +kernel
theorem dX9_fits_28 : decode cX9_fits 28 = .ok (.getfield 371, 3) := by decide +kernel
theorem dX9_fits_31 : decode cX9_fits 31 = .ok (.iload 4, 2) := by decide +kernel
theorem dX9_fits_33 : decode cX9_fits 33 = .ok (.baload, 1) := by decide +kernel
theorem dX9_fits_34 : decode cX9_fits 34 = .ok (.ifCond .eq 20, 3) := by decide +kernel
theorem dX9_fits_37 : decode cX9_fits 37 = .ok (.iinc 1 1, 3) := by decide +kernel
theorem dX9_fits_40 : decode cX9_fits 40 = .ok (.iload_n 2, 1) := by decide +kernel
theorem dX9_fits_41 : decode cX9_fits 41 = .ok (.ifCond .ne 8, 3) := by decide +kernel
theorem dX9_fits_44 : decode cX9_fits 44 = .ok (.iload 4, 2) := by decide +kernel
theorem dX9_fits_46 : decode cX9_fits 46 = .ok (.goto 4, 3) := by decide +kernel
theorem dX9_fits_49 : decode cX9_fits 49 = .ok (.iload_n 2, 1) := by decide +kernel
theorem dX9_fits_50 : decode cX9_fits 50 = .ok (.istore_n 2, 1) := by decide +kernel
theorem dX9_fits_51 : decode cX9_fits 51 = .ok (.iload 4, 2) := by decide +kernel
theorem dX9_fits_53 : decode cX9_fits 53 = .ok (.istore_n 3, 1) := by decide +kernel
theorem dX9_fits_54 : decode cX9_fits 54 = .ok (.iinc 4 1, 3) := by decide +kernel
theorem dX9_fits_57 : decode cX9_fits 57 = .ok (.goto (-41), 3) := by decide +kernel
theorem dX9_fits_60 : decode cX9_fits 60 = .ok (.aload_n 0, 1) := by decide +kernel
theorem dX9_fits_61 : decode cX9_fits 61 = .ok (.getfield 19, 3) := by decide +kernel
theorem dX9_fits_64 : decode cX9_fits 64 = .ok (.invokevirtual 285, 3) := by decide +kernel
theorem dX9_fits_67 : decode cX9_fits 67 = .ok (.iload_n 1, 1) := by decide +kernel
theorem dX9_fits_68 : decode cX9_fits 68 = .ok (.ifCond .le 14, 3) := by decide +kernel
theorem dX9_fits_71 : decode cX9_fits 71 = .ok (.aload_n 0, 1) := by decide +kernel
theorem dX9_fits_72 : decode cX9_fits 72 = .ok (.getfield 19, 3) := by decide +kernel
theorem dX9_fits_75 : decode cX9_fits 75 = .ok (.iload_n 2, 1) := by decide +kernel
theorem dX9_fits_76 : decode cX9_fits 76 = .ok (.i2l, 1) := by decide +kernel
theorem dX9_fits_77 : decode cX9_fits 77 = .ok (.iload_n 3, 1) := by decide +kernel
theorem dX9_fits_78 : decode cX9_fits 78 = .ok (.i2l, 1) := by decide +kernel
theorem dX9_fits_79 : decode cX9_fits 79 = .ok (.invokevirtual 185, 3) := by decide +kernel
theorem dX9_fits_82 : decode cX9_fits 82 = .ok (.iload_n 1, 1) := by decide +kernel
theorem dX9_fits_83 : decode cX9_fits 83 = .ok (.ireturn, 1) := by decide +kernel
theorem dX9_ask_0 : decode cX9_ask 0 = .ok (.aload_n 0, 1) := by decide +kernel
theorem dX9_ask_1 : decode cX9_ask 1 = .ok (.getfield 70, 3) := by decide +kernel
theorem dX9_ask_4 : decode cX9_ask 4 = .ok (.invokevirtual 368, 3) := by decide +kernel
theorem dX9_ask_7 : decode cX9_ask 7 = .ok (.sipush 1000, 3) := by decide +kernel
theorem dX9_ask_10 : decode cX9_ask 10 = .ok (.istore_n 1, 1) := by decide +kernel
theorem dX9_ask_11 : decode cX9_ask 11 = .ok (.iconst 0, 1) := by decide +kernel
theorem dX9_ask_12 : decode cX9_ask 12 = .ok (.istore_n 2, 1) := by decide +kernel
theorem dX9_ask_13 : decode cX9_ask 13 = .ok (.iconst 2, 1) := by decide +kernel
theorem dX9_ask_14 : decode cX9_ask 14 = .ok (.istore_n 3, 1) := by decide +kernel
theorem dX9_ask_15 : decode cX9_ask 15 = .ok (.iload_n 3, 1) := by decide +kernel
theorem dX9_ask_16 : decode cX9_ask 16 = .ok (.bipush 40, 2) := by decide +kernel
theorem dX9_ask_18 : decode cX9_ask 18 = .ok (.if_icmp .gt 30, 3) := by decide +kernel
theorem dX9_ask_21 : decode cX9_ask 21 = .ok (.aload_n 0, 1) := by decide +kernel
theorem dX9_ask_22 : decode cX9_ask 22 = .ok (.getfield 70, 3) := by decide +kernel
theorem dX9_ask_25 : decode cX9_ask 25 = .ok (.iload_n 3, 1) := by decide +kernel
theorem dX9_ask_26 : decode cX9_ask 26 = .ok (.invokevirtual 375, 3) := by decide +kernel
theorem dX9_ask_29 : decode cX9_ask 29 = .ok (.istore 4, 2) := by decide +kernel
theorem dX9_ask_31 : decode cX9_ask 31 = .ok (.iload 4, 2) := by decide +kernel
theorem dX9_ask_33 : decode cX9_ask 33 = .ok (.iload_n 1, 1) := by decide +kernel
theorem dX9_ask_34 : decode cX9_ask 34 = .ok (.if_icmp .ge 8, 3) := by decide +kernel
theorem dX9_ask_37 : decode cX9_ask 37 = .ok (.iload 4, 2) := by decide +kernel
theorem dX9_ask_39 : decode cX9_ask 39 = .ok (.istore_n 1, 1) := by decide +kernel
theorem dX9_ask_40 : decode cX9_ask 40 = .ok (.iload_n 3, 1) := by decide +kernel
theorem dX9_ask_41 : decode cX9_ask 41 = .ok (.istore_n 2, 1) := by decide +kernel
theorem dX9_ask_42 : decode cX9_ask 42 = .ok (.iinc 3 1, 3) := by decide +kernel
theorem dX9_ask_45 : decode cX9_ask 45 = .ok (.goto (-30), 3) := by decide +kernel
theorem dX9_ask_48 : decode cX9_ask 48 = .ok (.iload_n 1, 1) := by decide +kernel
theorem dX9_ask_49 : decode cX9_ask 49 = .ok (.ifCond .ne 6, 3) := by decide +kernel
theorem dX9_ask_52 : decode cX9_ask 52 = .ok (.bipush (-2), 2) := by decide +kernel
theorem dX9_ask_54 : decode cX9_ask 54 = .ok (.ireturn, 1) := by decide +kernel
theorem dX9_ask_55 : decode cX9_ask 55 = .ok (.aload_n 0, 1) := by decide +kernel
theorem dX9_ask_56 : decode cX9_ask 56 = .ok (.getfield 19, 3) := by decide +kernel
theorem dX9_ask_59 : decode cX9_ask 59 = .ok (.iload_n 1, 1) := by decide +kernel
theorem dX9_ask_60 : decode cX9_ask 60 = .ok (.i2l, 1) := by decide +kernel
theorem dX9_ask_61 : decode cX9_ask 61 = .ok (.invokevirtual 282, 3) := by decide +kernel
theorem dX9_ask_64 : decode cX9_ask 64 = .ok (.iload_n 2, 1) := by decide +kernel
theorem dX9_ask_65 : decode cX9_ask 65 = .ok (.ireturn, 1) := by decide +kernel
theorem dX9_sound_0 : decode cX9_sound 0 = .ok (.iload_n 1, 1) := by decide +kernel
theorem dX9_sound_1 : decode cX9_sound 1 = .ok (.iconst 1, 1) := by decide +kernel
theorem dX9_sound_2 : decode cX9_sound 2 = .ok (.bipush 10, 2) := by decide +kernel
theorem dX9_sound_4 : decode cX9_sound 4 = .ok (.invokestatic 140, 3) := by decide +kernel
theorem dX9_sound_7 : decode cX9_sound 7 = .ok (.ifCond .eq 22, 3) := by decide +kernel
theorem dX9_sound_10 : decode cX9_sound 10 = .ok (.iload_n 2, 1) := by decide +kernel
theorem dX9_sound_11 : decode cX9_sound 11 = .ok (.iconst 0, 1) := by decide +kernel
theorem dX9_sound_12 : decode cX9_sound 12 = .ok (.iload_n 1, 1) := by decide +kernel
theorem dX9_sound_13 : decode cX9_sound 13 = .ok (.invokestatic 140, 3) := by decide +kernel
theorem dX9_sound_16 : decode cX9_sound 16 = .ok (.ifCond .eq 13, 3) := by decide +kernel
theorem dX9_sound_19 : decode cX9_sound 19 = .ok (.iload_n 3, 1) := by decide +kernel
theorem dX9_sound_20 : decode cX9_sound 20 = .ok (.iconst 0, 1) := by decide +kernel
theorem dX9_sound_21 : decode cX9_sound 21 = .ok (.bipush 10, 2) := by decide +kernel
theorem dX9_sound_23 : decode cX9_sound 23 = .ok (.invokestatic 140, 3) := by decide +kernel
theorem dX9_sound_26 : decode cX9_sound 26 = .ok (.ifCond .ne 5, 3) := by decide +kernel
theorem dX9_sound_29 : decode cX9_sound 29 = .ok (.iconst (-1), 1) := by decide +kernel
theorem dX9_sound_30 : decode cX9_sound 30 = .ok (.ireturn, 1) := by decide +kernel
theorem dX9_sound_31 : decode cX9_sound 31 = .ok (.lconst 1, 1) := by decide +kernel
theorem dX9_sound_32 : decode cX9_sound 32 = .ok (.lstore 4, 2) := by decide +kernel
theorem dX9_sound_34 : decode cX9_sound 34 = .ok (.lconst 1, 1) := by decide +kernel
theorem dX9_sound_35 : decode cX9_sound 35 = .ok (.lstore 6, 2) := by decide +kernel
theorem dX9_sound_37 : decode cX9_sound 37 = .ok (.iconst 0, 1) := by decide +kernel
theorem dX9_sound_38 : decode cX9_sound 38 = .ok (.istore 8, 2) := by decide +kernel
theorem dX9_sound_40 : decode cX9_sound 40 = .ok (.iload 8, 2) := by decide +kernel
theorem dX9_sound_42 : decode cX9_sound 42 = .ok (.iload_n 2, 1) := by decide +kernel
theorem dX9_sound_43 : decode cX9_sound 43 = .ok (.if_icmp .ge 27, 3) := by decide +kernel
theorem dX9_sound_46 : decode cX9_sound 46 = .ok (.lload 4, 2) := by decide +kernel
theorem dX9_sound_48 : decode cX9_sound 48 = .ok (.bipush 10, 2) := by decide +kernel
theorem dX9_sound_50 : decode cX9_sound 50 = .ok (.iload_n 3, 1) := by decide +kernel
theorem dX9_sound_51 : decode cX9_sound 51 = .ok (.isub, 1) := by decide +kernel
theorem dX9_sound_52 : decode cX9_sound 52 = .ok (.i2l, 1) := by decide +kernel
theorem dX9_sound_53 : decode cX9_sound 53 = .ok (.lmul, 1) := by decide +kernel
theorem dX9_sound_54 : decode cX9_sound 54 = .ok (.lstore 4, 2) := by decide +kernel
theorem dX9_sound_56 : decode cX9_sound 56 = .ok (.lload 6, 2) := by decide +kernel
theorem dX9_sound_58 : decode cX9_sound 58 = .ok (.ldc2_w 378, 3) := by decide +kernel
theorem dX9_sound_61 : decode cX9_sound 61 = .ok (.lmul, 1) := by decide +kernel
theorem dX9_sound_62 : decode cX9_sound 62 = .ok (.lstore 6, 2) := by decide +kernel
theorem dX9_sound_64 : decode cX9_sound 64 = .ok (.iinc 8 1, 3) := by decide +kernel
theorem dX9_sound_67 : decode cX9_sound 67 = .ok (.goto (-27), 3) := by decide +kernel
theorem dX9_sound_70 : decode cX9_sound 70 = .ok (.aload_n 0, 1) := by decide +kernel
theorem dX9_sound_71 : decode cX9_sound 71 = .ok (.lload 4, 2) := by decide +kernel
theorem dX9_sound_73 : decode cX9_sound 73 = .ok (.lload 6, 2) := by decide +kernel
theorem dX9_sound_75 : decode cX9_sound 75 = .ok (.invokevirtual 380, 3) := by decide +kernel
theorem dX9_sound_78 : decode cX9_sound 78 = .ok (.iconst 0, 1) := by decide +kernel
theorem dX9_sound_79 : decode cX9_sound 79 = .ok (.ireturn, 1) := by decide +kernel
theorem dX9_finds_0 : decode cX9_finds 0 = .ok (.iload_n 1, 1) := by decide +kernel
theorem dX9_finds_1 : decode cX9_finds 1 = .ok (.iconst 1, 1) := by decide +kernel
theorem dX9_finds_2 : decode cX9_finds 2 = .ok (.bipush 30, 2) := by decide +kernel
