theorem d_C_init_0 : decode b_C_init 0 = .ok (.aload_n 0, 1) := by decide +kernel
theorem d_C_init_1 : decode b_C_init 1 = .ok (.invokespecial 3, 3) := by decide +kernel
theorem d_C_init_4 : decode b_C_init 4 = .ok (.aload_n 0, 1) := by decide +kernel
theorem d_C_init_5 : decode b_C_init 5 = .ok (.iconst 4, 1) := by decide +kernel
theorem d_C_init_6 : decode b_C_init 6 = .ok (.anewarray 9, 3) := by decide +kernel
theorem d_C_init_9 : decode b_C_init 9 = .ok (.putfield 11, 3) := by decide +kernel
theorem d_C_init_12 : decode b_C_init 12 = .ok (.aload_n 0, 1) := by decide +kernel
theorem d_C_init_13 : decode b_C_init 13 = .ok (.bipush 8, 2) := by decide +kernel
theorem d_C_init_15 : decode b_C_init 15 = .ok (.anewarray 15, 3) := by decide +kernel
theorem d_C_init_18 : decode b_C_init 18 = .ok (.putfield 17, 3) := by decide +kernel
theorem d_C_init_21 : decode b_C_init 21 = .ok (.aload_n 0, 1) := by decide +kernel
theorem d_C_init_22 : decode b_C_init 22 = .ok (.iconst 3, 1) := by decide +kernel
theorem d_C_init_23 : decode b_C_init 23 = .ok (.anewarray 21, 3) := by decide +kernel
theorem d_C_init_26 : decode b_C_init 26 = .ok (.putfield 23, 3) := by decide +kernel
theorem d_C_init_29 : decode b_C_init 29 = .ok (.aload_n 0, 1) := by decide +kernel
theorem d_C_init_30 : decode b_C_init 30 = .ok (.bipush 8, 2) := by decide +kernel
theorem d_C_init_32 : decode b_C_init 32 = .ok (.anewarray 27, 3) := by decide +kernel
theorem d_C_init_35 : decode b_C_init 35 = .ok (.putfield 29, 3) := by decide +kernel
theorem d_C_init_38 : decode b_C_init 38 = .ok (.aload_n 0, 1) := by decide +kernel
theorem d_C_init_39 : decode b_C_init 39 = .ok (.bipush 32, 2) := by decide +kernel
theorem d_C_init_41 : decode b_C_init 41 = .ok (.newarray .int, 2) := by decide +kernel
theorem d_C_init_43 : decode b_C_init 43 = .ok (.putfield 33, 3) := by decide +kernel
theorem d_C_init_46 : decode b_C_init 46 = .ok (.iconst 0, 1) := by decide +kernel
theorem d_C_init_47 : decode b_C_init 47 = .ok (.istore_n 1, 1) := by decide +kernel
theorem d_C_init_48 : decode b_C_init 48 = .ok (.iload_n 1, 1) := by decide +kernel
theorem d_C_init_49 : decode b_C_init 49 = .ok (.iconst 4, 1) := by decide +kernel
theorem d_C_init_50 : decode b_C_init 50 = .ok (.if_icmp .ge 22, 3) := by decide +kernel
theorem d_C_init_53 : decode b_C_init 53 = .ok (.aload_n 0, 1) := by decide +kernel
theorem d_C_init_54 : decode b_C_init 54 = .ok (.getfield 11, 3) := by decide +kernel
theorem d_C_init_57 : decode b_C_init 57 = .ok (.iload_n 1, 1) := by decide +kernel
theorem d_C_init_58 : decode b_C_init 58 = .ok (.new 9, 3) := by decide +kernel
theorem d_C_init_61 : decode b_C_init 61 = .ok (.dup, 1) := by decide +kernel
theorem d_C_init_62 : decode b_C_init 62 = .ok (.invokespecial 37, 3) := by decide +kernel
theorem d_C_init_65 : decode b_C_init 65 = .ok (.aastore, 1) := by decide +kernel
theorem d_C_init_66 : decode b_C_init 66 = .ok (.iinc 1 1, 3) := by decide +kernel
theorem d_C_init_69 : decode b_C_init 69 = .ok (.goto (-21), 3) := by decide +kernel
theorem d_C_init_72 : decode b_C_init 72 = .ok (.iconst 0, 1) := by decide +kernel
theorem d_C_init_73 : decode b_C_init 73 = .ok (.istore_n 1, 1) := by decide +kernel
theorem d_C_init_74 : decode b_C_init 74 = .ok (.iload_n 1, 1) := by decide +kernel
theorem d_C_init_75 : decode b_C_init 75 = .ok (.iconst 3, 1) := by decide +kernel
theorem d_C_init_76 : decode b_C_init 76 = .ok (.if_icmp .ge 22, 3) := by decide +kernel
theorem d_C_init_79 : decode b_C_init 79 = .ok (.aload_n 0, 1) := by decide +kernel
theorem d_C_init_80 : decode b_C_init 80 = .ok (.getfield 23, 3) := by decide +kernel
theorem d_C_init_83 : decode b_C_init 83 = .ok (.iload_n 1, 1) := by decide +kernel
theorem d_C_init_84 : decode b_C_init 84 = .ok (.new 21, 3) := by decide +kernel
theorem d_C_init_87 : decode b_C_init 87 = .ok (.dup, 1) := by decide +kernel
theorem d_C_init_88 : decode b_C_init 88 = .ok (.invokespecial 38, 3) := by decide +kernel
theorem d_C_init_91 : decode b_C_init 91 = .ok (.aastore, 1) := by decide +kernel
theorem d_C_init_92 : decode b_C_init 92 = .ok (.iinc 1 1, 3) := by decide +kernel
theorem d_C_init_95 : decode b_C_init 95 = .ok (.goto (-21), 3) := by decide +kernel
theorem d_C_init_98 : decode b_C_init 98 = .ok (.iconst 0, 1) := by decide +kernel
theorem d_C_init_99 : decode b_C_init 99 = .ok (.istore_n 1, 1) := by decide +kernel
theorem d_C_init_100 : decode b_C_init 100 = .ok (.iload_n 1, 1) := by decide +kernel
theorem d_C_init_101 : decode b_C_init 101 = .ok (.bipush 8, 2) := by decide +kernel
theorem d_C_init_103 : decode b_C_init 103 = .ok (.if_icmp .ge 22, 3) := by decide +kernel
theorem d_C_init_106 : decode b_C_init 106 = .ok (.aload_n 0, 1) := by decide +kernel
theorem d_C_init_107 : decode b_C_init 107 = .ok (.getfield 29, 3) := by decide +kernel
theorem d_C_init_110 : decode b_C_init 110 = .ok (.iload_n 1, 1) := by decide +kernel
theorem d_C_init_111 : decode b_C_init 111 = .ok (.new 27, 3) := by decide +kernel
theorem d_C_init_114 : decode b_C_init 114 = .ok (.dup, 1) := by decide +kernel
theorem d_C_init_115 : decode b_C_init 115 = .ok (.invokespecial 39, 3) := by decide +kernel
theorem d_C_init_118 : decode b_C_init 118 = .ok (.aastore, 1) := by decide +kernel
theorem d_C_init_119 : decode b_C_init 119 = .ok (.iinc 1 1, 3) := by decide +kernel
theorem d_C_init_122 : decode b_C_init 122 = .ok (.goto (-22), 3) := by decide +kernel
theorem d_C_init_125 : decode b_C_init 125 = .ok (.return_, 1) := by decide +kernel
theorem d_C_instr_0 : decode b_C_instr 0 = .ok (.iload_n 1, 1) := by decide +kernel
theorem d_C_instr_1 : decode b_C_instr 1 = .ok (.iconst 4, 1) := by decide +kernel
theorem d_C_instr_2 : decode b_C_instr 2 = .ok (.invokestatic 40, 3) := by decide +kernel
theorem d_C_instr_5 : decode b_C_instr 5 = .ok (.ifCond .eq 29, 3) := by decide +kernel
theorem d_C_instr_8 : decode b_C_instr 8 = .ok (.iload_n 2, 1) := by decide +kernel
theorem d_C_instr_9 : decode b_C_instr 9 = .ok (.bipush 13, 2) := by decide +kernel
theorem d_C_instr_11 : decode b_C_instr 11 = .ok (.invokestatic 40, 3) := by decide +kernel
theorem d_C_instr_14 : decode b_C_instr 14 = .ok (.ifCond .eq 20, 3) := by decide +kernel
theorem d_C_instr_17 : decode b_C_instr 17 = .ok (.iload_n 3, 1) := by decide +kernel
theorem d_C_instr_18 : decode b_C_instr 18 = .ok (.iconst 4, 1) := by decide +kernel
theorem d_C_instr_19 : decode b_C_instr 19 = .ok (.invokestatic 40, 3) := by decide +kernel
theorem d_C_instr_22 : decode b_C_instr 22 = .ok (.ifCond .eq 12, 3) := by decide +kernel
theorem d_C_instr_25 : decode b_C_instr 25 = .ok (.iload_n 2, 1) := by decide +kernel
theorem d_C_instr_26 : decode b_C_instr 26 = .ok (.iload 4, 2) := by decide +kernel
theorem d_C_instr_28 : decode b_C_instr 28 = .ok (.invokestatic 44, 3) := by decide +kernel
theorem d_C_instr_31 : decode b_C_instr 31 = .ok (.ifCond .ne 5, 3) := by decide +kernel
theorem d_C_instr_34 : decode b_C_instr 34 = .ok (.iconst (-1), 1) := by decide +kernel
theorem d_C_instr_35 : decode b_C_instr 35 = .ok (.ireturn, 1) := by decide +kernel
theorem d_C_instr_36 : decode b_C_instr 36 = .ok (.aload_n 0, 1) := by decide +kernel
theorem d_C_instr_37 : decode b_C_instr 37 = .ok (.getfield 11, 3) := by decide +kernel
theorem d_C_instr_40 : decode b_C_instr 40 = .ok (.iload_n 1, 1) := by decide +kernel
theorem d_C_instr_41 : decode b_C_instr 41 = .ok (.aaload, 1) := by decide +kernel
theorem d_C_instr_42 : decode b_C_instr 42 = .ok (.astore 5, 2) := by decide +kernel
theorem d_C_instr_44 : decode b_C_instr 44 = .ok (.aload 5, 2) := by decide +kernel
theorem d_C_instr_46 : decode b_C_instr 46 = .ok (.getfield 47, 3) := by decide +kernel
theorem d_C_instr_49 : decode b_C_instr 49 = .ok (.bipush 12, 2) := by decide +kernel
theorem d_C_instr_51 : decode b_C_instr 51 = .ok (.if_icmp .ne 6, 3) := by decide +kernel
theorem d_C_instr_54 : decode b_C_instr 54 = .ok (.bipush (-2), 2) := by decide +kernel
theorem d_C_instr_56 : decode b_C_instr 56 = .ok (.ireturn, 1) := by decide +kernel
theorem d_C_instr_57 : decode b_C_instr 57 = .ok (.aload 5, 2) := by decide +kernel
theorem d_C_instr_59 : decode b_C_instr 59 = .ok (.iload_n 2, 1) := by decide +kernel
theorem d_C_instr_60 : decode b_C_instr 60 = .ok (.iload_n 3, 1) := by decide +kernel
theorem d_C_instr_61 : decode b_C_instr 61 = .ok (.iload 4, 2) := by decide +kernel
theorem d_C_instr_63 : decode b_C_instr 63 = .ok (.invokevirtual 51, 3) := by decide +kernel
theorem d_C_instr_66 : decode b_C_instr 66 = .ok (.aload 5, 2) := by decide +kernel
theorem d_C_instr_68 : decode b_C_instr 68 = .ok (.getfield 47, 3) := by decide +kernel
theorem d_C_instr_71 : decode b_C_instr 71 = .ok (.ireturn, 1) := by decide +kernel
theorem d_C_spawn_0 : decode b_C_spawn 0 = .ok (.iload_n 1, 1) := by decide +kernel
theorem d_C_spawn_1 : decode b_C_spawn 1 = .ok (.iconst 4, 1) := by decide +kernel
theorem d_C_spawn_2 : decode b_C_spawn 2 = .ok (.invokestatic 40, 3) := by decide +kernel
theorem d_C_spawn_5 : decode b_C_spawn 5 = .ok (.ifCond .eq 11, 3) := by decide +kernel
theorem d_C_spawn_8 : decode b_C_spawn 8 = .ok (.iload_n 2, 1) := by decide +kernel
theorem d_C_spawn_9 : decode b_C_spawn 9 = .ok (.iconst 3, 1) := by decide +kernel
theorem d_C_spawn_10 : decode b_C_spawn 10 = .ok (.invokestatic 40, 3) := by decide +kernel
theorem d_C_spawn_13 : decode b_C_spawn 13 = .ok (.ifCond .ne 5, 3) := by decide +kernel
theorem d_C_spawn_16 : decode b_C_spawn 16 = .ok (.iconst (-1), 1) := by decide +kernel
theorem d_C_spawn_17 : decode b_C_spawn 17 = .ok (.ireturn, 1) := by decide +kernel
theorem d_C_spawn_18 : decode b_C_spawn 18 = .ok (.aload_n 0, 1) := by decide +kernel
theorem d_C_spawn_19 : decode b_C_spawn 19 = .ok (.getfield 55, 3) := by decide +kernel
theorem d_C_spawn_22 : decode b_C_spawn 22 = .ok (.bipush 8, 2) := by decide +kernel
theorem d_C_spawn_24 : decode b_C_spawn 24 = .ok (.if_icmp .ne 8, 3) := by decide +kernel
theorem d_C_spawn_27 : decode b_C_spawn 27 = .ok (.bipush (-2), 2) := by decide +kernel
theorem d_C_spawn_29 : decode b_C_spawn 29 = .ok (.goto 9, 3) := by decide +kernel
theorem d_C_spawn_32 : decode b_C_spawn 32 = .ok (.aload_n 0, 1) := by decide +kernel
theorem d_C_spawn_33 : decode b_C_spawn 33 = .ok (.iload_n 1, 1) := by decide +kernel
theorem d_C_spawn_34 : decode b_C_spawn 34 = .ok (.iload_n 2, 1) := by decide +kernel
theorem d_C_spawn_35 : decode b_C_spawn 35 = .ok (.invokevirtual 58, 3) := by decide +kernel
theorem d_C_spawn_38 : decode b_C_spawn 38 = .ok (.ireturn, 1) := by decide +kernel
theorem d_C_step_0 : decode b_C_step 0 = .ok (.iload_n 1, 1) := by decide +kernel
theorem d_C_step_1 : decode b_C_step 1 = .ok (.iconst 3, 1) := by decide +kernel
theorem d_C_step_2 : decode b_C_step 2 = .ok (.invokestatic 40, 3) := by decide +kernel
theorem d_C_step_5 : decode b_C_step 5 = .ok (.ifCond .ne 5, 3) := by decide +kernel
theorem d_C_step_8 : decode b_C_step 8 = .ok (.iconst (-1), 1) := by decide +kernel
theorem d_C_step_9 : decode b_C_step 9 = .ok (.ireturn, 1) := by decide +kernel
theorem d_C_step_10 : decode b_C_step 10 = .ok (.aload_n 0, 1) := by decide +kernel
theorem d_C_step_11 : decode b_C_step 11 = .ok (.getfield 23, 3) := by decide +kernel
theorem d_C_step_14 : decode b_C_step 14 = .ok (.iload_n 1, 1) := by decide +kernel
theorem d_C_step_15 : decode b_C_step 15 = .ok (.aaload, 1) := by decide +kernel
theorem d_C_step_16 : decode b_C_step 16 = .ok (.getfield 62, 3) := by decide +kernel
theorem d_C_step_19 : decode b_C_step 19 = .ok (.ifCond .ne 6, 3) := by decide +kernel
theorem d_C_step_22 : decode b_C_step 22 = .ok (.bipush (-3), 2) := by decide +kernel
theorem d_C_step_24 : decode b_C_step 24 = .ok (.ireturn, 1) := by decide +kernel
theorem d_C_step_25 : decode b_C_step 25 = .ok (.aload_n 0, 1) := by decide +kernel
theorem d_C_step_26 : decode b_C_step 26 = .ok (.getfield 17, 3) := by decide +kernel
theorem d_C_step_29 : decode b_C_step 29 = .ok (.aload_n 0, 1) := by decide +kernel
theorem d_C_step_30 : decode b_C_step 30 = .ok (.getfield 23, 3) := by decide +kernel
theorem d_C_step_33 : decode b_C_step 33 = .ok (.iload_n 1, 1) := by decide +kernel
theorem d_C_step_34 : decode b_C_step 34 = .ok (.aaload, 1) := by decide +kernel
theorem d_C_step_35 : decode b_C_step 35 = .ok (.getfield 63, 3) := by decide +kernel
theorem d_C_step_38 : decode b_C_step 38 = .ok (.iconst 0, 1) := by decide +kernel
theorem d_C_step_39 : decode b_C_step 39 = .ok (.iaload, 1) := by decide +kernel
theorem d_C_step_40 : decode b_C_step 40 = .ok (.aaload, 1) := by decide +kernel
theorem d_C_step_41 : decode b_C_step 41 = .ok (.astore_n 2, 1) := by decide +kernel
theorem d_C_step_42 : decode b_C_step 42 = .ok (.aload_n 0, 1) := by decide +kernel
theorem d_C_step_43 : decode b_C_step 43 = .ok (.aload_n 2, 1) := by decide +kernel
theorem d_C_step_44 : decode b_C_step 44 = .ok (.invokevirtual 66, 3) := by decide +kernel
theorem d_C_step_47 : decode b_C_step 47 = .ok (.bipush 10, 2) := by decide +kernel
theorem d_C_step_49 : decode b_C_step 49 = .ok (.aload_n 2, 1) := by decide +kernel
theorem d_C_step_50 : decode b_C_step 50 = .ok (.getfield 70, 3) := by decide +kernel
theorem d_C_step_53 : decode b_C_step 53 = .ok (.iconst 1, 1) := by decide +kernel
theorem d_C_step_54 : decode b_C_step 54 = .ok (.isub, 1) := by decide +kernel
theorem d_C_step_55 : decode b_C_step 55 = .ok (.imul, 1) := by decide +kernel
theorem d_C_step_56 : decode b_C_step 56 = .ok (.aload_n 2, 1) := by decide +kernel
theorem d_C_step_57 : decode b_C_step 57 = .ok (.getfield 73, 3) := by decide +kernel
theorem d_C_step_60 : decode b_C_step 60 = .ok (.iadd, 1) := by decide +kernel
theorem d_C_step_61 : decode b_C_step 61 = .ok (.ireturn, 1) := by decide +kernel
theorem d_C_serve_0 : decode b_C_serve 0 = .ok (.iload_n 1, 1) := by decide +kernel
theorem d_C_serve_1 : decode b_C_serve 1 = .ok (.bipush 8, 2) := by decide +kernel
theorem d_C_serve_3 : decode b_C_serve 3 = .ok (.invokestatic 40, 3) := by decide +kernel
theorem d_C_serve_6 : decode b_C_serve 6 = .ok (.ifCond .ne 5, 3) := by decide +kernel
theorem d_C_serve_9 : decode b_C_serve 9 = .ok (.iconst (-1), 1) := by decide +kernel
theorem d_C_serve_10 : decode b_C_serve 10 = .ok (.ireturn, 1) := by decide +kernel
theorem d_C_serve_11 : decode b_C_serve 11 = .ok (.aload_n 0, 1) := by decide +kernel
theorem d_C_serve_12 : decode b_C_serve 12 = .ok (.getfield 29, 3) := by decide +kernel
theorem d_C_serve_15 : decode b_C_serve 15 = .ok (.iload_n 1, 1) := by decide +kernel
theorem d_C_serve_16 : decode b_C_serve 16 = .ok (.aaload, 1) := by decide +kernel
theorem d_C_serve_17 : decode b_C_serve 17 = .ok (.getfield 76, 3) := by decide +kernel
theorem d_C_serve_20 : decode b_C_serve 20 = .ok (.astore_n 2, 1) := by decide +kernel
theorem d_C_serve_21 : decode b_C_serve 21 = .ok (.aload_n 2, 1) := by decide +kernel
theorem d_C_serve_22 : decode b_C_serve 22 = .ok (.getfield 62, 3) := by decide +kernel
theorem d_C_serve_25 : decode b_C_serve 25 = .ok (.istore_n 3, 1) := by decide +kernel
theorem d_C_serve_26 : decode b_C_serve 26 = .ok (.iconst 0, 1) := by decide +kernel
theorem d_C_serve_27 : decode b_C_serve 27 = .ok (.istore 4, 2) := by decide +kernel
theorem d_C_serve_29 : decode b_C_serve 29 = .ok (.iload 4, 2) := by decide +kernel
theorem d_C_serve_31 : decode b_C_serve 31 = .ok (.iload_n 3, 1) := by decide +kernel
theorem d_C_serve_32 : decode b_C_serve 32 = .ok (.if_icmp .ge 58, 3) := by decide +kernel
theorem d_C_serve_35 : decode b_C_serve 35 = .ok (.aload_n 0, 1) := by decide +kernel
theorem d_C_serve_36 : decode b_C_serve 36 = .ok (.getfield 17, 3) := by decide +kernel
theorem d_C_serve_39 : decode b_C_serve 39 = .ok (.aload_n 2, 1) := by decide +kernel
theorem d_C_serve_40 : decode b_C_serve 40 = .ok (.getfield 63, 3) := by decide +kernel
theorem d_C_serve_43 : decode b_C_serve 43 = .ok (.iconst 0, 1) := by decide +kernel
theorem d_C_serve_44 : decode b_C_serve 44 = .ok (.iaload, 1) := by decide +kernel
theorem d_C_serve_45 : decode b_C_serve 45 = .ok (.aaload, 1) := by decide +kernel
theorem d_C_serve_46 : decode b_C_serve 46 = .ok (.astore 5, 2) := by decide +kernel
theorem d_C_serve_48 : decode b_C_serve 48 = .ok (.aload_n 2, 1) := by decide +kernel
theorem d_C_serve_49 : decode b_C_serve 49 = .ok (.aload 5, 2) := by decide +kernel
theorem d_C_serve_51 : decode b_C_serve 51 = .ok (.getfield 73, 3) := by decide +kernel
theorem d_C_serve_54 : decode b_C_serve 54 = .ok (.invokevirtual 80, 3) := by decide +kernel
theorem d_C_serve_57 : decode b_C_serve 57 = .ok (.aload 5, 2) := by decide +kernel
theorem d_C_serve_59 : decode b_C_serve 59 = .ok (.getfield 70, 3) := by decide +kernel
theorem d_C_serve_62 : decode b_C_serve 62 = .ok (.iconst 4, 1) := by decide +kernel
theorem d_C_serve_63 : decode b_C_serve 63 = .ok (.if_icmp .eq 21, 3) := by decide +kernel
theorem d_C_serve_66 : decode b_C_serve 66 = .ok (.aload_n 0, 1) := by decide +kernel
theorem d_C_serve_67 : decode b_C_serve 67 = .ok (.aload_n 0, 1) := by decide +kernel
theorem d_C_serve_68 : decode b_C_serve 68 = .ok (.getfield 29, 3) := by decide +kernel
theorem d_C_serve_71 : decode b_C_serve 71 = .ok (.iload_n 1, 1) := by decide +kernel
theorem d_C_serve_72 : decode b_C_serve 72 = .ok (.aaload, 1) := by decide +kernel
theorem d_C_serve_73 : decode b_C_serve 73 = .ok (.aload 5, 2) := by decide +kernel
theorem d_C_serve_75 : decode b_C_serve 75 = .ok (.invokevirtual 84, 3) := by decide +kernel
theorem d_C_serve_78 : decode b_C_serve 78 = .ok (.aload 5, 2) := by decide +kernel
theorem d_C_serve_80 : decode b_C_serve 80 = .ok (.getfield 73, 3) := by decide +kernel
theorem d_C_serve_83 : decode b_C_serve 83 = .ok (.ireturn, 1) := by decide +kernel
theorem d_C_serve_84 : decode b_C_serve 84 = .ok (.iinc 4 1, 3) := by decide +kernel
theorem d_C_serve_87 : decode b_C_serve 87 = .ok (.goto (-58), 3) := by decide +kernel
theorem d_C_serve_90 : decode b_C_serve 90 = .ok (.bipush (-3), 2) := by decide +kernel
theorem d_C_serve_92 : decode b_C_serve 92 = .ok (.ireturn, 1) := by decide +kernel
theorem d_C_migrate_0 : decode b_C_migrate 0 = .ok (.iload_n 1, 1) := by decide +kernel
theorem d_C_migrate_1 : decode b_C_migrate 1 = .ok (.aload_n 0, 1) := by decide +kernel
theorem d_C_migrate_2 : decode b_C_migrate 2 = .ok (.getfield 55, 3) := by decide +kernel
theorem d_C_migrate_5 : decode b_C_migrate 5 = .ok (.invokestatic 40, 3) := by decide +kernel
theorem d_C_migrate_8 : decode b_C_migrate 8 = .ok (.ifCond .eq 11, 3) := by decide +kernel
theorem d_C_migrate_11 : decode b_C_migrate 11 = .ok (.iload_n 2, 1) := by decide +kernel
theorem d_C_migrate_12 : decode b_C_migrate 12 = .ok (.iconst 3, 1) := by decide +kernel
theorem d_C_migrate_13 : decode b_C_migrate 13 = .ok (.invokestatic 40, 3) := by decide +kernel
theorem d_C_migrate_16 : decode b_C_migrate 16 = .ok (.ifCond .ne 5, 3) := by decide +kernel
theorem d_C_migrate_19 : decode b_C_migrate 19 = .ok (.iconst (-1), 1) := by decide +kernel
theorem d_C_migrate_20 : decode b_C_migrate 20 = .ok (.ireturn, 1) := by decide +kernel
theorem d_C_migrate_21 : decode b_C_migrate 21 = .ok (.aload_n 0, 1) := by decide +kernel
theorem d_C_migrate_22 : decode b_C_migrate 22 = .ok (.getfield 17, 3) := by decide +kernel
theorem d_C_migrate_25 : decode b_C_migrate 25 = .ok (.iload_n 1, 1) := by decide +kernel
theorem d_C_migrate_26 : decode b_C_migrate 26 = .ok (.aaload, 1) := by decide +kernel
theorem d_C_migrate_27 : decode b_C_migrate 27 = .ok (.astore_n 3, 1) := by decide +kernel
theorem d_C_migrate_28 : decode b_C_migrate 28 = .ok (.aload_n 3, 1) := by decide +kernel
theorem d_C_migrate_29 : decode b_C_migrate 29 = .ok (.getfield 70, 3) := by decide +kernel
theorem d_C_migrate_32 : decode b_C_migrate 32 = .ok (.iconst 4, 1) := by decide +kernel
theorem d_C_migrate_33 : decode b_C_migrate 33 = .ok (.if_icmp .eq 11, 3) := by decide +kernel
theorem d_C_migrate_36 : decode b_C_migrate 36 = .ok (.aload_n 3, 1) := by decide +kernel
theorem d_C_migrate_37 : decode b_C_migrate 37 = .ok (.getfield 88, 3) := by decide +kernel
theorem d_C_migrate_40 : decode b_C_migrate 40 = .ok (.iload_n 2, 1) := by decide +kernel
theorem d_C_migrate_41 : decode b_C_migrate 41 = .ok (.if_icmp .ne 5, 3) := by decide +kernel
theorem d_C_migrate_44 : decode b_C_migrate 44 = .ok (.iconst (-1), 1) := by decide +kernel
theorem d_C_migrate_45 : decode b_C_migrate 45 = .ok (.ireturn, 1) := by decide +kernel
theorem d_C_migrate_46 : decode b_C_migrate 46 = .ok (.aload_n 3, 1) := by decide +kernel
theorem d_C_migrate_47 : decode b_C_migrate 47 = .ok (.getfield 88, 3) := by decide +kernel
theorem d_C_migrate_50 : decode b_C_migrate 50 = .ok (.istore 4, 2) := by decide +kernel
theorem d_C_migrate_52 : decode b_C_migrate 52 = .ok (.aload_n 0, 1) := by decide +kernel
theorem d_C_migrate_53 : decode b_C_migrate 53 = .ok (.getfield 23, 3) := by decide +kernel
theorem d_C_migrate_56 : decode b_C_migrate 56 = .ok (.iload 4, 2) := by decide +kernel
theorem d_C_migrate_58 : decode b_C_migrate 58 = .ok (.aaload, 1) := by decide +kernel
theorem d_C_migrate_59 : decode b_C_migrate 59 = .ok (.iload_n 1, 1) := by decide +kernel
theorem d_C_migrate_60 : decode b_C_migrate 60 = .ok (.invokevirtual 80, 3) := by decide +kernel
theorem d_C_migrate_63 : decode b_C_migrate 63 = .ok (.aload_n 3, 1) := by decide +kernel
theorem d_C_migrate_64 : decode b_C_migrate 64 = .ok (.iload_n 2, 1) := by decide +kernel
theorem d_C_migrate_65 : decode b_C_migrate 65 = .ok (.putfield 88, 3) := by decide +kernel
theorem d_C_migrate_68 : decode b_C_migrate 68 = .ok (.aload_n 3, 1) := by decide +kernel
theorem d_C_migrate_69 : decode b_C_migrate 69 = .ok (.getfield 91, 3) := by decide +kernel
theorem d_C_migrate_72 : decode b_C_migrate 72 = .ok (.iload 4, 2) := by decide +kernel
theorem d_C_migrate_74 : decode b_C_migrate 74 = .ok (.iload_n 2, 1) := by decide +kernel
theorem d_C_migrate_75 : decode b_C_migrate 75 = .ok (.iastore, 1) := by decide +kernel
theorem d_C_migrate_76 : decode b_C_migrate 76 = .ok (.aload_n 3, 1) := by decide +kernel
theorem d_C_migrate_77 : decode b_C_migrate 77 = .ok (.getfield 91, 3) := by decide +kernel
theorem d_C_migrate_80 : decode b_C_migrate 80 = .ok (.iload_n 2, 1) := by decide +kernel
theorem d_C_migrate_81 : decode b_C_migrate 81 = .ok (.iload_n 2, 1) := by decide +kernel
theorem d_C_migrate_82 : decode b_C_migrate 82 = .ok (.iastore, 1) := by decide +kernel
theorem d_C_migrate_83 : decode b_C_migrate 83 = .ok (.aload_n 3, 1) := by decide +kernel
theorem d_C_migrate_84 : decode b_C_migrate 84 = .ok (.getfield 70, 3) := by decide +kernel
theorem d_C_migrate_87 : decode b_C_migrate 87 = .ok (.iconst 1, 1) := by decide +kernel
theorem d_C_migrate_88 : decode b_C_migrate 88 = .ok (.if_icmp .ne 8, 3) := by decide +kernel
theorem d_C_migrate_91 : decode b_C_migrate 91 = .ok (.aload_n 0, 1) := by decide +kernel
theorem d_C_migrate_92 : decode b_C_migrate 92 = .ok (.aload_n 3, 1) := by decide +kernel
theorem d_C_migrate_93 : decode b_C_migrate 93 = .ok (.invokevirtual 94, 3) := by decide +kernel
theorem d_C_migrate_96 : decode b_C_migrate 96 = .ok (.iload 4, 2) := by decide +kernel
theorem d_C_migrate_98 : decode b_C_migrate 98 = .ok (.ireturn, 1) := by decide +kernel
theorem d_C_find_0 : decode b_C_find 0 = .ok (.iload_n 1, 1) := by decide +kernel
theorem d_C_find_1 : decode b_C_find 1 = .ok (.iconst 3, 1) := by decide +kernel
theorem d_C_find_2 : decode b_C_find 2 = .ok (.invokestatic 40, 3) := by decide +kernel
theorem d_C_find_5 : decode b_C_find 5 = .ok (.ifCond .eq 14, 3) := by decide +kernel
theorem d_C_find_8 : decode b_C_find 8 = .ok (.iload_n 2, 1) := by decide +kernel
theorem d_C_find_9 : decode b_C_find 9 = .ok (.aload_n 0, 1) := by decide +kernel
theorem d_C_find_10 : decode b_C_find 10 = .ok (.getfield 55, 3) := by decide +kernel
theorem d_C_find_13 : decode b_C_find 13 = .ok (.invokestatic 40, 3) := by decide +kernel
theorem d_C_find_16 : decode b_C_find 16 = .ok (.ifCond .ne 5, 3) := by decide +kernel
theorem d_C_find_19 : decode b_C_find 19 = .ok (.iconst (-1), 1) := by decide +kernel
theorem d_C_find_20 : decode b_C_find 20 = .ok (.ireturn, 1) := by decide +kernel
theorem d_C_find_21 : decode b_C_find 21 = .ok (.aload_n 0, 1) := by decide +kernel
theorem d_C_find_22 : decode b_C_find 22 = .ok (.getfield 17, 3) := by decide +kernel
theorem d_C_find_25 : decode b_C_find 25 = .ok (.iload_n 2, 1) := by decide +kernel
theorem d_C_find_26 : decode b_C_find 26 = .ok (.aaload, 1) := by decide +kernel
theorem d_C_find_27 : decode b_C_find 27 = .ok (.astore_n 3, 1) := by decide +kernel
theorem d_C_find_28 : decode b_C_find 28 = .ok (.iload_n 1, 1) := by decide +kernel
theorem d_C_find_29 : decode b_C_find 29 = .ok (.istore 4, 2) := by decide +kernel
theorem d_C_find_31 : decode b_C_find 31 = .ok (.iconst 0, 1) := by decide +kernel
theorem d_C_find_32 : decode b_C_find 32 = .ok (.istore 5, 2) := by decide +kernel
theorem d_C_find_34 : decode b_C_find 34 = .ok (.iload 4, 2) := by decide +kernel
theorem d_C_find_36 : decode b_C_find 36 = .ok (.aload_n 3, 1) := by decide +kernel
theorem d_C_find_37 : decode b_C_find 37 = .ok (.getfield 88, 3) := by decide +kernel
theorem d_C_find_40 : decode b_C_find 40 = .ok (.if_icmp .eq 39, 3) := by decide +kernel
theorem d_C_find_43 : decode b_C_find 43 = .ok (.iload 5, 2) := by decide +kernel
theorem d_C_find_45 : decode b_C_find 45 = .ok (.iconst 3, 1) := by decide +kernel
theorem d_C_find_46 : decode b_C_find 46 = .ok (.if_icmp .ge 33, 3) := by decide +kernel
theorem d_C_find_49 : decode b_C_find 49 = .ok (.aload_n 3, 1) := by decide +kernel
theorem d_C_find_50 : decode b_C_find 50 = .ok (.getfield 91, 3) := by decide +kernel
theorem d_C_find_53 : decode b_C_find 53 = .ok (.iload 4, 2) := by decide +kernel
theorem d_C_find_55 : decode b_C_find 55 = .ok (.iaload, 1) := by decide +kernel
theorem d_C_find_56 : decode b_C_find 56 = .ok (.istore 6, 2) := by decide +kernel
theorem d_C_find_58 : decode b_C_find 58 = .ok (.aload_n 3, 1) := by decide +kernel
theorem d_C_find_59 : decode b_C_find 59 = .ok (.getfield 91, 3) := by decide +kernel
theorem d_C_find_62 : decode b_C_find 62 = .ok (.iload 4, 2) := by decide +kernel
theorem d_C_find_64 : decode b_C_find 64 = .ok (.aload_n 3, 1) := by decide +kernel
theorem d_C_find_65 : decode b_C_find 65 = .ok (.getfield 88, 3) := by decide +kernel
theorem d_C_find_68 : decode b_C_find 68 = .ok (.iastore, 1) := by decide +kernel
theorem d_C_find_69 : decode b_C_find 69 = .ok (.iload 6, 2) := by decide +kernel
theorem d_C_find_71 : decode b_C_find 71 = .ok (.istore 4, 2) := by decide +kernel
theorem d_C_find_73 : decode b_C_find 73 = .ok (.iinc 5 1, 3) := by decide +kernel
theorem d_C_find_76 : decode b_C_find 76 = .ok (.goto (-42), 3) := by decide +kernel
theorem d_C_find_79 : decode b_C_find 79 = .ok (.iload 5, 2) := by decide +kernel
theorem d_C_find_81 : decode b_C_find 81 = .ok (.ireturn, 1) := by decide +kernel
theorem d_C_reg_0 : decode b_C_reg 0 = .ok (.iload_n 1, 1) := by decide +kernel
theorem d_C_reg_1 : decode b_C_reg 1 = .ok (.aload_n 0, 1) := by decide +kernel
theorem d_C_reg_2 : decode b_C_reg 2 = .ok (.getfield 55, 3) := by decide +kernel
theorem d_C_reg_5 : decode b_C_reg 5 = .ok (.invokestatic 40, 3) := by decide +kernel
theorem d_C_reg_8 : decode b_C_reg 8 = .ok (.ifCond .eq 11, 3) := by decide +kernel
theorem d_C_reg_11 : decode b_C_reg 11 = .ok (.iload_n 2, 1) := by decide +kernel
theorem d_C_reg_12 : decode b_C_reg 12 = .ok (.iconst 4, 1) := by decide +kernel
theorem d_C_reg_13 : decode b_C_reg 13 = .ok (.invokestatic 40, 3) := by decide +kernel
theorem d_C_reg_16 : decode b_C_reg 16 = .ok (.ifCond .ne 7, 3) := by decide +kernel
theorem d_C_reg_19 : decode b_C_reg 19 = .ok (.ldc2_w 97, 3) := by decide +kernel
theorem d_C_reg_22 : decode b_C_reg 22 = .ok (.lreturn, 1) := by decide +kernel
theorem d_C_reg_23 : decode b_C_reg 23 = .ok (.aload_n 0, 1) := by decide +kernel
theorem d_C_reg_24 : decode b_C_reg 24 = .ok (.getfield 17, 3) := by decide +kernel
theorem d_C_reg_27 : decode b_C_reg 27 = .ok (.iload_n 1, 1) := by decide +kernel
theorem d_C_reg_28 : decode b_C_reg 28 = .ok (.aaload, 1) := by decide +kernel
theorem d_C_reg_29 : decode b_C_reg 29 = .ok (.getfield 99, 3) := by decide +kernel
theorem d_C_reg_32 : decode b_C_reg 32 = .ok (.iload_n 2, 1) := by decide +kernel
theorem d_C_reg_33 : decode b_C_reg 33 = .ok (.iaload, 1) := by decide +kernel
theorem d_C_reg_34 : decode b_C_reg 34 = .ok (.i2l, 1) := by decide +kernel
theorem d_C_reg_35 : decode b_C_reg 35 = .ok (.lreturn, 1) := by decide +kernel
theorem d_C_info_0 : decode b_C_info 0 = .ok (.iload_n 1, 1) := by decide +kernel
theorem d_C_info_1 : decode b_C_info 1 = .ok (.aload_n 0, 1) := by decide +kernel
theorem d_C_info_2 : decode b_C_info 2 = .ok (.getfield 55, 3) := by decide +kernel
theorem d_C_info_5 : decode b_C_info 5 = .ok (.invokestatic 40, 3) := by decide +kernel
theorem d_C_info_8 : decode b_C_info 8 = .ok (.ifCond .ne 7, 3) := by decide +kernel
theorem d_C_info_11 : decode b_C_info 11 = .ok (.ldc2_w 97, 3) := by decide +kernel
theorem d_C_info_14 : decode b_C_info 14 = .ok (.lreturn, 1) := by decide +kernel
theorem d_C_info_15 : decode b_C_info 15 = .ok (.aload_n 0, 1) := by decide +kernel
theorem d_C_info_16 : decode b_C_info 16 = .ok (.getfield 17, 3) := by decide +kernel
theorem d_C_info_19 : decode b_C_info 19 = .ok (.iload_n 1, 1) := by decide +kernel
theorem d_C_info_20 : decode b_C_info 20 = .ok (.aaload, 1) := by decide +kernel
theorem d_C_info_21 : decode b_C_info 21 = .ok (.astore_n 3, 1) := by decide +kernel
theorem d_C_info_22 : decode b_C_info 22 = .ok (.iload_n 2, 1) := by decide +kernel
theorem d_C_info_23 : decode b_C_info 23 = .ok (.tableswitch 87 0 5 #[37, 43, 49, 55, 61, 67], 37) := by decide +kernel
theorem d_C_info_60 : decode b_C_info 60 = .ok (.aload_n 3, 1) := by decide +kernel
theorem d_C_info_61 : decode b_C_info 61 = .ok (.getfield 70, 3) := by decide +kernel
theorem d_C_info_64 : decode b_C_info 64 = .ok (.i2l, 1) := by decide +kernel
theorem d_C_info_65 : decode b_C_info 65 = .ok (.lreturn, 1) := by decide +kernel
theorem d_C_info_66 : decode b_C_info 66 = .ok (.aload_n 3, 1) := by decide +kernel
theorem d_C_info_67 : decode b_C_info 67 = .ok (.getfield 88, 3) := by decide +kernel
theorem d_C_info_70 : decode b_C_info 70 = .ok (.i2l, 1) := by decide +kernel
theorem d_C_info_71 : decode b_C_info 71 = .ok (.lreturn, 1) := by decide +kernel
theorem d_C_info_72 : decode b_C_info 72 = .ok (.aload_n 3, 1) := by decide +kernel
theorem d_C_info_73 : decode b_C_info 73 = .ok (.getfield 102, 3) := by decide +kernel
theorem d_C_info_76 : decode b_C_info 76 = .ok (.i2l, 1) := by decide +kernel
theorem d_C_info_77 : decode b_C_info 77 = .ok (.lreturn, 1) := by decide +kernel
theorem d_C_info_78 : decode b_C_info 78 = .ok (.aload_n 3, 1) := by decide +kernel
theorem d_C_info_79 : decode b_C_info 79 = .ok (.getfield 105, 3) := by decide +kernel
theorem d_C_info_82 : decode b_C_info 82 = .ok (.i2l, 1) := by decide +kernel
theorem d_C_info_83 : decode b_C_info 83 = .ok (.lreturn, 1) := by decide +kernel
theorem d_C_info_84 : decode b_C_info 84 = .ok (.aload_n 3, 1) := by decide +kernel
theorem d_C_info_85 : decode b_C_info 85 = .ok (.getfield 108, 3) := by decide +kernel
theorem d_C_info_88 : decode b_C_info 88 = .ok (.i2l, 1) := by decide +kernel
theorem d_C_info_89 : decode b_C_info 89 = .ok (.lreturn, 1) := by decide +kernel
theorem d_C_info_90 : decode b_C_info 90 = .ok (.aload_n 3, 1) := by decide +kernel
theorem d_C_info_91 : decode b_C_info 91 = .ok (.getfield 70, 3) := by decide +kernel
theorem d_C_info_94 : decode b_C_info 94 = .ok (.iconst 2, 1) := by decide +kernel
theorem d_C_info_95 : decode b_C_info 95 = .ok (.if_icmp .ne 11, 3) := by decide +kernel
theorem d_C_info_98 : decode b_C_info 98 = .ok (.aload_n 3, 1) := by decide +kernel
theorem d_C_info_99 : decode b_C_info 99 = .ok (.getfield 111, 3) := by decide +kernel
theorem d_C_info_102 : decode b_C_info 102 = .ok (.i2l, 1) := by decide +kernel
theorem d_C_info_103 : decode b_C_info 103 = .ok (.goto 6, 3) := by decide +kernel
theorem d_C_info_106 : decode b_C_info 106 = .ok (.ldc2_w 114, 3) := by decide +kernel
theorem d_C_info_109 : decode b_C_info 109 = .ok (.lreturn, 1) := by decide +kernel
theorem d_C_info_110 : decode b_C_info 110 = .ok (.ldc2_w 97, 3) := by decide +kernel
theorem d_C_info_113 : decode b_C_info 113 = .ok (.lreturn, 1) := by decide +kernel
theorem d_C_line_0 : decode b_C_line 0 = .ok (.iload_n 1, 1) := by decide +kernel
theorem d_C_line_1 : decode b_C_line 1 = .ok (.iconst 3, 1) := by decide +kernel
theorem d_C_line_2 : decode b_C_line 2 = .ok (.invokestatic 40, 3) := by decide +kernel
theorem d_C_line_5 : decode b_C_line 5 = .ok (.ifCond .eq 7, 3) := by decide +kernel
theorem d_C_line_8 : decode b_C_line 8 = .ok (.iload_n 2, 1) := by decide +kernel
theorem d_C_line_9 : decode b_C_line 9 = .ok (.ifCond .ge 5, 3) := by decide +kernel
theorem d_C_line_12 : decode b_C_line 12 = .ok (.iconst (-1), 1) := by decide +kernel
theorem d_C_line_13 : decode b_C_line 13 = .ok (.ireturn, 1) := by decide +kernel
theorem d_C_line_14 : decode b_C_line 14 = .ok (.iload_n 2, 1) := by decide +kernel
theorem d_C_line_15 : decode b_C_line 15 = .ok (.aload_n 0, 1) := by decide +kernel
theorem d_C_line_16 : decode b_C_line 16 = .ok (.getfield 23, 3) := by decide +kernel
theorem d_C_line_19 : decode b_C_line 19 = .ok (.iload_n 1, 1) := by decide +kernel
theorem d_C_line_20 : decode b_C_line 20 = .ok (.aaload, 1) := by decide +kernel
theorem d_C_line_21 : decode b_C_line 21 = .ok (.getfield 62, 3) := by decide +kernel
theorem d_C_line_24 : decode b_C_line 24 = .ok (.if_icmp .ge 17, 3) := by decide +kernel
theorem d_C_line_27 : decode b_C_line 27 = .ok (.aload_n 0, 1) := by decide +kernel
theorem d_C_line_28 : decode b_C_line 28 = .ok (.getfield 23, 3) := by decide +kernel
theorem d_C_line_31 : decode b_C_line 31 = .ok (.iload_n 1, 1) := by decide +kernel
theorem d_C_line_32 : decode b_C_line 32 = .ok (.aaload, 1) := by decide +kernel
theorem d_C_line_33 : decode b_C_line 33 = .ok (.getfield 63, 3) := by decide +kernel
theorem d_C_line_36 : decode b_C_line 36 = .ok (.iload_n 2, 1) := by decide +kernel
theorem d_C_line_37 : decode b_C_line 37 = .ok (.iaload, 1) := by decide +kernel
theorem d_C_line_38 : decode b_C_line 38 = .ok (.goto 5, 3) := by decide +kernel
theorem d_C_line_41 : decode b_C_line 41 = .ok (.bipush 8, 2) := by decide +kernel
theorem d_C_line_43 : decode b_C_line 43 = .ok (.ireturn, 1) := by decide +kernel
theorem d_C_word_0 : decode b_C_word 0 = .ok (.iload_n 1, 1) := by decide +kernel
theorem d_C_word_1 : decode b_C_word 1 = .ok (.bipush 32, 2) := by decide +kernel
theorem d_C_word_3 : decode b_C_word 3 = .ok (.invokestatic 40, 3) := by decide +kernel
theorem d_C_word_6 : decode b_C_word 6 = .ok (.ifCond .eq 13, 3) := by decide +kernel
theorem d_C_word_9 : decode b_C_word 9 = .ok (.aload_n 0, 1) := by decide +kernel
theorem d_C_word_10 : decode b_C_word 10 = .ok (.getfield 33, 3) := by decide +kernel
theorem d_C_word_13 : decode b_C_word 13 = .ok (.iload_n 1, 1) := by decide +kernel
theorem d_C_word_14 : decode b_C_word 14 = .ok (.iaload, 1) := by decide +kernel
theorem d_C_word_15 : decode b_C_word 15 = .ok (.i2l, 1) := by decide +kernel
theorem d_C_word_16 : decode b_C_word 16 = .ok (.goto 6, 3) := by decide +kernel
theorem d_C_word_19 : decode b_C_word 19 = .ok (.ldc2_w 97, 3) := by decide +kernel
theorem d_C_word_22 : decode b_C_word 22 = .ok (.lreturn, 1) := by decide +kernel
theorem d_C_copy_0 : decode b_C_copy 0 = .ok (.iload_n 1, 1) := by decide +kernel
theorem d_C_copy_1 : decode b_C_copy 1 = .ok (.iconst 3, 1) := by decide +kernel
theorem d_C_copy_2 : decode b_C_copy 2 = .ok (.invokestatic 40, 3) := by decide +kernel
theorem d_C_copy_5 : decode b_C_copy 5 = .ok (.ifCond .eq 12, 3) := by decide +kernel
theorem d_C_copy_8 : decode b_C_copy 8 = .ok (.iload_n 2, 1) := by decide +kernel
theorem d_C_copy_9 : decode b_C_copy 9 = .ok (.bipush 32, 2) := by decide +kernel
theorem d_C_copy_11 : decode b_C_copy 11 = .ok (.invokestatic 40, 3) := by decide +kernel
theorem d_C_copy_14 : decode b_C_copy 14 = .ok (.ifCond .ne 7, 3) := by decide +kernel
theorem d_C_copy_17 : decode b_C_copy 17 = .ok (.ldc2_w 116, 3) := by decide +kernel
theorem d_C_copy_20 : decode b_C_copy 20 = .ok (.lreturn, 1) := by decide +kernel
theorem d_C_copy_21 : decode b_C_copy 21 = .ok (.aload_n 0, 1) := by decide +kernel
theorem d_C_copy_22 : decode b_C_copy 22 = .ok (.getfield 29, 3) := by decide +kernel
theorem d_C_copy_25 : decode b_C_copy 25 = .ok (.iload_n 2, 1) := by decide +kernel
theorem d_C_copy_26 : decode b_C_copy 26 = .ok (.iconst 4, 1) := by decide +kernel
theorem d_C_copy_27 : decode b_C_copy 27 = .ok (.idiv, 1) := by decide +kernel
theorem d_C_copy_28 : decode b_C_copy 28 = .ok (.aaload, 1) := by decide +kernel
theorem d_C_copy_29 : decode b_C_copy 29 = .ok (.getfield 118, 3) := by decide +kernel
theorem d_C_copy_32 : decode b_C_copy 32 = .ok (.iload_n 1, 1) := by decide +kernel
theorem d_C_copy_33 : decode b_C_copy 33 = .ok (.iaload, 1) := by decide +kernel
theorem d_C_copy_34 : decode b_C_copy 34 = .ok (.ifCond .ne 9, 3) := by decide +kernel
theorem d_C_copy_37 : decode b_C_copy 37 = .ok (.ldc2_w 97, 3) := by decide +kernel
theorem d_C_copy_40 : decode b_C_copy 40 = .ok (.goto 10, 3) := by decide +kernel
theorem d_C_copy_43 : decode b_C_copy 43 = .ok (.aload_n 0, 1) := by decide +kernel
theorem d_C_copy_44 : decode b_C_copy 44 = .ok (.getfield 33, 3) := by decide +kernel
theorem d_C_copy_47 : decode b_C_copy 47 = .ok (.iload_n 2, 1) := by decide +kernel
theorem d_C_copy_48 : decode b_C_copy 48 = .ok (.iaload, 1) := by decide +kernel
theorem d_C_copy_49 : decode b_C_copy 49 = .ok (.i2l, 1) := by decide +kernel
theorem d_C_copy_50 : decode b_C_copy 50 = .ok (.lreturn, 1) := by decide +kernel
theorem d_C_right_0 : decode b_C_right 0 = .ok (.iload_n 1, 1) := by decide +kernel
theorem d_C_right_1 : decode b_C_right 1 = .ok (.iconst 3, 1) := by decide +kernel
theorem d_C_right_2 : decode b_C_right 2 = .ok (.invokestatic 40, 3) := by decide +kernel
theorem d_C_right_5 : decode b_C_right 5 = .ok (.ifCond .eq 26, 3) := by decide +kernel
theorem d_C_right_8 : decode b_C_right 8 = .ok (.iload_n 2, 1) := by decide +kernel
theorem d_C_right_9 : decode b_C_right 9 = .ok (.bipush 8, 2) := by decide +kernel
theorem d_C_right_11 : decode b_C_right 11 = .ok (.invokestatic 40, 3) := by decide +kernel
theorem d_C_right_14 : decode b_C_right 14 = .ok (.ifCond .eq 17, 3) := by decide +kernel
theorem d_C_right_17 : decode b_C_right 17 = .ok (.aload_n 0, 1) := by decide +kernel
theorem d_C_right_18 : decode b_C_right 18 = .ok (.getfield 29, 3) := by decide +kernel
theorem d_C_right_21 : decode b_C_right 21 = .ok (.iload_n 2, 1) := by decide +kernel
theorem d_C_right_22 : decode b_C_right 22 = .ok (.aaload, 1) := by decide +kernel
theorem d_C_right_23 : decode b_C_right 23 = .ok (.getfield 118, 3) := by decide +kernel
theorem d_C_right_26 : decode b_C_right 26 = .ok (.iload_n 1, 1) := by decide +kernel
theorem d_C_right_27 : decode b_C_right 27 = .ok (.iaload, 1) := by decide +kernel
theorem d_C_right_28 : decode b_C_right 28 = .ok (.goto 4, 3) := by decide +kernel
theorem d_C_right_31 : decode b_C_right 31 = .ok (.iconst (-1), 1) := by decide +kernel
theorem d_C_right_32 : decode b_C_right 32 = .ok (.ireturn, 1) := by decide +kernel
theorem d_C_owner_0 : decode b_C_owner 0 = .ok (.iload_n 1, 1) := by decide +kernel
theorem d_C_owner_1 : decode b_C_owner 1 = .ok (.bipush 8, 2) := by decide +kernel
theorem d_C_owner_3 : decode b_C_owner 3 = .ok (.invokestatic 40, 3) := by decide +kernel
theorem d_C_owner_6 : decode b_C_owner 6 = .ok (.ifCond .eq 15, 3) := by decide +kernel
theorem d_C_owner_9 : decode b_C_owner 9 = .ok (.aload_n 0, 1) := by decide +kernel
theorem d_C_owner_10 : decode b_C_owner 10 = .ok (.getfield 29, 3) := by decide +kernel
theorem d_C_owner_13 : decode b_C_owner 13 = .ok (.iload_n 1, 1) := by decide +kernel
theorem d_C_owner_14 : decode b_C_owner 14 = .ok (.aaload, 1) := by decide +kernel
theorem d_C_owner_15 : decode b_C_owner 15 = .ok (.getfield 121, 3) := by decide +kernel
theorem d_C_owner_18 : decode b_C_owner 18 = .ok (.goto 4, 3) := by decide +kernel
theorem d_C_owner_21 : decode b_C_owner 21 = .ok (.iconst (-1), 1) := by decide +kernel
theorem d_C_owner_22 : decode b_C_owner 22 = .ok (.ireturn, 1) := by decide +kernel
theorem d_C_count_0 : decode b_C_count 0 = .ok (.iload_n 1, 1) := by decide +kernel
theorem d_C_count_1 : decode b_C_count 1 = .ok (.tableswitch 78 0 6 #[43, 48, 53, 58, 63, 68, 73], 43) := by decide +kernel
theorem d_C_count_44 : decode b_C_count 44 = .ok (.aload_n 0, 1) := by decide +kernel
theorem d_C_count_45 : decode b_C_count 45 = .ok (.getfield 55, 3) := by decide +kernel
theorem d_C_count_48 : decode b_C_count 48 = .ok (.ireturn, 1) := by decide +kernel
theorem d_C_count_49 : decode b_C_count 49 = .ok (.aload_n 0, 1) := by decide +kernel
theorem d_C_count_50 : decode b_C_count 50 = .ok (.getfield 124, 3) := by decide +kernel
theorem d_C_count_53 : decode b_C_count 53 = .ok (.ireturn, 1) := by decide +kernel
theorem d_C_count_54 : decode b_C_count 54 = .ok (.aload_n 0, 1) := by decide +kernel
theorem d_C_count_55 : decode b_C_count 55 = .ok (.getfield 127, 3) := by decide +kernel
theorem d_C_count_58 : decode b_C_count 58 = .ok (.ireturn, 1) := by decide +kernel
theorem d_C_count_59 : decode b_C_count 59 = .ok (.aload_n 0, 1) := by decide +kernel
theorem d_C_count_60 : decode b_C_count 60 = .ok (.getfield 130, 3) := by decide +kernel
theorem d_C_count_63 : decode b_C_count 63 = .ok (.ireturn, 1) := by decide +kernel
theorem d_C_count_64 : decode b_C_count 64 = .ok (.aload_n 0, 1) := by decide +kernel
theorem d_C_count_65 : decode b_C_count 65 = .ok (.invokevirtual 133, 3) := by decide +kernel
theorem d_C_count_68 : decode b_C_count 68 = .ok (.ireturn, 1) := by decide +kernel
theorem d_C_count_69 : decode b_C_count 69 = .ok (.aload_n 0, 1) := by decide +kernel
theorem d_C_count_70 : decode b_C_count 70 = .ok (.invokevirtual 137, 3) := by decide +kernel
theorem d_C_count_73 : decode b_C_count 73 = .ok (.ireturn, 1) := by decide +kernel
theorem d_C_count_74 : decode b_C_count 74 = .ok (.aload_n 0, 1) := by decide +kernel
theorem d_C_count_75 : decode b_C_count 75 = .ok (.getfield 140, 3) := by decide +kernel
theorem d_C_count_78 : decode b_C_count 78 = .ok (.ireturn, 1) := by decide +kernel
theorem d_C_count_79 : decode b_C_count 79 = .ok (.iconst (-1), 1) := by decide +kernel
theorem d_C_count_80 : decode b_C_count 80 = .ok (.ireturn, 1) := by decide +kernel
theorem d_C_isIn_0 : decode b_C_isIn 0 = .ok (.iload_n 0, 1) := by decide +kernel
theorem d_C_isIn_1 : decode b_C_isIn 1 = .ok (.ifCond .lt 12, 3) := by decide +kernel
theorem d_C_isIn_4 : decode b_C_isIn 4 = .ok (.iload_n 0, 1) := by decide +kernel
theorem d_C_isIn_5 : decode b_C_isIn 5 = .ok (.iload_n 1, 1) := by decide +kernel
theorem d_C_isIn_6 : decode b_C_isIn 6 = .ok (.if_icmp .ge 7, 3) := by decide +kernel
theorem d_C_isIn_9 : decode b_C_isIn 9 = .ok (.iconst 1, 1) := by decide +kernel
theorem d_C_isIn_10 : decode b_C_isIn 10 = .ok (.goto 4, 3) := by decide +kernel
theorem d_C_isIn_13 : decode b_C_isIn 13 = .ok (.iconst 0, 1) := by decide +kernel
theorem d_C_isIn_14 : decode b_C_isIn 14 = .ok (.ireturn, 1) := by decide +kernel
theorem d_C_fitsOp_0 : decode b_C_fitsOp 0 = .ok (.iload_n 0, 1) := by decide +kernel
theorem d_C_fitsOp_1 : decode b_C_fitsOp 1 = .ok (.ifCond .ne 23, 3) := by decide +kernel
theorem d_C_fitsOp_4 : decode b_C_fitsOp 4 = .ok (.iload_n 1, 1) := by decide +kernel
theorem d_C_fitsOp_5 : decode b_C_fitsOp 5 = .ok (.sipush (-1000), 3) := by decide +kernel
theorem d_C_fitsOp_8 : decode b_C_fitsOp 8 = .ok (.if_icmp .lt 14, 3) := by decide +kernel
theorem d_C_fitsOp_11 : decode b_C_fitsOp 11 = .ok (.iload_n 1, 1) := by decide +kernel
theorem d_C_fitsOp_12 : decode b_C_fitsOp 12 = .ok (.sipush 1000, 3) := by decide +kernel
theorem d_C_fitsOp_15 : decode b_C_fitsOp 15 = .ok (.if_icmp .gt 7, 3) := by decide +kernel
theorem d_C_fitsOp_18 : decode b_C_fitsOp 18 = .ok (.iconst 1, 1) := by decide +kernel
theorem d_C_fitsOp_19 : decode b_C_fitsOp 19 = .ok (.goto 4, 3) := by decide +kernel
theorem d_C_fitsOp_22 : decode b_C_fitsOp 22 = .ok (.iconst 0, 1) := by decide +kernel
theorem d_C_fitsOp_23 : decode b_C_fitsOp 23 = .ok (.ireturn, 1) := by decide +kernel
theorem d_C_fitsOp_24 : decode b_C_fitsOp 24 = .ok (.iload_n 1, 1) := by decide +kernel
theorem d_C_fitsOp_25 : decode b_C_fitsOp 25 = .ok (.iload_n 0, 1) := by decide +kernel
theorem d_C_fitsOp_26 : decode b_C_fitsOp 26 = .ok (.iconst 5, 1) := by decide +kernel
theorem d_C_fitsOp_27 : decode b_C_fitsOp 27 = .ok (.if_icmp .ne 8, 3) := by decide +kernel
theorem d_C_fitsOp_30 : decode b_C_fitsOp 30 = .ok (.bipush 12, 2) := by decide +kernel
theorem d_C_fitsOp_32 : decode b_C_fitsOp 32 = .ok (.goto 4, 3) := by decide +kernel
theorem d_C_fitsOp_35 : decode b_C_fitsOp 35 = .ok (.iconst 4, 1) := by decide +kernel
theorem d_C_fitsOp_36 : decode b_C_fitsOp 36 = .ok (.invokestatic 40, 3) := by decide +kernel
theorem d_C_fitsOp_39 : decode b_C_fitsOp 39 = .ok (.ireturn, 1) := by decide +kernel
theorem d_C_touchesMemory_0 : decode b_C_touchesMemory 0 = .ok (.iload_n 0, 1) := by decide +kernel
theorem d_C_touchesMemory_1 : decode b_C_touchesMemory 1 = .ok (.iconst 2, 1) := by decide +kernel
theorem d_C_touchesMemory_2 : decode b_C_touchesMemory 2 = .ok (.if_icmp .eq 13, 3) := by decide +kernel
theorem d_C_touchesMemory_5 : decode b_C_touchesMemory 5 = .ok (.iload_n 0, 1) := by decide +kernel
theorem d_C_touchesMemory_6 : decode b_C_touchesMemory 6 = .ok (.iconst 3, 1) := by decide +kernel
theorem d_C_touchesMemory_7 : decode b_C_touchesMemory 7 = .ok (.if_icmp .eq 8, 3) := by decide +kernel
theorem d_C_touchesMemory_10 : decode b_C_touchesMemory 10 = .ok (.iload_n 0, 1) := by decide +kernel
theorem d_C_touchesMemory_11 : decode b_C_touchesMemory 11 = .ok (.iconst 4, 1) := by decide +kernel
theorem d_C_touchesMemory_12 : decode b_C_touchesMemory 12 = .ok (.if_icmp .ne 7, 3) := by decide +kernel
theorem d_C_touchesMemory_15 : decode b_C_touchesMemory 15 = .ok (.iconst 1, 1) := by decide +kernel
theorem d_C_touchesMemory_16 : decode b_C_touchesMemory 16 = .ok (.goto 4, 3) := by decide +kernel
theorem d_C_touchesMemory_19 : decode b_C_touchesMemory 19 = .ok (.iconst 0, 1) := by decide +kernel
theorem d_C_touchesMemory_20 : decode b_C_touchesMemory 20 = .ok (.ireturn, 1) := by decide +kernel
theorem d_C_addressOf_0 : decode b_C_addressOf 0 = .ok (.iload_n 0, 1) := by decide +kernel
theorem d_C_addressOf_1 : decode b_C_addressOf 1 = .ok (.bipush 32, 2) := by decide +kernel
theorem d_C_addressOf_3 : decode b_C_addressOf 3 = .ok (.invokestatic 143, 3) := by decide +kernel
theorem d_C_addressOf_6 : decode b_C_addressOf 6 = .ok (.ireturn, 1) := by decide +kernel
theorem d_C_requestsStanding_0 : decode b_C_requestsStanding 0 = .ok (.iconst 0, 1) := by decide +kernel
theorem d_C_requestsStanding_1 : decode b_C_requestsStanding 1 = .ok (.istore_n 1, 1) := by decide +kernel
theorem d_C_requestsStanding_2 : decode b_C_requestsStanding 2 = .ok (.iconst 0, 1) := by decide +kernel
theorem d_C_requestsStanding_3 : decode b_C_requestsStanding 3 = .ok (.istore_n 2, 1) := by decide +kernel
theorem d_C_requestsStanding_4 : decode b_C_requestsStanding 4 = .ok (.iload_n 2, 1) := by decide +kernel
theorem d_C_requestsStanding_5 : decode b_C_requestsStanding 5 = .ok (.bipush 8, 2) := by decide +kernel
theorem d_C_requestsStanding_7 : decode b_C_requestsStanding 7 = .ok (.if_icmp .ge 24, 3) := by decide +kernel
theorem d_C_requestsStanding_10 : decode b_C_requestsStanding 10 = .ok (.iload_n 1, 1) := by decide +kernel
theorem d_C_requestsStanding_11 : decode b_C_requestsStanding 11 = .ok (.aload_n 0, 1) := by decide +kernel
theorem d_C_requestsStanding_12 : decode b_C_requestsStanding 12 = .ok (.getfield 29, 3) := by decide +kernel
theorem d_C_requestsStanding_15 : decode b_C_requestsStanding 15 = .ok (.iload_n 2, 1) := by decide +kernel
theorem d_C_requestsStanding_16 : decode b_C_requestsStanding 16 = .ok (.aaload, 1) := by decide +kernel
theorem d_C_requestsStanding_17 : decode b_C_requestsStanding 17 = .ok (.getfield 76, 3) := by decide +kernel
theorem d_C_requestsStanding_20 : decode b_C_requestsStanding 20 = .ok (.getfield 62, 3) := by decide +kernel
theorem d_C_requestsStanding_23 : decode b_C_requestsStanding 23 = .ok (.iadd, 1) := by decide +kernel
theorem d_C_requestsStanding_24 : decode b_C_requestsStanding 24 = .ok (.istore_n 1, 1) := by decide +kernel
theorem d_C_requestsStanding_25 : decode b_C_requestsStanding 25 = .ok (.iinc 2 1, 3) := by decide +kernel
theorem d_C_requestsStanding_28 : decode b_C_requestsStanding 28 = .ok (.goto (-24), 3) := by decide +kernel
theorem d_C_requestsStanding_31 : decode b_C_requestsStanding 31 = .ok (.iload_n 1, 1) := by decide +kernel
theorem d_C_requestsStanding_32 : decode b_C_requestsStanding 32 = .ok (.ireturn, 1) := by decide +kernel
theorem d_C_processesReady_0 : decode b_C_processesReady 0 = .ok (.iconst 0, 1) := by decide +kernel
theorem d_C_processesReady_1 : decode b_C_processesReady 1 = .ok (.istore_n 1, 1) := by decide +kernel
theorem d_C_processesReady_2 : decode b_C_processesReady 2 = .ok (.iconst 0, 1) := by decide +kernel
theorem d_C_processesReady_3 : decode b_C_processesReady 3 = .ok (.istore_n 2, 1) := by decide +kernel
theorem d_C_processesReady_4 : decode b_C_processesReady 4 = .ok (.iload_n 2, 1) := by decide +kernel
theorem d_C_processesReady_5 : decode b_C_processesReady 5 = .ok (.iconst 3, 1) := by decide +kernel
theorem d_C_processesReady_6 : decode b_C_processesReady 6 = .ok (.if_icmp .ge 21, 3) := by decide +kernel
theorem d_C_processesReady_9 : decode b_C_processesReady 9 = .ok (.iload_n 1, 1) := by decide +kernel
theorem d_C_processesReady_10 : decode b_C_processesReady 10 = .ok (.aload_n 0, 1) := by decide +kernel
theorem d_C_processesReady_11 : decode b_C_processesReady 11 = .ok (.getfield 23, 3) := by decide +kernel
theorem d_C_processesReady_14 : decode b_C_processesReady 14 = .ok (.iload_n 2, 1) := by decide +kernel
theorem d_C_processesReady_15 : decode b_C_processesReady 15 = .ok (.aaload, 1) := by decide +kernel
theorem d_C_processesReady_16 : decode b_C_processesReady 16 = .ok (.getfield 62, 3) := by decide +kernel
theorem d_C_processesReady_19 : decode b_C_processesReady 19 = .ok (.iadd, 1) := by decide +kernel
theorem d_C_processesReady_20 : decode b_C_processesReady 20 = .ok (.istore_n 1, 1) := by decide +kernel
theorem d_C_processesReady_21 : decode b_C_processesReady 21 = .ok (.iinc 2 1, 3) := by decide +kernel
theorem d_C_processesReady_24 : decode b_C_processesReady 24 = .ok (.goto (-20), 3) := by decide +kernel
theorem d_C_processesReady_27 : decode b_C_processesReady 27 = .ok (.iload_n 1, 1) := by decide +kernel
theorem d_C_processesReady_28 : decode b_C_processesReady 28 = .ok (.ireturn, 1) := by decide +kernel
theorem d_C_makeProcess_0 : decode b_C_makeProcess 0 = .ok (.new 15, 3) := by decide +kernel
theorem d_C_makeProcess_3 : decode b_C_makeProcess 3 = .ok (.dup, 1) := by decide +kernel
theorem d_C_makeProcess_4 : decode b_C_makeProcess 4 = .ok (.aload_n 0, 1) := by decide +kernel
theorem d_C_makeProcess_5 : decode b_C_makeProcess 5 = .ok (.getfield 55, 3) := by decide +kernel
theorem d_C_makeProcess_8 : decode b_C_makeProcess 8 = .ok (.iload_n 1, 1) := by decide +kernel
theorem d_C_makeProcess_9 : decode b_C_makeProcess 9 = .ok (.iload_n 2, 1) := by decide +kernel
theorem d_C_makeProcess_10 : decode b_C_makeProcess 10 = .ok (.invokespecial 148, 3) := by decide +kernel
theorem d_C_makeProcess_13 : decode b_C_makeProcess 13 = .ok (.astore_n 3, 1) := by decide +kernel
theorem d_C_makeProcess_14 : decode b_C_makeProcess 14 = .ok (.aload_n 0, 1) := by decide +kernel
theorem d_C_makeProcess_15 : decode b_C_makeProcess 15 = .ok (.getfield 17, 3) := by decide +kernel
theorem d_C_makeProcess_18 : decode b_C_makeProcess 18 = .ok (.aload_n 0, 1) := by decide +kernel
theorem d_C_makeProcess_19 : decode b_C_makeProcess 19 = .ok (.getfield 55, 3) := by decide +kernel
theorem d_C_makeProcess_22 : decode b_C_makeProcess 22 = .ok (.aload_n 3, 1) := by decide +kernel
theorem d_C_makeProcess_23 : decode b_C_makeProcess 23 = .ok (.aastore, 1) := by decide +kernel
theorem d_C_makeProcess_24 : decode b_C_makeProcess 24 = .ok (.aload_n 0, 1) := by decide +kernel
theorem d_C_makeProcess_25 : decode b_C_makeProcess 25 = .ok (.dup, 1) := by decide +kernel
theorem d_C_makeProcess_26 : decode b_C_makeProcess 26 = .ok (.getfield 55, 3) := by decide +kernel
theorem d_C_makeProcess_29 : decode b_C_makeProcess 29 = .ok (.iconst 1, 1) := by decide +kernel
theorem d_C_makeProcess_30 : decode b_C_makeProcess 30 = .ok (.iadd, 1) := by decide +kernel
theorem d_C_makeProcess_31 : decode b_C_makeProcess 31 = .ok (.putfield 55, 3) := by decide +kernel
theorem d_C_makeProcess_34 : decode b_C_makeProcess 34 = .ok (.aload_n 0, 1) := by decide +kernel
theorem d_C_makeProcess_35 : decode b_C_makeProcess 35 = .ok (.aload_n 3, 1) := by decide +kernel
theorem d_C_makeProcess_36 : decode b_C_makeProcess 36 = .ok (.invokevirtual 94, 3) := by decide +kernel
theorem d_C_makeProcess_39 : decode b_C_makeProcess 39 = .ok (.aload_n 3, 1) := by decide +kernel
theorem d_C_makeProcess_40 : decode b_C_makeProcess 40 = .ok (.getfield 73, 3) := by decide +kernel
theorem d_C_makeProcess_43 : decode b_C_makeProcess 43 = .ok (.ireturn, 1) := by decide +kernel
theorem d_C_joinLine_0 : decode b_C_joinLine 0 = .ok (.aload_n 1, 1) := by decide +kernel
theorem d_C_joinLine_1 : decode b_C_joinLine 1 = .ok (.iconst 1, 1) := by decide +kernel
theorem d_C_joinLine_2 : decode b_C_joinLine 2 = .ok (.putfield 70, 3) := by decide +kernel
theorem d_C_joinLine_5 : decode b_C_joinLine 5 = .ok (.aload_n 1, 1) := by decide +kernel
theorem d_C_joinLine_6 : decode b_C_joinLine 6 = .ok (.iconst 0, 1) := by decide +kernel
theorem d_C_joinLine_7 : decode b_C_joinLine 7 = .ok (.putfield 105, 3) := by decide +kernel
theorem d_C_joinLine_10 : decode b_C_joinLine 10 = .ok (.aload_n 0, 1) := by decide +kernel
theorem d_C_joinLine_11 : decode b_C_joinLine 11 = .ok (.getfield 23, 3) := by decide +kernel
theorem d_C_joinLine_14 : decode b_C_joinLine 14 = .ok (.aload_n 1, 1) := by decide +kernel
theorem d_C_joinLine_15 : decode b_C_joinLine 15 = .ok (.getfield 88, 3) := by decide +kernel
theorem d_C_joinLine_18 : decode b_C_joinLine 18 = .ok (.aaload, 1) := by decide +kernel
theorem d_C_joinLine_19 : decode b_C_joinLine 19 = .ok (.aload_n 1, 1) := by decide +kernel
theorem d_C_joinLine_20 : decode b_C_joinLine 20 = .ok (.getfield 73, 3) := by decide +kernel
theorem d_C_joinLine_23 : decode b_C_joinLine 23 = .ok (.invokevirtual 150, 3) := by decide +kernel
theorem d_C_joinLine_26 : decode b_C_joinLine 26 = .ok (.return_, 1) := by decide +kernel
theorem d_C_leaveLine_0 : decode b_C_leaveLine 0 = .ok (.aload_n 0, 1) := by decide +kernel
theorem d_C_leaveLine_1 : decode b_C_leaveLine 1 = .ok (.getfield 23, 3) := by decide +kernel
theorem d_C_leaveLine_4 : decode b_C_leaveLine 4 = .ok (.aload_n 1, 1) := by decide +kernel
theorem d_C_leaveLine_5 : decode b_C_leaveLine 5 = .ok (.getfield 88, 3) := by decide +kernel
theorem d_C_leaveLine_8 : decode b_C_leaveLine 8 = .ok (.aaload, 1) := by decide +kernel
theorem d_C_leaveLine_9 : decode b_C_leaveLine 9 = .ok (.aload_n 1, 1) := by decide +kernel
theorem d_C_leaveLine_10 : decode b_C_leaveLine 10 = .ok (.getfield 73, 3) := by decide +kernel
theorem d_C_leaveLine_13 : decode b_C_leaveLine 13 = .ok (.invokevirtual 80, 3) := by decide +kernel
theorem d_C_leaveLine_16 : decode b_C_leaveLine 16 = .ok (.aload_n 1, 1) := by decide +kernel
theorem d_C_leaveLine_17 : decode b_C_leaveLine 17 = .ok (.iload_n 2, 1) := by decide +kernel
theorem d_C_leaveLine_18 : decode b_C_leaveLine 18 = .ok (.putfield 70, 3) := by decide +kernel
theorem d_C_leaveLine_21 : decode b_C_leaveLine 21 = .ok (.return_, 1) := by decide +kernel
theorem d_C_endProcess_0 : decode b_C_endProcess 0 = .ok (.aload_n 0, 1) := by decide +kernel
theorem d_C_endProcess_1 : decode b_C_endProcess 1 = .ok (.aload_n 1, 1) := by decide +kernel
theorem d_C_endProcess_2 : decode b_C_endProcess 2 = .ok (.iconst 4, 1) := by decide +kernel
theorem d_C_endProcess_3 : decode b_C_endProcess 3 = .ok (.invokevirtual 153, 3) := by decide +kernel
theorem d_C_endProcess_6 : decode b_C_endProcess 6 = .ok (.aload_n 1, 1) := by decide +kernel
theorem d_C_endProcess_7 : decode b_C_endProcess 7 = .ok (.iload_n 2, 1) := by decide +kernel
theorem d_C_endProcess_8 : decode b_C_endProcess 8 = .ok (.putfield 108, 3) := by decide +kernel
theorem d_C_endProcess_11 : decode b_C_endProcess 11 = .ok (.iconst 0, 1) := by decide +kernel
theorem d_C_endProcess_12 : decode b_C_endProcess 12 = .ok (.istore_n 3, 1) := by decide +kernel
theorem d_C_endProcess_13 : decode b_C_endProcess 13 = .ok (.iload_n 3, 1) := by decide +kernel
theorem d_C_endProcess_14 : decode b_C_endProcess 14 = .ok (.aload_n 0, 1) := by decide +kernel
theorem d_C_endProcess_15 : decode b_C_endProcess 15 = .ok (.getfield 55, 3) := by decide +kernel
theorem d_C_endProcess_18 : decode b_C_endProcess 18 = .ok (.if_icmp .ge 44, 3) := by decide +kernel
theorem d_C_endProcess_21 : decode b_C_endProcess 21 = .ok (.aload_n 0, 1) := by decide +kernel
theorem d_C_endProcess_22 : decode b_C_endProcess 22 = .ok (.getfield 17, 3) := by decide +kernel
theorem d_C_endProcess_25 : decode b_C_endProcess 25 = .ok (.iload_n 3, 1) := by decide +kernel
theorem d_C_endProcess_26 : decode b_C_endProcess 26 = .ok (.aaload, 1) := by decide +kernel
theorem d_C_endProcess_27 : decode b_C_endProcess 27 = .ok (.astore 4, 2) := by decide +kernel
theorem d_C_endProcess_29 : decode b_C_endProcess 29 = .ok (.aload 4, 2) := by decide +kernel
theorem d_C_endProcess_31 : decode b_C_endProcess 31 = .ok (.getfield 70, 3) := by decide +kernel
theorem d_C_endProcess_34 : decode b_C_endProcess 34 = .ok (.iconst 3, 1) := by decide +kernel
theorem d_C_endProcess_35 : decode b_C_endProcess 35 = .ok (.if_icmp .ne 21, 3) := by decide +kernel
theorem d_C_endProcess_38 : decode b_C_endProcess 38 = .ok (.aload 4, 2) := by decide +kernel
theorem d_C_endProcess_40 : decode b_C_endProcess 40 = .ok (.getfield 157, 3) := by decide +kernel
theorem d_C_endProcess_43 : decode b_C_endProcess 43 = .ok (.aload_n 1, 1) := by decide +kernel
theorem d_C_endProcess_44 : decode b_C_endProcess 44 = .ok (.getfield 73, 3) := by decide +kernel
theorem d_C_endProcess_47 : decode b_C_endProcess 47 = .ok (.if_icmp .ne 9, 3) := by decide +kernel
theorem d_C_endProcess_50 : decode b_C_endProcess 50 = .ok (.aload_n 0, 1) := by decide +kernel
theorem d_C_endProcess_51 : decode b_C_endProcess 51 = .ok (.aload 4, 2) := by decide +kernel
theorem d_C_endProcess_53 : decode b_C_endProcess 53 = .ok (.invokevirtual 94, 3) := by decide +kernel
theorem d_C_endProcess_56 : decode b_C_endProcess 56 = .ok (.iinc 3 1, 3) := by decide +kernel
theorem d_C_endProcess_59 : decode b_C_endProcess 59 = .ok (.goto (-46), 3) := by decide +kernel
theorem d_C_endProcess_62 : decode b_C_endProcess 62 = .ok (.return_, 1) := by decide +kernel
theorem d_C_runFirst_0 : decode b_C_runFirst 0 = .ok (.aload_n 0, 1) := by decide +kernel
theorem d_C_runFirst_1 : decode b_C_runFirst 1 = .ok (.getfield 11, 3) := by decide +kernel
theorem d_C_runFirst_4 : decode b_C_runFirst 4 = .ok (.aload_n 1, 1) := by decide +kernel
theorem d_C_runFirst_5 : decode b_C_runFirst 5 = .ok (.getfield 160, 3) := by decide +kernel
theorem d_C_runFirst_8 : decode b_C_runFirst 8 = .ok (.aaload, 1) := by decide +kernel
theorem d_C_runFirst_9 : decode b_C_runFirst 9 = .ok (.astore_n 2, 1) := by decide +kernel
theorem d_C_runFirst_10 : decode b_C_runFirst 10 = .ok (.aload_n 1, 1) := by decide +kernel
theorem d_C_runFirst_11 : decode b_C_runFirst 11 = .ok (.getfield 102, 3) := by decide +kernel
theorem d_C_runFirst_14 : decode b_C_runFirst 14 = .ok (.aload_n 2, 1) := by decide +kernel
theorem d_C_runFirst_15 : decode b_C_runFirst 15 = .ok (.getfield 47, 3) := by decide +kernel
theorem d_C_runFirst_18 : decode b_C_runFirst 18 = .ok (.if_icmp .lt 10, 3) := by decide +kernel
theorem d_C_runFirst_21 : decode b_C_runFirst 21 = .ok (.aload_n 0, 1) := by decide +kernel
theorem d_C_runFirst_22 : decode b_C_runFirst 22 = .ok (.aload_n 1, 1) := by decide +kernel
theorem d_C_runFirst_23 : decode b_C_runFirst 23 = .ok (.iconst 0, 1) := by decide +kernel
theorem d_C_runFirst_24 : decode b_C_runFirst 24 = .ok (.invokevirtual 163, 3) := by decide +kernel
theorem d_C_runFirst_27 : decode b_C_runFirst 27 = .ok (.return_, 1) := by decide +kernel
theorem d_C_runFirst_28 : decode b_C_runFirst 28 = .ok (.aload_n 2, 1) := by decide +kernel
theorem d_C_runFirst_29 : decode b_C_runFirst 29 = .ok (.getfield 166, 3) := by decide +kernel
theorem d_C_runFirst_32 : decode b_C_runFirst 32 = .ok (.aload_n 1, 1) := by decide +kernel
theorem d_C_runFirst_33 : decode b_C_runFirst 33 = .ok (.getfield 102, 3) := by decide +kernel
theorem d_C_runFirst_36 : decode b_C_runFirst 36 = .ok (.iaload, 1) := by decide +kernel
theorem d_C_runFirst_37 : decode b_C_runFirst 37 = .ok (.istore_n 3, 1) := by decide +kernel
theorem d_C_runFirst_38 : decode b_C_runFirst 38 = .ok (.aload_n 2, 1) := by decide +kernel
theorem d_C_runFirst_39 : decode b_C_runFirst 39 = .ok (.getfield 169, 3) := by decide +kernel
theorem d_C_runFirst_42 : decode b_C_runFirst 42 = .ok (.aload_n 1, 1) := by decide +kernel
theorem d_C_runFirst_43 : decode b_C_runFirst 43 = .ok (.getfield 102, 3) := by decide +kernel
theorem d_C_runFirst_46 : decode b_C_runFirst 46 = .ok (.iaload, 1) := by decide +kernel
theorem d_C_runFirst_47 : decode b_C_runFirst 47 = .ok (.istore 4, 2) := by decide +kernel
theorem d_C_runFirst_49 : decode b_C_runFirst 49 = .ok (.aload_n 2, 1) := by decide +kernel
theorem d_C_runFirst_50 : decode b_C_runFirst 50 = .ok (.getfield 172, 3) := by decide +kernel
theorem d_C_runFirst_53 : decode b_C_runFirst 53 = .ok (.aload_n 1, 1) := by decide +kernel
theorem d_C_runFirst_54 : decode b_C_runFirst 54 = .ok (.getfield 102, 3) := by decide +kernel
theorem d_C_runFirst_57 : decode b_C_runFirst 57 = .ok (.iaload, 1) := by decide +kernel
theorem d_C_runFirst_58 : decode b_C_runFirst 58 = .ok (.istore 5, 2) := by decide +kernel
theorem d_C_runFirst_60 : decode b_C_runFirst 60 = .ok (.iload_n 3, 1) := by decide +kernel
theorem d_C_runFirst_61 : decode b_C_runFirst 61 = .ok (.invokestatic 175, 3) := by decide +kernel
theorem d_C_runFirst_64 : decode b_C_runFirst 64 = .ok (.ifCond .eq 59, 3) := by decide +kernel
theorem d_C_runFirst_67 : decode b_C_runFirst 67 = .ok (.aload_n 1, 1) := by decide +kernel
theorem d_C_runFirst_68 : decode b_C_runFirst 68 = .ok (.getfield 99, 3) := by decide +kernel
theorem d_C_runFirst_71 : decode b_C_runFirst 71 = .ok (.iload 5, 2) := by decide +kernel
theorem d_C_runFirst_73 : decode b_C_runFirst 73 = .ok (.iaload, 1) := by decide +kernel
theorem d_C_runFirst_74 : decode b_C_runFirst 74 = .ok (.invokestatic 179, 3) := by decide +kernel
theorem d_C_runFirst_77 : decode b_C_runFirst 77 = .ok (.iconst 4, 1) := by decide +kernel
theorem d_C_runFirst_78 : decode b_C_runFirst 78 = .ok (.idiv, 1) := by decide +kernel
theorem d_C_runFirst_79 : decode b_C_runFirst 79 = .ok (.istore 6, 2) := by decide +kernel
theorem d_C_runFirst_81 : decode b_C_runFirst 81 = .ok (.iload_n 3, 1) := by decide +kernel
theorem d_C_runFirst_82 : decode b_C_runFirst 82 = .ok (.iconst 2, 1) := by decide +kernel
theorem d_C_runFirst_83 : decode b_C_runFirst 83 = .ok (.if_icmp .ne 7, 3) := by decide +kernel
theorem d_C_runFirst_86 : decode b_C_runFirst 86 = .ok (.iconst 1, 1) := by decide +kernel
theorem d_C_runFirst_87 : decode b_C_runFirst 87 = .ok (.goto 4, 3) := by decide +kernel
theorem d_C_runFirst_90 : decode b_C_runFirst 90 = .ok (.iconst 2, 1) := by decide +kernel
theorem d_C_runFirst_91 : decode b_C_runFirst 91 = .ok (.istore 7, 2) := by decide +kernel
theorem d_C_runFirst_93 : decode b_C_runFirst 93 = .ok (.aload_n 0, 1) := by decide +kernel
theorem d_C_runFirst_94 : decode b_C_runFirst 94 = .ok (.getfield 29, 3) := by decide +kernel
theorem d_C_runFirst_97 : decode b_C_runFirst 97 = .ok (.iload 6, 2) := by decide +kernel
theorem d_C_runFirst_99 : decode b_C_runFirst 99 = .ok (.aaload, 1) := by decide +kernel
theorem d_C_runFirst_100 : decode b_C_runFirst 100 = .ok (.getfield 118, 3) := by decide +kernel
theorem d_C_runFirst_103 : decode b_C_runFirst 103 = .ok (.aload_n 1, 1) := by decide +kernel
theorem d_C_runFirst_104 : decode b_C_runFirst 104 = .ok (.getfield 88, 3) := by decide +kernel
theorem d_C_runFirst_107 : decode b_C_runFirst 107 = .ok (.iaload, 1) := by decide +kernel
theorem d_C_runFirst_108 : decode b_C_runFirst 108 = .ok (.iload 7, 2) := by decide +kernel
theorem d_C_runFirst_110 : decode b_C_runFirst 110 = .ok (.if_icmp .ge 13, 3) := by decide +kernel
theorem d_C_runFirst_113 : decode b_C_runFirst 113 = .ok (.aload_n 0, 1) := by decide +kernel
theorem d_C_runFirst_114 : decode b_C_runFirst 114 = .ok (.aload_n 1, 1) := by decide +kernel
theorem d_C_runFirst_115 : decode b_C_runFirst 115 = .ok (.iload 6, 2) := by decide +kernel
theorem d_C_runFirst_117 : decode b_C_runFirst 117 = .ok (.iload 7, 2) := by decide +kernel
theorem d_C_runFirst_119 : decode b_C_runFirst 119 = .ok (.invokevirtual 183, 3) := by decide +kernel
theorem d_C_runFirst_122 : decode b_C_runFirst 122 = .ok (.return_, 1) := by decide +kernel
theorem d_C_runFirst_123 : decode b_C_runFirst 123 = .ok (.aload_n 0, 1) := by decide +kernel
theorem d_C_runFirst_124 : decode b_C_runFirst 124 = .ok (.aload_n 1, 1) := by decide +kernel
theorem d_C_runFirst_125 : decode b_C_runFirst 125 = .ok (.iload_n 3, 1) := by decide +kernel
theorem d_C_runFirst_126 : decode b_C_runFirst 126 = .ok (.iload 4, 2) := by decide +kernel
theorem d_C_runFirst_128 : decode b_C_runFirst 128 = .ok (.iload 5, 2) := by decide +kernel
theorem d_C_runFirst_130 : decode b_C_runFirst 130 = .ok (.invokevirtual 187, 3) := by decide +kernel
theorem d_C_runFirst_133 : decode b_C_runFirst 133 = .ok (.aload_n 1, 1) := by decide +kernel
theorem d_C_runFirst_134 : decode b_C_runFirst 134 = .ok (.getfield 70, 3) := by decide +kernel
theorem d_C_runFirst_137 : decode b_C_runFirst 137 = .ok (.iconst 1, 1) := by decide +kernel
theorem d_C_runFirst_138 : decode b_C_runFirst 138 = .ok (.if_icmp .ne 19, 3) := by decide +kernel
theorem d_C_runFirst_141 : decode b_C_runFirst 141 = .ok (.aload_n 0, 1) := by decide +kernel
theorem d_C_runFirst_142 : decode b_C_runFirst 142 = .ok (.aload_n 1, 1) := by decide +kernel
theorem d_C_runFirst_143 : decode b_C_runFirst 143 = .ok (.iload_n 3, 1) := by decide +kernel
theorem d_C_runFirst_144 : decode b_C_runFirst 144 = .ok (.bipush 12, 2) := by decide +kernel
theorem d_C_runFirst_146 : decode b_C_runFirst 146 = .ok (.if_icmp .ne 7, 3) := by decide +kernel
theorem d_C_runFirst_149 : decode b_C_runFirst 149 = .ok (.iconst 1, 1) := by decide +kernel
theorem d_C_runFirst_150 : decode b_C_runFirst 150 = .ok (.goto 4, 3) := by decide +kernel
theorem d_C_runFirst_153 : decode b_C_runFirst 153 = .ok (.iconst 0, 1) := by decide +kernel
theorem d_C_runFirst_154 : decode b_C_runFirst 154 = .ok (.invokevirtual 191, 3) := by decide +kernel
theorem d_C_runFirst_157 : decode b_C_runFirst 157 = .ok (.return_, 1) := by decide +kernel
theorem d_C_blockOn_0 : decode b_C_blockOn 0 = .ok (.aload_n 0, 1) := by decide +kernel
theorem d_C_blockOn_1 : decode b_C_blockOn 1 = .ok (.aload_n 1, 1) := by decide +kernel
theorem d_C_blockOn_2 : decode b_C_blockOn 2 = .ok (.iconst 2, 1) := by decide +kernel
theorem d_C_blockOn_3 : decode b_C_blockOn 3 = .ok (.invokevirtual 153, 3) := by decide +kernel
theorem d_C_blockOn_6 : decode b_C_blockOn 6 = .ok (.aload_n 1, 1) := by decide +kernel
theorem d_C_blockOn_7 : decode b_C_blockOn 7 = .ok (.iload_n 2, 1) := by decide +kernel
theorem d_C_blockOn_8 : decode b_C_blockOn 8 = .ok (.putfield 111, 3) := by decide +kernel
theorem d_C_blockOn_11 : decode b_C_blockOn 11 = .ok (.aload_n 1, 1) := by decide +kernel
theorem d_C_blockOn_12 : decode b_C_blockOn 12 = .ok (.iload_n 3, 1) := by decide +kernel
theorem d_C_blockOn_13 : decode b_C_blockOn 13 = .ok (.putfield 195, 3) := by decide +kernel
theorem d_C_blockOn_16 : decode b_C_blockOn 16 = .ok (.aload_n 0, 1) := by decide +kernel
theorem d_C_blockOn_17 : decode b_C_blockOn 17 = .ok (.getfield 29, 3) := by decide +kernel
theorem d_C_blockOn_20 : decode b_C_blockOn 20 = .ok (.iload_n 2, 1) := by decide +kernel
theorem d_C_blockOn_21 : decode b_C_blockOn 21 = .ok (.aaload, 1) := by decide +kernel
theorem d_C_blockOn_22 : decode b_C_blockOn 22 = .ok (.getfield 76, 3) := by decide +kernel
theorem d_C_blockOn_25 : decode b_C_blockOn 25 = .ok (.aload_n 1, 1) := by decide +kernel
theorem d_C_blockOn_26 : decode b_C_blockOn 26 = .ok (.getfield 73, 3) := by decide +kernel
theorem d_C_blockOn_29 : decode b_C_blockOn 29 = .ok (.invokevirtual 150, 3) := by decide +kernel
theorem d_C_blockOn_32 : decode b_C_blockOn 32 = .ok (.aload_n 0, 1) := by decide +kernel
theorem d_C_blockOn_33 : decode b_C_blockOn 33 = .ok (.dup, 1) := by decide +kernel
theorem d_C_blockOn_34 : decode b_C_blockOn 34 = .ok (.getfield 127, 3) := by decide +kernel
theorem d_C_blockOn_37 : decode b_C_blockOn 37 = .ok (.iconst 1, 1) := by decide +kernel
theorem d_C_blockOn_38 : decode b_C_blockOn 38 = .ok (.iadd, 1) := by decide +kernel
theorem d_C_blockOn_39 : decode b_C_blockOn 39 = .ok (.putfield 127, 3) := by decide +kernel
theorem d_C_blockOn_42 : decode b_C_blockOn 42 = .ok (.return_, 1) := by decide +kernel
theorem d_C_spendSlice_0 : decode b_C_spendSlice 0 = .ok (.aload_n 1, 1) := by decide +kernel
theorem d_C_spendSlice_1 : decode b_C_spendSlice 1 = .ok (.dup, 1) := by decide +kernel
theorem d_C_spendSlice_2 : decode b_C_spendSlice 2 = .ok (.getfield 105, 3) := by decide +kernel
theorem d_C_spendSlice_5 : decode b_C_spendSlice 5 = .ok (.iconst 1, 1) := by decide +kernel
theorem d_C_spendSlice_6 : decode b_C_spendSlice 6 = .ok (.iadd, 1) := by decide +kernel
theorem d_C_spendSlice_7 : decode b_C_spendSlice 7 = .ok (.putfield 105, 3) := by decide +kernel
theorem d_C_spendSlice_10 : decode b_C_spendSlice 10 = .ok (.iload_n 2, 1) := by decide +kernel
theorem d_C_spendSlice_11 : decode b_C_spendSlice 11 = .ok (.ifCond .ne 11, 3) := by decide +kernel
theorem d_C_spendSlice_14 : decode b_C_spendSlice 14 = .ok (.aload_n 1, 1) := by decide +kernel
theorem d_C_spendSlice_15 : decode b_C_spendSlice 15 = .ok (.getfield 105, 3) := by decide +kernel
theorem d_C_spendSlice_18 : decode b_C_spendSlice 18 = .ok (.iconst 3, 1) := by decide +kernel
theorem d_C_spendSlice_19 : decode b_C_spendSlice 19 = .ok (.if_icmp .ne 24, 3) := by decide +kernel
theorem d_C_spendSlice_22 : decode b_C_spendSlice 22 = .ok (.aload_n 0, 1) := by decide +kernel
theorem d_C_spendSlice_23 : decode b_C_spendSlice 23 = .ok (.getfield 23, 3) := by decide +kernel
theorem d_C_spendSlice_26 : decode b_C_spendSlice 26 = .ok (.aload_n 1, 1) := by decide +kernel
theorem d_C_spendSlice_27 : decode b_C_spendSlice 27 = .ok (.getfield 88, 3) := by decide +kernel
theorem d_C_spendSlice_30 : decode b_C_spendSlice 30 = .ok (.aaload, 1) := by decide +kernel
theorem d_C_spendSlice_31 : decode b_C_spendSlice 31 = .ok (.aload_n 1, 1) := by decide +kernel
theorem d_C_spendSlice_32 : decode b_C_spendSlice 32 = .ok (.getfield 73, 3) := by decide +kernel
theorem d_C_spendSlice_35 : decode b_C_spendSlice 35 = .ok (.invokevirtual 80, 3) := by decide +kernel
theorem d_C_spendSlice_38 : decode b_C_spendSlice 38 = .ok (.aload_n 0, 1) := by decide +kernel
theorem d_C_spendSlice_39 : decode b_C_spendSlice 39 = .ok (.aload_n 1, 1) := by decide +kernel
theorem d_C_spendSlice_40 : decode b_C_spendSlice 40 = .ok (.invokevirtual 94, 3) := by decide +kernel
theorem d_C_spendSlice_43 : decode b_C_spendSlice 43 = .ok (.return_, 1) := by decide +kernel
theorem d_C_perform_0 : decode b_C_perform 0 = .ok (.aload_n 1, 1) := by decide +kernel
theorem d_C_perform_1 : decode b_C_perform 1 = .ok (.getfield 99, 3) := by decide +kernel
theorem d_C_perform_4 : decode b_C_perform 4 = .ok (.astore 5, 2) := by decide +kernel
theorem d_C_perform_6 : decode b_C_perform 6 = .ok (.aload_n 1, 1) := by decide +kernel
theorem d_C_perform_7 : decode b_C_perform 7 = .ok (.getfield 102, 3) := by decide +kernel
theorem d_C_perform_10 : decode b_C_perform 10 = .ok (.iconst 1, 1) := by decide +kernel
theorem d_C_perform_11 : decode b_C_perform 11 = .ok (.iadd, 1) := by decide +kernel
theorem d_C_perform_12 : decode b_C_perform 12 = .ok (.istore 6, 2) := by decide +kernel
theorem d_C_perform_14 : decode b_C_perform 14 = .ok (.iload_n 2, 1) := by decide +kernel
theorem d_C_perform_15 : decode b_C_perform 15 = .ok (.tableswitch 217 0 11 #[61, 70, 85, 85, 85, 97, 116, 146, 174, 183, 195, 206], 61) := by decide +kernel
theorem d_C_perform_76 : decode b_C_perform 76 = .ok (.aload 5, 2) := by decide +kernel
theorem d_C_perform_78 : decode b_C_perform 78 = .ok (.iload_n 3, 1) := by decide +kernel
theorem d_C_perform_79 : decode b_C_perform 79 = .ok (.iload 4, 2) := by decide +kernel
theorem d_C_perform_81 : decode b_C_perform 81 = .ok (.iastore, 1) := by decide +kernel
theorem d_C_perform_82 : decode b_C_perform 82 = .ok (.goto 150, 3) := by decide +kernel
theorem d_C_perform_85 : decode b_C_perform 85 = .ok (.aload 5, 2) := by decide +kernel
theorem d_C_perform_87 : decode b_C_perform 87 = .ok (.iload_n 3, 1) := by decide +kernel
theorem d_C_perform_88 : decode b_C_perform 88 = .ok (.dup2, 1) := by decide +kernel
theorem d_C_perform_89 : decode b_C_perform 89 = .ok (.iaload, 1) := by decide +kernel
theorem d_C_perform_90 : decode b_C_perform 90 = .ok (.aload 5, 2) := by decide +kernel
theorem d_C_perform_92 : decode b_C_perform 92 = .ok (.iload 4, 2) := by decide +kernel
theorem d_C_perform_94 : decode b_C_perform 94 = .ok (.iaload, 1) := by decide +kernel
theorem d_C_perform_95 : decode b_C_perform 95 = .ok (.iadd, 1) := by decide +kernel
theorem d_C_perform_96 : decode b_C_perform 96 = .ok (.iastore, 1) := by decide +kernel
theorem d_C_perform_97 : decode b_C_perform 97 = .ok (.goto 135, 3) := by decide +kernel
theorem d_C_perform_100 : decode b_C_perform 100 = .ok (.aload_n 0, 1) := by decide +kernel
theorem d_C_perform_101 : decode b_C_perform 101 = .ok (.aload_n 1, 1) := by decide +kernel
theorem d_C_perform_102 : decode b_C_perform 102 = .ok (.iload_n 2, 1) := by decide +kernel
theorem d_C_perform_103 : decode b_C_perform 103 = .ok (.iload_n 3, 1) := by decide +kernel
theorem d_C_perform_104 : decode b_C_perform 104 = .ok (.iload 4, 2) := by decide +kernel
theorem d_C_perform_106 : decode b_C_perform 106 = .ok (.invokevirtual 198, 3) := by decide +kernel
theorem d_C_perform_109 : decode b_C_perform 109 = .ok (.goto 123, 3) := by decide +kernel
theorem d_C_perform_112 : decode b_C_perform 112 = .ok (.aload 5, 2) := by decide +kernel
theorem d_C_perform_114 : decode b_C_perform 114 = .ok (.iload_n 3, 1) := by decide +kernel
theorem d_C_perform_115 : decode b_C_perform 115 = .ok (.iaload, 1) := by decide +kernel
theorem d_C_perform_116 : decode b_C_perform 116 = .ok (.ifCond .eq 8, 3) := by decide +kernel
theorem d_C_perform_119 : decode b_C_perform 119 = .ok (.iload 4, 2) := by decide +kernel
theorem d_C_perform_121 : decode b_C_perform 121 = .ok (.goto 5, 3) := by decide +kernel
theorem d_C_perform_124 : decode b_C_perform 124 = .ok (.iload 6, 2) := by decide +kernel
theorem d_C_perform_126 : decode b_C_perform 126 = .ok (.istore 6, 2) := by decide +kernel
theorem d_C_perform_128 : decode b_C_perform 128 = .ok (.goto 104, 3) := by decide +kernel
theorem d_C_perform_131 : decode b_C_perform 131 = .ok (.aload 5, 2) := by decide +kernel
theorem d_C_perform_133 : decode b_C_perform 133 = .ok (.iload_n 3, 1) := by decide +kernel
theorem d_C_perform_134 : decode b_C_perform 134 = .ok (.aload_n 0, 1) := by decide +kernel
theorem d_C_perform_135 : decode b_C_perform 135 = .ok (.getfield 55, 3) := by decide +kernel
theorem d_C_perform_138 : decode b_C_perform 138 = .ok (.bipush 8, 2) := by decide +kernel
theorem d_C_perform_140 : decode b_C_perform 140 = .ok (.if_icmp .ne 7, 3) := by decide +kernel
theorem d_C_perform_143 : decode b_C_perform 143 = .ok (.iconst (-1), 1) := by decide +kernel
theorem d_C_perform_144 : decode b_C_perform 144 = .ok (.goto 13, 3) := by decide +kernel
theorem d_C_perform_147 : decode b_C_perform 147 = .ok (.aload_n 0, 1) := by decide +kernel
theorem d_C_perform_148 : decode b_C_perform 148 = .ok (.iload 4, 2) := by decide +kernel
theorem d_C_perform_150 : decode b_C_perform 150 = .ok (.aload_n 1, 1) := by decide +kernel
theorem d_C_perform_151 : decode b_C_perform 151 = .ok (.getfield 88, 3) := by decide +kernel
theorem d_C_perform_154 : decode b_C_perform 154 = .ok (.invokevirtual 58, 3) := by decide +kernel
theorem d_C_perform_157 : decode b_C_perform 157 = .ok (.iastore, 1) := by decide +kernel
theorem d_C_perform_158 : decode b_C_perform 158 = .ok (.goto 74, 3) := by decide +kernel
theorem d_C_perform_161 : decode b_C_perform 161 = .ok (.aload_n 0, 1) := by decide +kernel
theorem d_C_perform_162 : decode b_C_perform 162 = .ok (.aload_n 1, 1) := by decide +kernel
theorem d_C_perform_163 : decode b_C_perform 163 = .ok (.iload_n 3, 1) := by decide +kernel
theorem d_C_perform_164 : decode b_C_perform 164 = .ok (.invokevirtual 201, 3) := by decide +kernel
theorem d_C_perform_167 : decode b_C_perform 167 = .ok (.aload_n 1, 1) := by decide +kernel
theorem d_C_perform_168 : decode b_C_perform 168 = .ok (.getfield 70, 3) := by decide +kernel
theorem d_C_perform_171 : decode b_C_perform 171 = .ok (.iconst 3, 1) := by decide +kernel
theorem d_C_perform_172 : decode b_C_perform 172 = .ok (.if_icmp .ne 10, 3) := by decide +kernel
theorem d_C_perform_175 : decode b_C_perform 175 = .ok (.aload_n 1, 1) := by decide +kernel
theorem d_C_perform_176 : decode b_C_perform 176 = .ok (.getfield 102, 3) := by decide +kernel
theorem d_C_perform_179 : decode b_C_perform 179 = .ok (.goto 5, 3) := by decide +kernel
theorem d_C_perform_182 : decode b_C_perform 182 = .ok (.iload 6, 2) := by decide +kernel
theorem d_C_perform_184 : decode b_C_perform 184 = .ok (.istore 6, 2) := by decide +kernel
theorem d_C_perform_186 : decode b_C_perform 186 = .ok (.goto 46, 3) := by decide +kernel
theorem d_C_perform_189 : decode b_C_perform 189 = .ok (.aload_n 0, 1) := by decide +kernel
theorem d_C_perform_190 : decode b_C_perform 190 = .ok (.aload_n 1, 1) := by decide +kernel
theorem d_C_perform_191 : decode b_C_perform 191 = .ok (.iload_n 3, 1) := by decide +kernel
theorem d_C_perform_192 : decode b_C_perform 192 = .ok (.invokevirtual 204, 3) := by decide +kernel
theorem d_C_perform_195 : decode b_C_perform 195 = .ok (.goto 37, 3) := by decide +kernel
theorem d_C_perform_198 : decode b_C_perform 198 = .ok (.aload_n 0, 1) := by decide +kernel
theorem d_C_perform_199 : decode b_C_perform 199 = .ok (.aload_n 1, 1) := by decide +kernel
theorem d_C_perform_200 : decode b_C_perform 200 = .ok (.aload 5, 2) := by decide +kernel
theorem d_C_perform_202 : decode b_C_perform 202 = .ok (.iload_n 3, 1) := by decide +kernel
theorem d_C_perform_203 : decode b_C_perform 203 = .ok (.iaload, 1) := by decide +kernel
theorem d_C_perform_204 : decode b_C_perform 204 = .ok (.invokevirtual 163, 3) := by decide +kernel
theorem d_C_perform_207 : decode b_C_perform 207 = .ok (.goto 25, 3) := by decide +kernel
theorem d_C_perform_210 : decode b_C_perform 210 = .ok (.aload 5, 2) := by decide +kernel
theorem d_C_perform_212 : decode b_C_perform 212 = .ok (.iload_n 3, 1) := by decide +kernel
theorem d_C_perform_213 : decode b_C_perform 213 = .ok (.aload_n 1, 1) := by decide +kernel
theorem d_C_perform_214 : decode b_C_perform 214 = .ok (.getfield 73, 3) := by decide +kernel
theorem d_C_perform_217 : decode b_C_perform 217 = .ok (.iastore, 1) := by decide +kernel
theorem d_C_perform_218 : decode b_C_perform 218 = .ok (.goto 14, 3) := by decide +kernel
theorem d_C_perform_221 : decode b_C_perform 221 = .ok (.aload 5, 2) := by decide +kernel
theorem d_C_perform_223 : decode b_C_perform 223 = .ok (.iload_n 3, 1) := by decide +kernel
theorem d_C_perform_224 : decode b_C_perform 224 = .ok (.aload_n 1, 1) := by decide +kernel
theorem d_C_perform_225 : decode b_C_perform 225 = .ok (.getfield 88, 3) := by decide +kernel
theorem d_C_perform_228 : decode b_C_perform 228 = .ok (.iastore, 1) := by decide +kernel
theorem d_C_perform_229 : decode b_C_perform 229 = .ok (.goto 3, 3) := by decide +kernel
theorem d_C_perform_232 : decode b_C_perform 232 = .ok (.aload_n 1, 1) := by decide +kernel
theorem d_C_perform_233 : decode b_C_perform 233 = .ok (.iload 6, 2) := by decide +kernel
theorem d_C_perform_235 : decode b_C_perform 235 = .ok (.putfield 102, 3) := by decide +kernel
theorem d_C_perform_238 : decode b_C_perform 238 = .ok (.return_, 1) := by decide +kernel
theorem d_C_accessMemory_0 : decode b_C_accessMemory 0 = .ok (.aload_n 1, 1) := by decide +kernel
theorem d_C_accessMemory_1 : decode b_C_accessMemory 1 = .ok (.getfield 99, 3) := by decide +kernel
theorem d_C_accessMemory_4 : decode b_C_accessMemory 4 = .ok (.astore 5, 2) := by decide +kernel
theorem d_C_accessMemory_6 : decode b_C_accessMemory 6 = .ok (.aload 5, 2) := by decide +kernel
theorem d_C_accessMemory_8 : decode b_C_accessMemory 8 = .ok (.iload 4, 2) := by decide +kernel
theorem d_C_accessMemory_10 : decode b_C_accessMemory 10 = .ok (.iaload, 1) := by decide +kernel
theorem d_C_accessMemory_11 : decode b_C_accessMemory 11 = .ok (.invokestatic 179, 3) := by decide +kernel
theorem d_C_accessMemory_14 : decode b_C_accessMemory 14 = .ok (.istore 6, 2) := by decide +kernel
theorem d_C_accessMemory_16 : decode b_C_accessMemory 16 = .ok (.aload_n 0, 1) := by decide +kernel
theorem d_C_accessMemory_17 : decode b_C_accessMemory 17 = .ok (.aload_n 0, 1) := by decide +kernel
theorem d_C_accessMemory_18 : decode b_C_accessMemory 18 = .ok (.getfield 29, 3) := by decide +kernel
theorem d_C_accessMemory_21 : decode b_C_accessMemory 21 = .ok (.iload 6, 2) := by decide +kernel
theorem d_C_accessMemory_23 : decode b_C_accessMemory 23 = .ok (.iconst 4, 1) := by decide +kernel
theorem d_C_accessMemory_24 : decode b_C_accessMemory 24 = .ok (.idiv, 1) := by decide +kernel
theorem d_C_accessMemory_25 : decode b_C_accessMemory 25 = .ok (.aaload, 1) := by decide +kernel
theorem d_C_accessMemory_26 : decode b_C_accessMemory 26 = .ok (.aload_n 1, 1) := by decide +kernel
theorem d_C_accessMemory_27 : decode b_C_accessMemory 27 = .ok (.getfield 88, 3) := by decide +kernel
theorem d_C_accessMemory_30 : decode b_C_accessMemory 30 = .ok (.invokevirtual 207, 3) := by decide +kernel
theorem d_C_accessMemory_33 : decode b_C_accessMemory 33 = .ok (.iload_n 2, 1) := by decide +kernel
theorem d_C_accessMemory_34 : decode b_C_accessMemory 34 = .ok (.iconst 2, 1) := by decide +kernel
theorem d_C_accessMemory_35 : decode b_C_accessMemory 35 = .ok (.if_icmp .ne 17, 3) := by decide +kernel
theorem d_C_accessMemory_38 : decode b_C_accessMemory 38 = .ok (.aload 5, 2) := by decide +kernel
theorem d_C_accessMemory_40 : decode b_C_accessMemory 40 = .ok (.iload_n 3, 1) := by decide +kernel
theorem d_C_accessMemory_41 : decode b_C_accessMemory 41 = .ok (.aload_n 0, 1) := by decide +kernel
theorem d_C_accessMemory_42 : decode b_C_accessMemory 42 = .ok (.getfield 33, 3) := by decide +kernel
theorem d_C_accessMemory_45 : decode b_C_accessMemory 45 = .ok (.iload 6, 2) := by decide +kernel
theorem d_C_accessMemory_47 : decode b_C_accessMemory 47 = .ok (.iaload, 1) := by decide +kernel
theorem d_C_accessMemory_48 : decode b_C_accessMemory 48 = .ok (.iastore, 1) := by decide +kernel
theorem d_C_accessMemory_49 : decode b_C_accessMemory 49 = .ok (.goto 60, 3) := by decide +kernel
theorem d_C_accessMemory_52 : decode b_C_accessMemory 52 = .ok (.iload_n 2, 1) := by decide +kernel
theorem d_C_accessMemory_53 : decode b_C_accessMemory 53 = .ok (.iconst 3, 1) := by decide +kernel
theorem d_C_accessMemory_54 : decode b_C_accessMemory 54 = .ok (.if_icmp .ne 17, 3) := by decide +kernel
theorem d_C_accessMemory_57 : decode b_C_accessMemory 57 = .ok (.aload_n 0, 1) := by decide +kernel
theorem d_C_accessMemory_58 : decode b_C_accessMemory 58 = .ok (.getfield 33, 3) := by decide +kernel
theorem d_C_accessMemory_61 : decode b_C_accessMemory 61 = .ok (.iload 6, 2) := by decide +kernel
theorem d_C_accessMemory_63 : decode b_C_accessMemory 63 = .ok (.aload 5, 2) := by decide +kernel
theorem d_C_accessMemory_65 : decode b_C_accessMemory 65 = .ok (.iload_n 3, 1) := by decide +kernel
theorem d_C_accessMemory_66 : decode b_C_accessMemory 66 = .ok (.iaload, 1) := by decide +kernel
theorem d_C_accessMemory_67 : decode b_C_accessMemory 67 = .ok (.iastore, 1) := by decide +kernel
theorem d_C_accessMemory_68 : decode b_C_accessMemory 68 = .ok (.goto 41, 3) := by decide +kernel
theorem d_C_accessMemory_71 : decode b_C_accessMemory 71 = .ok (.aload_n 0, 1) := by decide +kernel
theorem d_C_accessMemory_72 : decode b_C_accessMemory 72 = .ok (.getfield 33, 3) := by decide +kernel
theorem d_C_accessMemory_75 : decode b_C_accessMemory 75 = .ok (.iload 6, 2) := by decide +kernel
theorem d_C_accessMemory_77 : decode b_C_accessMemory 77 = .ok (.iaload, 1) := by decide +kernel
theorem d_C_accessMemory_78 : decode b_C_accessMemory 78 = .ok (.aload 5, 2) := by decide +kernel
theorem d_C_accessMemory_80 : decode b_C_accessMemory 80 = .ok (.iconst 3, 1) := by decide +kernel
theorem d_C_accessMemory_81 : decode b_C_accessMemory 81 = .ok (.iaload, 1) := by decide +kernel
theorem d_C_accessMemory_82 : decode b_C_accessMemory 82 = .ok (.if_icmp .ne 22, 3) := by decide +kernel
theorem d_C_accessMemory_85 : decode b_C_accessMemory 85 = .ok (.aload_n 0, 1) := by decide +kernel
theorem d_C_accessMemory_86 : decode b_C_accessMemory 86 = .ok (.getfield 33, 3) := by decide +kernel
theorem d_C_accessMemory_89 : decode b_C_accessMemory 89 = .ok (.iload 6, 2) := by decide +kernel
theorem d_C_accessMemory_91 : decode b_C_accessMemory 91 = .ok (.aload 5, 2) := by decide +kernel
theorem d_C_accessMemory_93 : decode b_C_accessMemory 93 = .ok (.iload_n 3, 1) := by decide +kernel
theorem d_C_accessMemory_94 : decode b_C_accessMemory 94 = .ok (.iaload, 1) := by decide +kernel
theorem d_C_accessMemory_95 : decode b_C_accessMemory 95 = .ok (.iastore, 1) := by decide +kernel
theorem d_C_accessMemory_96 : decode b_C_accessMemory 96 = .ok (.aload 5, 2) := by decide +kernel
theorem d_C_accessMemory_98 : decode b_C_accessMemory 98 = .ok (.iconst 3, 1) := by decide +kernel
theorem d_C_accessMemory_99 : decode b_C_accessMemory 99 = .ok (.iconst 1, 1) := by decide +kernel
theorem d_C_accessMemory_100 : decode b_C_accessMemory 100 = .ok (.iastore, 1) := by decide +kernel
theorem d_C_accessMemory_101 : decode b_C_accessMemory 101 = .ok (.goto 8, 3) := by decide +kernel
theorem d_C_accessMemory_104 : decode b_C_accessMemory 104 = .ok (.aload 5, 2) := by decide +kernel
theorem d_C_accessMemory_106 : decode b_C_accessMemory 106 = .ok (.iconst 3, 1) := by decide +kernel
theorem d_C_accessMemory_107 : decode b_C_accessMemory 107 = .ok (.iconst 0, 1) := by decide +kernel
theorem d_C_accessMemory_108 : decode b_C_accessMemory 108 = .ok (.iastore, 1) := by decide +kernel
theorem d_C_accessMemory_109 : decode b_C_accessMemory 109 = .ok (.return_, 1) := by decide +kernel
theorem d_C_isOther_0 : decode b_C_isOther 0 = .ok (.iload_n 2, 1) := by decide +kernel
theorem d_C_isOther_1 : decode b_C_isOther 1 = .ok (.aload_n 0, 1) := by decide +kernel
theorem d_C_isOther_2 : decode b_C_isOther 2 = .ok (.getfield 55, 3) := by decide +kernel
theorem d_C_isOther_5 : decode b_C_isOther 5 = .ok (.invokestatic 40, 3) := by decide +kernel
theorem d_C_isOther_8 : decode b_C_isOther 8 = .ok (.ifCond .eq 15, 3) := by decide +kernel
theorem d_C_isOther_11 : decode b_C_isOther 11 = .ok (.iload_n 2, 1) := by decide +kernel
theorem d_C_isOther_12 : decode b_C_isOther 12 = .ok (.aload_n 1, 1) := by decide +kernel
theorem d_C_isOther_13 : decode b_C_isOther 13 = .ok (.getfield 73, 3) := by decide +kernel
theorem d_C_isOther_16 : decode b_C_isOther 16 = .ok (.if_icmp .eq 7, 3) := by decide +kernel
theorem d_C_isOther_19 : decode b_C_isOther 19 = .ok (.iconst 1, 1) := by decide +kernel
theorem d_C_isOther_20 : decode b_C_isOther 20 = .ok (.goto 4, 3) := by decide +kernel
theorem d_C_isOther_23 : decode b_C_isOther 23 = .ok (.iconst 0, 1) := by decide +kernel
theorem d_C_isOther_24 : decode b_C_isOther 24 = .ok (.ireturn, 1) := by decide +kernel
theorem d_C_waitFor_0 : decode b_C_waitFor 0 = .ok (.aload_n 1, 1) := by decide +kernel
theorem d_C_waitFor_1 : decode b_C_waitFor 1 = .ok (.getfield 99, 3) := by decide +kernel
theorem d_C_waitFor_4 : decode b_C_waitFor 4 = .ok (.iload_n 2, 1) := by decide +kernel
theorem d_C_waitFor_5 : decode b_C_waitFor 5 = .ok (.iaload, 1) := by decide +kernel
theorem d_C_waitFor_6 : decode b_C_waitFor 6 = .ok (.istore_n 3, 1) := by decide +kernel
theorem d_C_waitFor_7 : decode b_C_waitFor 7 = .ok (.aload_n 0, 1) := by decide +kernel
theorem d_C_waitFor_8 : decode b_C_waitFor 8 = .ok (.aload_n 1, 1) := by decide +kernel
theorem d_C_waitFor_9 : decode b_C_waitFor 9 = .ok (.iload_n 3, 1) := by decide +kernel
theorem d_C_waitFor_10 : decode b_C_waitFor 10 = .ok (.invokevirtual 211, 3) := by decide +kernel
theorem d_C_waitFor_13 : decode b_C_waitFor 13 = .ok (.ifCond .ne 13, 3) := by decide +kernel
theorem d_C_waitFor_16 : decode b_C_waitFor 16 = .ok (.aload_n 1, 1) := by decide +kernel
theorem d_C_waitFor_17 : decode b_C_waitFor 17 = .ok (.getfield 99, 3) := by decide +kernel
theorem d_C_waitFor_20 : decode b_C_waitFor 20 = .ok (.iload_n 2, 1) := by decide +kernel
theorem d_C_waitFor_21 : decode b_C_waitFor 21 = .ok (.iconst (-1), 1) := by decide +kernel
theorem d_C_waitFor_22 : decode b_C_waitFor 22 = .ok (.iastore, 1) := by decide +kernel
theorem d_C_waitFor_23 : decode b_C_waitFor 23 = .ok (.goto 45, 3) := by decide +kernel
theorem d_C_waitFor_26 : decode b_C_waitFor 26 = .ok (.aload_n 0, 1) := by decide +kernel
theorem d_C_waitFor_27 : decode b_C_waitFor 27 = .ok (.getfield 17, 3) := by decide +kernel
theorem d_C_waitFor_30 : decode b_C_waitFor 30 = .ok (.iload_n 3, 1) := by decide +kernel
theorem d_C_waitFor_31 : decode b_C_waitFor 31 = .ok (.aaload, 1) := by decide +kernel
theorem d_C_waitFor_32 : decode b_C_waitFor 32 = .ok (.getfield 70, 3) := by decide +kernel
theorem d_C_waitFor_35 : decode b_C_waitFor 35 = .ok (.iconst 4, 1) := by decide +kernel
theorem d_C_waitFor_36 : decode b_C_waitFor 36 = .ok (.if_icmp .ne 21, 3) := by decide +kernel
theorem d_C_waitFor_39 : decode b_C_waitFor 39 = .ok (.aload_n 1, 1) := by decide +kernel
theorem d_C_waitFor_40 : decode b_C_waitFor 40 = .ok (.getfield 99, 3) := by decide +kernel
theorem d_C_waitFor_43 : decode b_C_waitFor 43 = .ok (.iload_n 2, 1) := by decide +kernel
theorem d_C_waitFor_44 : decode b_C_waitFor 44 = .ok (.aload_n 0, 1) := by decide +kernel
theorem d_C_waitFor_45 : decode b_C_waitFor 45 = .ok (.getfield 17, 3) := by decide +kernel
theorem d_C_waitFor_48 : decode b_C_waitFor 48 = .ok (.iload_n 3, 1) := by decide +kernel
theorem d_C_waitFor_49 : decode b_C_waitFor 49 = .ok (.aaload, 1) := by decide +kernel
theorem d_C_waitFor_50 : decode b_C_waitFor 50 = .ok (.getfield 108, 3) := by decide +kernel
theorem d_C_waitFor_53 : decode b_C_waitFor 53 = .ok (.iastore, 1) := by decide +kernel
theorem d_C_waitFor_54 : decode b_C_waitFor 54 = .ok (.goto 14, 3) := by decide +kernel
theorem d_C_waitFor_57 : decode b_C_waitFor 57 = .ok (.aload_n 0, 1) := by decide +kernel
theorem d_C_waitFor_58 : decode b_C_waitFor 58 = .ok (.aload_n 1, 1) := by decide +kernel
theorem d_C_waitFor_59 : decode b_C_waitFor 59 = .ok (.iconst 3, 1) := by decide +kernel
theorem d_C_waitFor_60 : decode b_C_waitFor 60 = .ok (.invokevirtual 153, 3) := by decide +kernel
theorem d_C_waitFor_63 : decode b_C_waitFor 63 = .ok (.aload_n 1, 1) := by decide +kernel
theorem d_C_waitFor_64 : decode b_C_waitFor 64 = .ok (.iload_n 3, 1) := by decide +kernel
theorem d_C_waitFor_65 : decode b_C_waitFor 65 = .ok (.putfield 157, 3) := by decide +kernel
theorem d_C_waitFor_68 : decode b_C_waitFor 68 = .ok (.return_, 1) := by decide +kernel
theorem d_C_killOther_0 : decode b_C_killOther 0 = .ok (.aload_n 1, 1) := by decide +kernel
theorem d_C_killOther_1 : decode b_C_killOther 1 = .ok (.getfield 99, 3) := by decide +kernel
theorem d_C_killOther_4 : decode b_C_killOther 4 = .ok (.iload_n 2, 1) := by decide +kernel
theorem d_C_killOther_5 : decode b_C_killOther 5 = .ok (.iaload, 1) := by decide +kernel
theorem d_C_killOther_6 : decode b_C_killOther 6 = .ok (.istore_n 3, 1) := by decide +kernel
theorem d_C_killOther_7 : decode b_C_killOther 7 = .ok (.aload_n 0, 1) := by decide +kernel
theorem d_C_killOther_8 : decode b_C_killOther 8 = .ok (.aload_n 1, 1) := by decide +kernel
theorem d_C_killOther_9 : decode b_C_killOther 9 = .ok (.iload_n 3, 1) := by decide +kernel
theorem d_C_killOther_10 : decode b_C_killOther 10 = .ok (.invokevirtual 211, 3) := by decide +kernel
theorem d_C_killOther_13 : decode b_C_killOther 13 = .ok (.ifCond .eq 16, 3) := by decide +kernel
theorem d_C_killOther_16 : decode b_C_killOther 16 = .ok (.aload_n 0, 1) := by decide +kernel
theorem d_C_killOther_17 : decode b_C_killOther 17 = .ok (.getfield 17, 3) := by decide +kernel
theorem d_C_killOther_20 : decode b_C_killOther 20 = .ok (.iload_n 3, 1) := by decide +kernel
theorem d_C_killOther_21 : decode b_C_killOther 21 = .ok (.aaload, 1) := by decide +kernel
theorem d_C_killOther_22 : decode b_C_killOther 22 = .ok (.getfield 70, 3) := by decide +kernel
theorem d_C_killOther_25 : decode b_C_killOther 25 = .ok (.iconst 4, 1) := by decide +kernel
theorem d_C_killOther_26 : decode b_C_killOther 26 = .ok (.if_icmp .ne 13, 3) := by decide +kernel
theorem d_C_killOther_29 : decode b_C_killOther 29 = .ok (.aload_n 1, 1) := by decide +kernel
theorem d_C_killOther_30 : decode b_C_killOther 30 = .ok (.getfield 99, 3) := by decide +kernel
theorem d_C_killOther_33 : decode b_C_killOther 33 = .ok (.iload_n 2, 1) := by decide +kernel
theorem d_C_killOther_34 : decode b_C_killOther 34 = .ok (.iconst (-1), 1) := by decide +kernel
theorem d_C_killOther_35 : decode b_C_killOther 35 = .ok (.iastore, 1) := by decide +kernel
theorem d_C_killOther_36 : decode b_C_killOther 36 = .ok (.goto 22, 3) := by decide +kernel
theorem d_C_killOther_39 : decode b_C_killOther 39 = .ok (.aload_n 0, 1) := by decide +kernel
theorem d_C_killOther_40 : decode b_C_killOther 40 = .ok (.aload_n 0, 1) := by decide +kernel
theorem d_C_killOther_41 : decode b_C_killOther 41 = .ok (.getfield 17, 3) := by decide +kernel
theorem d_C_killOther_44 : decode b_C_killOther 44 = .ok (.iload_n 3, 1) := by decide +kernel
theorem d_C_killOther_45 : decode b_C_killOther 45 = .ok (.aaload, 1) := by decide +kernel
theorem d_C_killOther_46 : decode b_C_killOther 46 = .ok (.bipush (-9), 2) := by decide +kernel
theorem d_C_killOther_48 : decode b_C_killOther 48 = .ok (.invokevirtual 163, 3) := by decide +kernel
theorem d_C_killOther_51 : decode b_C_killOther 51 = .ok (.aload_n 1, 1) := by decide +kernel
theorem d_C_killOther_52 : decode b_C_killOther 52 = .ok (.getfield 99, 3) := by decide +kernel
theorem d_C_killOther_55 : decode b_C_killOther 55 = .ok (.iload_n 2, 1) := by decide +kernel
theorem d_C_killOther_56 : decode b_C_killOther 56 = .ok (.iconst 0, 1) := by decide +kernel
theorem d_C_killOther_57 : decode b_C_killOther 57 = .ok (.iastore, 1) := by decide +kernel
theorem d_C_killOther_58 : decode b_C_killOther 58 = .ok (.return_, 1) := by decide +kernel
theorem d_C_usePage_0 : decode b_C_usePage 0 = .ok (.aload_n 0, 1) := by decide +kernel
theorem d_C_usePage_1 : decode b_C_usePage 1 = .ok (.dup, 1) := by decide +kernel
theorem d_C_usePage_2 : decode b_C_usePage 2 = .ok (.getfield 215, 3) := by decide +kernel
theorem d_C_usePage_5 : decode b_C_usePage 5 = .ok (.iconst 1, 1) := by decide +kernel
theorem d_C_usePage_6 : decode b_C_usePage 6 = .ok (.iadd, 1) := by decide +kernel
theorem d_C_usePage_7 : decode b_C_usePage 7 = .ok (.putfield 215, 3) := by decide +kernel
theorem d_C_usePage_10 : decode b_C_usePage 10 = .ok (.aload_n 1, 1) := by decide +kernel
theorem d_C_usePage_11 : decode b_C_usePage 11 = .ok (.getfield 218, 3) := by decide +kernel
theorem d_C_usePage_14 : decode b_C_usePage 14 = .ok (.iload_n 2, 1) := by decide +kernel
theorem d_C_usePage_15 : decode b_C_usePage 15 = .ok (.aload_n 0, 1) := by decide +kernel
theorem d_C_usePage_16 : decode b_C_usePage 16 = .ok (.getfield 215, 3) := by decide +kernel
theorem d_C_usePage_19 : decode b_C_usePage 19 = .ok (.iastore, 1) := by decide +kernel
theorem d_C_usePage_20 : decode b_C_usePage 20 = .ok (.return_, 1) := by decide +kernel
theorem d_C_grantRequest_0 : decode b_C_grantRequest 0 = .ok (.aload_n 2, 1) := by decide +kernel
theorem d_C_grantRequest_1 : decode b_C_grantRequest 1 = .ok (.getfield 88, 3) := by decide +kernel
theorem d_C_grantRequest_4 : decode b_C_grantRequest 4 = .ok (.istore_n 3, 1) := by decide +kernel
theorem d_C_grantRequest_5 : decode b_C_grantRequest 5 = .ok (.aload_n 0, 1) := by decide +kernel
theorem d_C_grantRequest_6 : decode b_C_grantRequest 6 = .ok (.dup, 1) := by decide +kernel
theorem d_C_grantRequest_7 : decode b_C_grantRequest 7 = .ok (.getfield 140, 3) := by decide +kernel
theorem d_C_grantRequest_10 : decode b_C_grantRequest 10 = .ok (.iconst 1, 1) := by decide +kernel
theorem d_C_grantRequest_11 : decode b_C_grantRequest 11 = .ok (.iadd, 1) := by decide +kernel
theorem d_C_grantRequest_12 : decode b_C_grantRequest 12 = .ok (.putfield 140, 3) := by decide +kernel
theorem d_C_grantRequest_15 : decode b_C_grantRequest 15 = .ok (.aload_n 0, 1) := by decide +kernel
theorem d_C_grantRequest_16 : decode b_C_grantRequest 16 = .ok (.dup, 1) := by decide +kernel
theorem d_C_grantRequest_17 : decode b_C_grantRequest 17 = .ok (.getfield 124, 3) := by decide +kernel
theorem d_C_grantRequest_20 : decode b_C_grantRequest 20 = .ok (.iconst 1, 1) := by decide +kernel
theorem d_C_grantRequest_21 : decode b_C_grantRequest 21 = .ok (.iadd, 1) := by decide +kernel
theorem d_C_grantRequest_22 : decode b_C_grantRequest 22 = .ok (.putfield 124, 3) := by decide +kernel
theorem d_C_grantRequest_25 : decode b_C_grantRequest 25 = .ok (.aload_n 1, 1) := by decide +kernel
theorem d_C_grantRequest_26 : decode b_C_grantRequest 26 = .ok (.getfield 118, 3) := by decide +kernel
theorem d_C_grantRequest_29 : decode b_C_grantRequest 29 = .ok (.iload_n 3, 1) := by decide +kernel
theorem d_C_grantRequest_30 : decode b_C_grantRequest 30 = .ok (.iaload, 1) := by decide +kernel
theorem d_C_grantRequest_31 : decode b_C_grantRequest 31 = .ok (.ifCond .ne 18, 3) := by decide +kernel
theorem d_C_grantRequest_34 : decode b_C_grantRequest 34 = .ok (.aload_n 0, 1) := by decide +kernel
theorem d_C_grantRequest_35 : decode b_C_grantRequest 35 = .ok (.dup, 1) := by decide +kernel
theorem d_C_grantRequest_36 : decode b_C_grantRequest 36 = .ok (.getfield 124, 3) := by decide +kernel
theorem d_C_grantRequest_39 : decode b_C_grantRequest 39 = .ok (.iconst 1, 1) := by decide +kernel
theorem d_C_grantRequest_40 : decode b_C_grantRequest 40 = .ok (.iadd, 1) := by decide +kernel
theorem d_C_grantRequest_41 : decode b_C_grantRequest 41 = .ok (.putfield 124, 3) := by decide +kernel
theorem d_C_grantRequest_44 : decode b_C_grantRequest 44 = .ok (.aload_n 0, 1) := by decide +kernel
theorem d_C_grantRequest_45 : decode b_C_grantRequest 45 = .ok (.iload_n 3, 1) := by decide +kernel
theorem d_C_grantRequest_46 : decode b_C_grantRequest 46 = .ok (.invokevirtual 221, 3) := by decide +kernel
theorem d_C_grantRequest_49 : decode b_C_grantRequest 49 = .ok (.aload_n 2, 1) := by decide +kernel
theorem d_C_grantRequest_50 : decode b_C_grantRequest 50 = .ok (.getfield 195, 3) := by decide +kernel
theorem d_C_grantRequest_53 : decode b_C_grantRequest 53 = .ok (.iconst 2, 1) := by decide +kernel
theorem d_C_grantRequest_54 : decode b_C_grantRequest 54 = .ok (.if_icmp .ne 20, 3) := by decide +kernel
theorem d_C_grantRequest_57 : decode b_C_grantRequest 57 = .ok (.aload_n 0, 1) := by decide +kernel
theorem d_C_grantRequest_58 : decode b_C_grantRequest 58 = .ok (.dup, 1) := by decide +kernel
theorem d_C_grantRequest_59 : decode b_C_grantRequest 59 = .ok (.getfield 124, 3) := by decide +kernel
theorem d_C_grantRequest_62 : decode b_C_grantRequest 62 = .ok (.aload_n 1, 1) := by decide +kernel
theorem d_C_grantRequest_63 : decode b_C_grantRequest 63 = .ok (.iload_n 3, 1) := by decide +kernel
theorem d_C_grantRequest_64 : decode b_C_grantRequest 64 = .ok (.invokevirtual 224, 3) := by decide +kernel
theorem d_C_grantRequest_67 : decode b_C_grantRequest 67 = .ok (.iadd, 1) := by decide +kernel
theorem d_C_grantRequest_68 : decode b_C_grantRequest 68 = .ok (.putfield 124, 3) := by decide +kernel
theorem d_C_grantRequest_71 : decode b_C_grantRequest 71 = .ok (.goto 8, 3) := by decide +kernel
theorem d_C_grantRequest_74 : decode b_C_grantRequest 74 = .ok (.aload_n 1, 1) := by decide +kernel
theorem d_C_grantRequest_75 : decode b_C_grantRequest 75 = .ok (.iload_n 3, 1) := by decide +kernel
theorem d_C_grantRequest_76 : decode b_C_grantRequest 76 = .ok (.invokevirtual 227, 3) := by decide +kernel
theorem d_C_grantRequest_79 : decode b_C_grantRequest 79 = .ok (.aload_n 0, 1) := by decide +kernel
theorem d_C_grantRequest_80 : decode b_C_grantRequest 80 = .ok (.aload_n 1, 1) := by decide +kernel
theorem d_C_grantRequest_81 : decode b_C_grantRequest 81 = .ok (.iload_n 3, 1) := by decide +kernel
theorem d_C_grantRequest_82 : decode b_C_grantRequest 82 = .ok (.invokevirtual 207, 3) := by decide +kernel
theorem d_C_grantRequest_85 : decode b_C_grantRequest 85 = .ok (.aload_n 0, 1) := by decide +kernel
theorem d_C_grantRequest_86 : decode b_C_grantRequest 86 = .ok (.aload_n 2, 1) := by decide +kernel
theorem d_C_grantRequest_87 : decode b_C_grantRequest 87 = .ok (.invokevirtual 94, 3) := by decide +kernel
theorem d_C_grantRequest_90 : decode b_C_grantRequest 90 = .ok (.return_, 1) := by decide +kernel
theorem d_C_makeRoom_0 : decode b_C_makeRoom 0 = .ok (.iconst 0, 1) := by decide +kernel
theorem d_C_makeRoom_1 : decode b_C_makeRoom 1 = .ok (.istore_n 2, 1) := by decide +kernel
theorem d_C_makeRoom_2 : decode b_C_makeRoom 2 = .ok (.aconst_null, 1) := by decide +kernel
theorem d_C_makeRoom_3 : decode b_C_makeRoom 3 = .ok (.astore_n 3, 1) := by decide +kernel
theorem d_C_makeRoom_4 : decode b_C_makeRoom 4 = .ok (.iconst 0, 1) := by decide +kernel
theorem d_C_makeRoom_5 : decode b_C_makeRoom 5 = .ok (.istore 4, 2) := by decide +kernel
theorem d_C_makeRoom_7 : decode b_C_makeRoom 7 = .ok (.iload 4, 2) := by decide +kernel
theorem d_C_makeRoom_9 : decode b_C_makeRoom 9 = .ok (.bipush 8, 2) := by decide +kernel
theorem d_C_makeRoom_11 : decode b_C_makeRoom 11 = .ok (.if_icmp .ge 54, 3) := by decide +kernel
theorem d_C_makeRoom_14 : decode b_C_makeRoom 14 = .ok (.aload_n 0, 1) := by decide +kernel
theorem d_C_makeRoom_15 : decode b_C_makeRoom 15 = .ok (.getfield 29, 3) := by decide +kernel
theorem d_C_makeRoom_18 : decode b_C_makeRoom 18 = .ok (.iload 4, 2) := by decide +kernel
theorem d_C_makeRoom_20 : decode b_C_makeRoom 20 = .ok (.aaload, 1) := by decide +kernel
theorem d_C_makeRoom_21 : decode b_C_makeRoom 21 = .ok (.astore 5, 2) := by decide +kernel
theorem d_C_makeRoom_23 : decode b_C_makeRoom 23 = .ok (.aload 5, 2) := by decide +kernel
theorem d_C_makeRoom_25 : decode b_C_makeRoom 25 = .ok (.getfield 118, 3) := by decide +kernel
theorem d_C_makeRoom_28 : decode b_C_makeRoom 28 = .ok (.iload_n 1, 1) := by decide +kernel
theorem d_C_makeRoom_29 : decode b_C_makeRoom 29 = .ok (.iaload, 1) := by decide +kernel
theorem d_C_makeRoom_30 : decode b_C_makeRoom 30 = .ok (.ifCond .eq 29, 3) := by decide +kernel
theorem d_C_makeRoom_33 : decode b_C_makeRoom 33 = .ok (.iinc 2 1, 3) := by decide +kernel
theorem d_C_makeRoom_36 : decode b_C_makeRoom 36 = .ok (.aload_n 3, 1) := by decide +kernel
theorem d_C_makeRoom_37 : decode b_C_makeRoom 37 = .ok (.ifnull 19, 3) := by decide +kernel
theorem d_C_makeRoom_40 : decode b_C_makeRoom 40 = .ok (.aload 5, 2) := by decide +kernel
theorem d_C_makeRoom_42 : decode b_C_makeRoom 42 = .ok (.getfield 218, 3) := by decide +kernel
theorem d_C_makeRoom_45 : decode b_C_makeRoom 45 = .ok (.iload_n 1, 1) := by decide +kernel
theorem d_C_makeRoom_46 : decode b_C_makeRoom 46 = .ok (.iaload, 1) := by decide +kernel
theorem d_C_makeRoom_47 : decode b_C_makeRoom 47 = .ok (.aload_n 3, 1) := by decide +kernel
theorem d_C_makeRoom_48 : decode b_C_makeRoom 48 = .ok (.getfield 218, 3) := by decide +kernel
theorem d_C_makeRoom_51 : decode b_C_makeRoom 51 = .ok (.iload_n 1, 1) := by decide +kernel
theorem d_C_makeRoom_52 : decode b_C_makeRoom 52 = .ok (.iaload, 1) := by decide +kernel
theorem d_C_makeRoom_53 : decode b_C_makeRoom 53 = .ok (.if_icmp .ge 6, 3) := by decide +kernel
theorem d_C_makeRoom_56 : decode b_C_makeRoom 56 = .ok (.aload 5, 2) := by decide +kernel
theorem d_C_makeRoom_58 : decode b_C_makeRoom 58 = .ok (.astore_n 3, 1) := by decide +kernel
theorem d_C_makeRoom_59 : decode b_C_makeRoom 59 = .ok (.iinc 4 1, 3) := by decide +kernel
theorem d_C_makeRoom_62 : decode b_C_makeRoom 62 = .ok (.goto (-55), 3) := by decide +kernel
theorem d_C_makeRoom_65 : decode b_C_makeRoom 65 = .ok (.aload_n 3, 1) := by decide +kernel
theorem d_C_makeRoom_66 : decode b_C_makeRoom 66 = .ok (.ifnull 14, 3) := by decide +kernel
theorem d_C_makeRoom_69 : decode b_C_makeRoom 69 = .ok (.iload_n 2, 1) := by decide +kernel
theorem d_C_makeRoom_70 : decode b_C_makeRoom 70 = .ok (.iconst 3, 1) := by decide +kernel
theorem d_C_makeRoom_71 : decode b_C_makeRoom 71 = .ok (.if_icmp .ne 9, 3) := by decide +kernel
theorem d_C_makeRoom_74 : decode b_C_makeRoom 74 = .ok (.aload_n 0, 1) := by decide +kernel
theorem d_C_makeRoom_75 : decode b_C_makeRoom 75 = .ok (.aload_n 3, 1) := by decide +kernel
theorem d_C_makeRoom_76 : decode b_C_makeRoom 76 = .ok (.iload_n 1, 1) := by decide +kernel
theorem d_C_makeRoom_77 : decode b_C_makeRoom 77 = .ok (.invokevirtual 230, 3) := by decide +kernel
theorem d_C_makeRoom_80 : decode b_C_makeRoom 80 = .ok (.return_, 1) := by decide +kernel
theorem d_C_giveUp_0 : decode b_C_giveUp 0 = .ok (.aload_n 0, 1) := by decide +kernel
theorem d_C_giveUp_1 : decode b_C_giveUp 1 = .ok (.dup, 1) := by decide +kernel
theorem d_C_giveUp_2 : decode b_C_giveUp 2 = .ok (.getfield 130, 3) := by decide +kernel
theorem d_C_giveUp_5 : decode b_C_giveUp 5 = .ok (.iconst 1, 1) := by decide +kernel
theorem d_C_giveUp_6 : decode b_C_giveUp 6 = .ok (.iadd, 1) := by decide +kernel
theorem d_C_giveUp_7 : decode b_C_giveUp 7 = .ok (.putfield 130, 3) := by decide +kernel
theorem d_C_giveUp_10 : decode b_C_giveUp 10 = .ok (.aload_n 1, 1) := by decide +kernel
theorem d_C_giveUp_11 : decode b_C_giveUp 11 = .ok (.getfield 118, 3) := by decide +kernel
theorem d_C_giveUp_14 : decode b_C_giveUp 14 = .ok (.iload_n 2, 1) := by decide +kernel
theorem d_C_giveUp_15 : decode b_C_giveUp 15 = .ok (.iconst 0, 1) := by decide +kernel
theorem d_C_giveUp_16 : decode b_C_giveUp 16 = .ok (.iastore, 1) := by decide +kernel
theorem d_C_giveUp_17 : decode b_C_giveUp 17 = .ok (.aload_n 1, 1) := by decide +kernel
theorem d_C_giveUp_18 : decode b_C_giveUp 18 = .ok (.getfield 121, 3) := by decide +kernel
theorem d_C_giveUp_21 : decode b_C_giveUp 21 = .ok (.iload_n 2, 1) := by decide +kernel
theorem d_C_giveUp_22 : decode b_C_giveUp 22 = .ok (.if_icmp .ne 33, 3) := by decide +kernel
theorem d_C_giveUp_25 : decode b_C_giveUp 25 = .ok (.aload_n 1, 1) := by decide +kernel
theorem d_C_giveUp_26 : decode b_C_giveUp 26 = .ok (.aload_n 1, 1) := by decide +kernel
theorem d_C_giveUp_27 : decode b_C_giveUp 27 = .ok (.invokevirtual 233, 3) := by decide +kernel
theorem d_C_giveUp_30 : decode b_C_giveUp 30 = .ok (.putfield 121, 3) := by decide +kernel
theorem d_C_giveUp_33 : decode b_C_giveUp 33 = .ok (.aload_n 0, 1) := by decide +kernel
theorem d_C_giveUp_34 : decode b_C_giveUp 34 = .ok (.dup, 1) := by decide +kernel
theorem d_C_giveUp_35 : decode b_C_giveUp 35 = .ok (.getfield 124, 3) := by decide +kernel
theorem d_C_giveUp_38 : decode b_C_giveUp 38 = .ok (.aload_n 1, 1) := by decide +kernel
theorem d_C_giveUp_39 : decode b_C_giveUp 39 = .ok (.getfield 121, 3) := by decide +kernel
theorem d_C_giveUp_42 : decode b_C_giveUp 42 = .ok (.iconst 3, 1) := by decide +kernel
theorem d_C_giveUp_43 : decode b_C_giveUp 43 = .ok (.if_icmp .ne 7, 3) := by decide +kernel
theorem d_C_giveUp_46 : decode b_C_giveUp 46 = .ok (.iconst 1, 1) := by decide +kernel
theorem d_C_giveUp_47 : decode b_C_giveUp 47 = .ok (.goto 4, 3) := by decide +kernel
theorem d_C_giveUp_50 : decode b_C_giveUp 50 = .ok (.iconst 0, 1) := by decide +kernel
theorem d_C_giveUp_51 : decode b_C_giveUp 51 = .ok (.iadd, 1) := by decide +kernel
theorem d_C_giveUp_52 : decode b_C_giveUp 52 = .ok (.putfield 124, 3) := by decide +kernel
theorem d_C_giveUp_55 : decode b_C_giveUp 55 = .ok (.return_, 1) := by decide +kernel
theorem d_Line_init_0 : decode b_Line_init 0 = .ok (.aload_n 0, 1) := by decide +kernel
theorem d_Line_init_1 : decode b_Line_init 1 = .ok (.invokespecial 3, 3) := by decide +kernel
theorem d_Line_init_4 : decode b_Line_init 4 = .ok (.aload_n 0, 1) := by decide +kernel
theorem d_Line_init_5 : decode b_Line_init 5 = .ok (.bipush 8, 2) := by decide +kernel
theorem d_Line_init_7 : decode b_Line_init 7 = .ok (.newarray .int, 2) := by decide +kernel
theorem d_Line_init_9 : decode b_Line_init 9 = .ok (.putfield 9, 3) := by decide +kernel
theorem d_Line_init_12 : decode b_Line_init 12 = .ok (.return_, 1) := by decide +kernel
theorem d_Line_append_0 : decode b_Line_append 0 = .ok (.aload_n 0, 1) := by decide +kernel
theorem d_Line_append_1 : decode b_Line_append 1 = .ok (.getfield 15, 3) := by decide +kernel
theorem d_Line_append_4 : decode b_Line_append 4 = .ok (.bipush 8, 2) := by decide +kernel
theorem d_Line_append_6 : decode b_Line_append 6 = .ok (.if_icmp .ge 23, 3) := by decide +kernel
theorem d_Line_append_9 : decode b_Line_append 9 = .ok (.aload_n 0, 1) := by decide +kernel
theorem d_Line_append_10 : decode b_Line_append 10 = .ok (.getfield 9, 3) := by decide +kernel
theorem d_Line_append_13 : decode b_Line_append 13 = .ok (.aload_n 0, 1) := by decide +kernel
theorem d_Line_append_14 : decode b_Line_append 14 = .ok (.getfield 15, 3) := by decide +kernel
theorem d_Line_append_17 : decode b_Line_append 17 = .ok (.iload_n 1, 1) := by decide +kernel
theorem d_Line_append_18 : decode b_Line_append 18 = .ok (.iastore, 1) := by decide +kernel
theorem d_Line_append_19 : decode b_Line_append 19 = .ok (.aload_n 0, 1) := by decide +kernel
theorem d_Line_append_20 : decode b_Line_append 20 = .ok (.dup, 1) := by decide +kernel
theorem d_Line_append_21 : decode b_Line_append 21 = .ok (.getfield 15, 3) := by decide +kernel
theorem d_Line_append_24 : decode b_Line_append 24 = .ok (.iconst 1, 1) := by decide +kernel
theorem d_Line_append_25 : decode b_Line_append 25 = .ok (.iadd, 1) := by decide +kernel
theorem d_Line_append_26 : decode b_Line_append 26 = .ok (.putfield 15, 3) := by decide +kernel
theorem d_Line_append_29 : decode b_Line_append 29 = .ok (.return_, 1) := by decide +kernel
theorem d_Line_remove_0 : decode b_Line_remove 0 = .ok (.iconst 0, 1) := by decide +kernel
theorem d_Line_remove_1 : decode b_Line_remove 1 = .ok (.istore_n 2, 1) := by decide +kernel
theorem d_Line_remove_2 : decode b_Line_remove 2 = .ok (.iconst 0, 1) := by decide +kernel
theorem d_Line_remove_3 : decode b_Line_remove 3 = .ok (.istore_n 3, 1) := by decide +kernel
theorem d_Line_remove_4 : decode b_Line_remove 4 = .ok (.iload_n 3, 1) := by decide +kernel
theorem d_Line_remove_5 : decode b_Line_remove 5 = .ok (.aload_n 0, 1) := by decide +kernel
theorem d_Line_remove_6 : decode b_Line_remove 6 = .ok (.getfield 15, 3) := by decide +kernel
theorem d_Line_remove_9 : decode b_Line_remove 9 = .ok (.if_icmp .ge 34, 3) := by decide +kernel
theorem d_Line_remove_12 : decode b_Line_remove 12 = .ok (.aload_n 0, 1) := by decide +kernel
theorem d_Line_remove_13 : decode b_Line_remove 13 = .ok (.getfield 9, 3) := by decide +kernel
theorem d_Line_remove_16 : decode b_Line_remove 16 = .ok (.iload_n 3, 1) := by decide +kernel
theorem d_Line_remove_17 : decode b_Line_remove 17 = .ok (.iaload, 1) := by decide +kernel
theorem d_Line_remove_18 : decode b_Line_remove 18 = .ok (.iload_n 1, 1) := by decide +kernel
theorem d_Line_remove_19 : decode b_Line_remove 19 = .ok (.if_icmp .eq 18, 3) := by decide +kernel
theorem d_Line_remove_22 : decode b_Line_remove 22 = .ok (.aload_n 0, 1) := by decide +kernel
theorem d_Line_remove_23 : decode b_Line_remove 23 = .ok (.getfield 9, 3) := by decide +kernel
theorem d_Line_remove_26 : decode b_Line_remove 26 = .ok (.iload_n 2, 1) := by decide +kernel
theorem d_Line_remove_27 : decode b_Line_remove 27 = .ok (.aload_n 0, 1) := by decide +kernel
theorem d_Line_remove_28 : decode b_Line_remove 28 = .ok (.getfield 9, 3) := by decide +kernel
theorem d_Line_remove_31 : decode b_Line_remove 31 = .ok (.iload_n 3, 1) := by decide +kernel
theorem d_Line_remove_32 : decode b_Line_remove 32 = .ok (.iaload, 1) := by decide +kernel
theorem d_Line_remove_33 : decode b_Line_remove 33 = .ok (.iastore, 1) := by decide +kernel
theorem d_Line_remove_34 : decode b_Line_remove 34 = .ok (.iinc 2 1, 3) := by decide +kernel
theorem d_Line_remove_37 : decode b_Line_remove 37 = .ok (.iinc 3 1, 3) := by decide +kernel
theorem d_Line_remove_40 : decode b_Line_remove 40 = .ok (.goto (-36), 3) := by decide +kernel
theorem d_Line_remove_43 : decode b_Line_remove 43 = .ok (.aload_n 0, 1) := by decide +kernel
theorem d_Line_remove_44 : decode b_Line_remove 44 = .ok (.iload_n 2, 1) := by decide +kernel
theorem d_Line_remove_45 : decode b_Line_remove 45 = .ok (.putfield 15, 3) := by decide +kernel
theorem d_Line_remove_48 : decode b_Line_remove 48 = .ok (.return_, 1) := by decide +kernel
theorem d_Page_init_0 : decode b_Page_init 0 = .ok (.aload_n 0, 1) := by decide +kernel
theorem d_Page_init_1 : decode b_Page_init 1 = .ok (.invokespecial 3, 3) := by decide +kernel
theorem d_Page_init_4 : decode b_Page_init 4 = .ok (.aload_n 0, 1) := by decide +kernel
theorem d_Page_init_5 : decode b_Page_init 5 = .ok (.iconst 3, 1) := by decide +kernel
theorem d_Page_init_6 : decode b_Page_init 6 = .ok (.newarray .int, 2) := by decide +kernel
theorem d_Page_init_8 : decode b_Page_init 8 = .ok (.putfield 9, 3) := by decide +kernel
theorem d_Page_init_11 : decode b_Page_init 11 = .ok (.aload_n 0, 1) := by decide +kernel
theorem d_Page_init_12 : decode b_Page_init 12 = .ok (.iconst 3, 1) := by decide +kernel
theorem d_Page_init_13 : decode b_Page_init 13 = .ok (.newarray .int, 2) := by decide +kernel
theorem d_Page_init_15 : decode b_Page_init 15 = .ok (.putfield 15, 3) := by decide +kernel
theorem d_Page_init_18 : decode b_Page_init 18 = .ok (.aload_n 0, 1) := by decide +kernel
theorem d_Page_init_19 : decode b_Page_init 19 = .ok (.new 18, 3) := by decide +kernel
theorem d_Page_init_22 : decode b_Page_init 22 = .ok (.dup, 1) := by decide +kernel
theorem d_Page_init_23 : decode b_Page_init 23 = .ok (.invokespecial 20, 3) := by decide +kernel
theorem d_Page_init_26 : decode b_Page_init 26 = .ok (.putfield 21, 3) := by decide +kernel
theorem d_Page_init_29 : decode b_Page_init 29 = .ok (.aload_n 0, 1) := by decide +kernel
theorem d_Page_init_30 : decode b_Page_init 30 = .ok (.iconst 3, 1) := by decide +kernel
theorem d_Page_init_31 : decode b_Page_init 31 = .ok (.putfield 25, 3) := by decide +kernel
theorem d_Page_init_34 : decode b_Page_init 34 = .ok (.return_, 1) := by decide +kernel
theorem d_Page_giveWrite_0 : decode b_Page_giveWrite 0 = .ok (.iconst 0, 1) := by decide +kernel
theorem d_Page_giveWrite_1 : decode b_Page_giveWrite 1 = .ok (.istore_n 2, 1) := by decide +kernel
theorem d_Page_giveWrite_2 : decode b_Page_giveWrite 2 = .ok (.iconst 0, 1) := by decide +kernel
theorem d_Page_giveWrite_3 : decode b_Page_giveWrite 3 = .ok (.istore_n 3, 1) := by decide +kernel
theorem d_Page_giveWrite_4 : decode b_Page_giveWrite 4 = .ok (.iload_n 3, 1) := by decide +kernel
theorem d_Page_giveWrite_5 : decode b_Page_giveWrite 5 = .ok (.iconst 3, 1) := by decide +kernel
theorem d_Page_giveWrite_6 : decode b_Page_giveWrite 6 = .ok (.if_icmp .ge 33, 3) := by decide +kernel
theorem d_Page_giveWrite_9 : decode b_Page_giveWrite 9 = .ok (.iload_n 3, 1) := by decide +kernel
theorem d_Page_giveWrite_10 : decode b_Page_giveWrite 10 = .ok (.iload_n 1, 1) := by decide +kernel
theorem d_Page_giveWrite_11 : decode b_Page_giveWrite 11 = .ok (.if_icmp .eq 22, 3) := by decide +kernel
theorem d_Page_giveWrite_14 : decode b_Page_giveWrite 14 = .ok (.aload_n 0, 1) := by decide +kernel
theorem d_Page_giveWrite_15 : decode b_Page_giveWrite 15 = .ok (.getfield 9, 3) := by decide +kernel
theorem d_Page_giveWrite_18 : decode b_Page_giveWrite 18 = .ok (.iload_n 3, 1) := by decide +kernel
theorem d_Page_giveWrite_19 : decode b_Page_giveWrite 19 = .ok (.iaload, 1) := by decide +kernel
theorem d_Page_giveWrite_20 : decode b_Page_giveWrite 20 = .ok (.ifCond .eq 13, 3) := by decide +kernel
theorem d_Page_giveWrite_23 : decode b_Page_giveWrite 23 = .ok (.aload_n 0, 1) := by decide +kernel
theorem d_Page_giveWrite_24 : decode b_Page_giveWrite 24 = .ok (.getfield 9, 3) := by decide +kernel
theorem d_Page_giveWrite_27 : decode b_Page_giveWrite 27 = .ok (.iload_n 3, 1) := by decide +kernel
theorem d_Page_giveWrite_28 : decode b_Page_giveWrite 28 = .ok (.iconst 0, 1) := by decide +kernel
theorem d_Page_giveWrite_29 : decode b_Page_giveWrite 29 = .ok (.iastore, 1) := by decide +kernel
theorem d_Page_giveWrite_30 : decode b_Page_giveWrite 30 = .ok (.iinc 2 1, 3) := by decide +kernel
theorem d_Page_giveWrite_33 : decode b_Page_giveWrite 33 = .ok (.iinc 3 1, 3) := by decide +kernel
theorem d_Page_giveWrite_36 : decode b_Page_giveWrite 36 = .ok (.goto (-32), 3) := by decide +kernel
theorem d_Page_giveWrite_39 : decode b_Page_giveWrite 39 = .ok (.aload_n 0, 1) := by decide +kernel
theorem d_Page_giveWrite_40 : decode b_Page_giveWrite 40 = .ok (.getfield 9, 3) := by decide +kernel
theorem d_Page_giveWrite_43 : decode b_Page_giveWrite 43 = .ok (.iload_n 1, 1) := by decide +kernel
theorem d_Page_giveWrite_44 : decode b_Page_giveWrite 44 = .ok (.iconst 2, 1) := by decide +kernel
theorem d_Page_giveWrite_45 : decode b_Page_giveWrite 45 = .ok (.iastore, 1) := by decide +kernel
theorem d_Page_giveWrite_46 : decode b_Page_giveWrite 46 = .ok (.aload_n 0, 1) := by decide +kernel
theorem d_Page_giveWrite_47 : decode b_Page_giveWrite 47 = .ok (.iload_n 1, 1) := by decide +kernel
theorem d_Page_giveWrite_48 : decode b_Page_giveWrite 48 = .ok (.putfield 25, 3) := by decide +kernel
theorem d_Page_giveWrite_51 : decode b_Page_giveWrite 51 = .ok (.iload_n 2, 1) := by decide +kernel
theorem d_Page_giveWrite_52 : decode b_Page_giveWrite 52 = .ok (.ireturn, 1) := by decide +kernel
theorem d_Page_giveRead_0 : decode b_Page_giveRead 0 = .ok (.iconst 0, 1) := by decide +kernel
theorem d_Page_giveRead_1 : decode b_Page_giveRead 1 = .ok (.istore_n 2, 1) := by decide +kernel
theorem d_Page_giveRead_2 : decode b_Page_giveRead 2 = .ok (.iload_n 2, 1) := by decide +kernel
theorem d_Page_giveRead_3 : decode b_Page_giveRead 3 = .ok (.iconst 3, 1) := by decide +kernel
theorem d_Page_giveRead_4 : decode b_Page_giveRead 4 = .ok (.if_icmp .ge 31, 3) := by decide +kernel
theorem d_Page_giveRead_7 : decode b_Page_giveRead 7 = .ok (.iload_n 2, 1) := by decide +kernel
theorem d_Page_giveRead_8 : decode b_Page_giveRead 8 = .ok (.iload_n 1, 1) := by decide +kernel
theorem d_Page_giveRead_9 : decode b_Page_giveRead 9 = .ok (.if_icmp .eq 20, 3) := by decide +kernel
theorem d_Page_giveRead_12 : decode b_Page_giveRead 12 = .ok (.aload_n 0, 1) := by decide +kernel
theorem d_Page_giveRead_13 : decode b_Page_giveRead 13 = .ok (.getfield 9, 3) := by decide +kernel
theorem d_Page_giveRead_16 : decode b_Page_giveRead 16 = .ok (.iload_n 2, 1) := by decide +kernel
theorem d_Page_giveRead_17 : decode b_Page_giveRead 17 = .ok (.iaload, 1) := by decide +kernel
theorem d_Page_giveRead_18 : decode b_Page_giveRead 18 = .ok (.iconst 2, 1) := by decide +kernel
theorem d_Page_giveRead_19 : decode b_Page_giveRead 19 = .ok (.if_icmp .ne 10, 3) := by decide +kernel
theorem d_Page_giveRead_22 : decode b_Page_giveRead 22 = .ok (.aload_n 0, 1) := by decide +kernel
theorem d_Page_giveRead_23 : decode b_Page_giveRead 23 = .ok (.getfield 9, 3) := by decide +kernel
theorem d_Page_giveRead_26 : decode b_Page_giveRead 26 = .ok (.iload_n 2, 1) := by decide +kernel
theorem d_Page_giveRead_27 : decode b_Page_giveRead 27 = .ok (.iconst 1, 1) := by decide +kernel
theorem d_Page_giveRead_28 : decode b_Page_giveRead 28 = .ok (.iastore, 1) := by decide +kernel
theorem d_Page_giveRead_29 : decode b_Page_giveRead 29 = .ok (.iinc 2 1, 3) := by decide +kernel
theorem d_Page_giveRead_32 : decode b_Page_giveRead 32 = .ok (.goto (-30), 3) := by decide +kernel
theorem d_Page_giveRead_35 : decode b_Page_giveRead 35 = .ok (.aload_n 0, 1) := by decide +kernel
theorem d_Page_giveRead_36 : decode b_Page_giveRead 36 = .ok (.getfield 9, 3) := by decide +kernel
theorem d_Page_giveRead_39 : decode b_Page_giveRead 39 = .ok (.iload_n 1, 1) := by decide +kernel
theorem d_Page_giveRead_40 : decode b_Page_giveRead 40 = .ok (.iaload, 1) := by decide +kernel
theorem d_Page_giveRead_41 : decode b_Page_giveRead 41 = .ok (.ifCond .ne 10, 3) := by decide +kernel
theorem d_Page_giveRead_44 : decode b_Page_giveRead 44 = .ok (.aload_n 0, 1) := by decide +kernel
theorem d_Page_giveRead_45 : decode b_Page_giveRead 45 = .ok (.getfield 9, 3) := by decide +kernel
theorem d_Page_giveRead_48 : decode b_Page_giveRead 48 = .ok (.iload_n 1, 1) := by decide +kernel
theorem d_Page_giveRead_49 : decode b_Page_giveRead 49 = .ok (.iconst 1, 1) := by decide +kernel
theorem d_Page_giveRead_50 : decode b_Page_giveRead 50 = .ok (.iastore, 1) := by decide +kernel
theorem d_Page_giveRead_51 : decode b_Page_giveRead 51 = .ok (.aload_n 0, 1) := by decide +kernel
theorem d_Page_giveRead_52 : decode b_Page_giveRead 52 = .ok (.getfield 25, 3) := by decide +kernel
theorem d_Page_giveRead_55 : decode b_Page_giveRead 55 = .ok (.iconst 3, 1) := by decide +kernel
theorem d_Page_giveRead_56 : decode b_Page_giveRead 56 = .ok (.if_icmp .ne 8, 3) := by decide +kernel
theorem d_Page_giveRead_59 : decode b_Page_giveRead 59 = .ok (.aload_n 0, 1) := by decide +kernel
theorem d_Page_giveRead_60 : decode b_Page_giveRead 60 = .ok (.iload_n 1, 1) := by decide +kernel
theorem d_Page_giveRead_61 : decode b_Page_giveRead 61 = .ok (.putfield 25, 3) := by decide +kernel
theorem d_Page_giveRead_64 : decode b_Page_giveRead 64 = .ok (.return_, 1) := by decide +kernel
theorem d_Page_lowestWithRight_0 : decode b_Page_lowestWithRight 0 = .ok (.iconst 0, 1) := by decide +kernel
theorem d_Page_lowestWithRight_1 : decode b_Page_lowestWithRight 1 = .ok (.istore_n 1, 1) := by decide +kernel
theorem d_Page_lowestWithRight_2 : decode b_Page_lowestWithRight 2 = .ok (.iload_n 1, 1) := by decide +kernel
theorem d_Page_lowestWithRight_3 : decode b_Page_lowestWithRight 3 = .ok (.iconst 3, 1) := by decide +kernel
theorem d_Page_lowestWithRight_4 : decode b_Page_lowestWithRight 4 = .ok (.if_icmp .ge 20, 3) := by decide +kernel
theorem d_Page_lowestWithRight_7 : decode b_Page_lowestWithRight 7 = .ok (.aload_n 0, 1) := by decide +kernel
theorem d_Page_lowestWithRight_8 : decode b_Page_lowestWithRight 8 = .ok (.getfield 9, 3) := by decide +kernel
theorem d_Page_lowestWithRight_11 : decode b_Page_lowestWithRight 11 = .ok (.iload_n 1, 1) := by decide +kernel
theorem d_Page_lowestWithRight_12 : decode b_Page_lowestWithRight 12 = .ok (.iaload, 1) := by decide +kernel
theorem d_Page_lowestWithRight_13 : decode b_Page_lowestWithRight 13 = .ok (.ifCond .eq 5, 3) := by decide +kernel
theorem d_Page_lowestWithRight_16 : decode b_Page_lowestWithRight 16 = .ok (.iload_n 1, 1) := by decide +kernel
theorem d_Page_lowestWithRight_17 : decode b_Page_lowestWithRight 17 = .ok (.ireturn, 1) := by decide +kernel
theorem d_Page_lowestWithRight_18 : decode b_Page_lowestWithRight 18 = .ok (.iinc 1 1, 3) := by decide +kernel
theorem d_Page_lowestWithRight_21 : decode b_Page_lowestWithRight 21 = .ok (.goto (-19), 3) := by decide +kernel
theorem d_Page_lowestWithRight_24 : decode b_Page_lowestWithRight 24 = .ok (.iconst 3, 1) := by decide +kernel
theorem d_Page_lowestWithRight_25 : decode b_Page_lowestWithRight 25 = .ok (.ireturn, 1) := by decide +kernel
theorem d_Proc_init_0 : decode b_Proc_init 0 = .ok (.aload_n 0, 1) := by decide +kernel
theorem d_Proc_init_1 : decode b_Proc_init 1 = .ok (.invokespecial 3, 3) := by decide +kernel
theorem d_Proc_init_4 : decode b_Proc_init 4 = .ok (.aload_n 0, 1) := by decide +kernel
theorem d_Proc_init_5 : decode b_Proc_init 5 = .ok (.iconst 4, 1) := by decide +kernel
theorem d_Proc_init_6 : decode b_Proc_init 6 = .ok (.newarray .int, 2) := by decide +kernel
theorem d_Proc_init_8 : decode b_Proc_init 8 = .ok (.putfield 9, 3) := by decide +kernel
theorem d_Proc_init_11 : decode b_Proc_init 11 = .ok (.aload_n 0, 1) := by decide +kernel
theorem d_Proc_init_12 : decode b_Proc_init 12 = .ok (.iconst 3, 1) := by decide +kernel
theorem d_Proc_init_13 : decode b_Proc_init 13 = .ok (.newarray .int, 2) := by decide +kernel
theorem d_Proc_init_15 : decode b_Proc_init 15 = .ok (.putfield 15, 3) := by decide +kernel
theorem d_Proc_init_18 : decode b_Proc_init 18 = .ok (.aload_n 0, 1) := by decide +kernel
theorem d_Proc_init_19 : decode b_Proc_init 19 = .ok (.iload_n 1, 1) := by decide +kernel
theorem d_Proc_init_20 : decode b_Proc_init 20 = .ok (.putfield 18, 3) := by decide +kernel
theorem d_Proc_init_23 : decode b_Proc_init 23 = .ok (.aload_n 0, 1) := by decide +kernel
theorem d_Proc_init_24 : decode b_Proc_init 24 = .ok (.iload_n 2, 1) := by decide +kernel
theorem d_Proc_init_25 : decode b_Proc_init 25 = .ok (.putfield 22, 3) := by decide +kernel
theorem d_Proc_init_28 : decode b_Proc_init 28 = .ok (.aload_n 0, 1) := by decide +kernel
theorem d_Proc_init_29 : decode b_Proc_init 29 = .ok (.iload_n 3, 1) := by decide +kernel
theorem d_Proc_init_30 : decode b_Proc_init 30 = .ok (.putfield 25, 3) := by decide +kernel
theorem d_Proc_init_33 : decode b_Proc_init 33 = .ok (.iconst 0, 1) := by decide +kernel
theorem d_Proc_init_34 : decode b_Proc_init 34 = .ok (.istore 4, 2) := by decide +kernel
theorem d_Proc_init_36 : decode b_Proc_init 36 = .ok (.iload 4, 2) := by decide +kernel
theorem d_Proc_init_38 : decode b_Proc_init 38 = .ok (.iconst 3, 1) := by decide +kernel
theorem d_Proc_init_39 : decode b_Proc_init 39 = .ok (.if_icmp .ge 17, 3) := by decide +kernel
theorem d_Proc_init_42 : decode b_Proc_init 42 = .ok (.aload_n 0, 1) := by decide +kernel
theorem d_Proc_init_43 : decode b_Proc_init 43 = .ok (.getfield 15, 3) := by decide +kernel
theorem d_Proc_init_46 : decode b_Proc_init 46 = .ok (.iload 4, 2) := by decide +kernel
theorem d_Proc_init_48 : decode b_Proc_init 48 = .ok (.iload_n 3, 1) := by decide +kernel
theorem d_Proc_init_49 : decode b_Proc_init 49 = .ok (.iastore, 1) := by decide +kernel
theorem d_Proc_init_50 : decode b_Proc_init 50 = .ok (.iinc 4 1, 3) := by decide +kernel
theorem d_Proc_init_53 : decode b_Proc_init 53 = .ok (.goto (-17), 3) := by decide +kernel
theorem d_Proc_init_56 : decode b_Proc_init 56 = .ok (.return_, 1) := by decide +kernel
theorem d_Program_init_0 : decode b_Program_init 0 = .ok (.aload_n 0, 1) := by decide +kernel
theorem d_Program_init_1 : decode b_Program_init 1 = .ok (.invokespecial 3, 3) := by decide +kernel
theorem d_Program_init_4 : decode b_Program_init 4 = .ok (.aload_n 0, 1) := by decide +kernel
theorem d_Program_init_5 : decode b_Program_init 5 = .ok (.bipush 12, 2) := by decide +kernel
theorem d_Program_init_7 : decode b_Program_init 7 = .ok (.newarray .int, 2) := by decide +kernel
theorem d_Program_init_9 : decode b_Program_init 9 = .ok (.putfield 9, 3) := by decide +kernel
theorem d_Program_init_12 : decode b_Program_init 12 = .ok (.aload_n 0, 1) := by decide +kernel
theorem d_Program_init_13 : decode b_Program_init 13 = .ok (.bipush 12, 2) := by decide +kernel
theorem d_Program_init_15 : decode b_Program_init 15 = .ok (.newarray .int, 2) := by decide +kernel
theorem d_Program_init_17 : decode b_Program_init 17 = .ok (.putfield 15, 3) := by decide +kernel
theorem d_Program_init_20 : decode b_Program_init 20 = .ok (.aload_n 0, 1) := by decide +kernel
theorem d_Program_init_21 : decode b_Program_init 21 = .ok (.bipush 12, 2) := by decide +kernel
theorem d_Program_init_23 : decode b_Program_init 23 = .ok (.newarray .int, 2) := by decide +kernel
theorem d_Program_init_25 : decode b_Program_init 25 = .ok (.putfield 18, 3) := by decide +kernel
theorem d_Program_init_28 : decode b_Program_init 28 = .ok (.return_, 1) := by decide +kernel
theorem d_Program_add_0 : decode b_Program_add 0 = .ok (.aload_n 0, 1) := by decide +kernel
theorem d_Program_add_1 : decode b_Program_add 1 = .ok (.getfield 9, 3) := by decide +kernel
theorem d_Program_add_4 : decode b_Program_add 4 = .ok (.aload_n 0, 1) := by decide +kernel
theorem d_Program_add_5 : decode b_Program_add 5 = .ok (.getfield 21, 3) := by decide +kernel
theorem d_Program_add_8 : decode b_Program_add 8 = .ok (.iload_n 1, 1) := by decide +kernel
theorem d_Program_add_9 : decode b_Program_add 9 = .ok (.iastore, 1) := by decide +kernel
theorem d_Program_add_10 : decode b_Program_add 10 = .ok (.aload_n 0, 1) := by decide +kernel
theorem d_Program_add_11 : decode b_Program_add 11 = .ok (.getfield 15, 3) := by decide +kernel
theorem d_Program_add_14 : decode b_Program_add 14 = .ok (.aload_n 0, 1) := by decide +kernel
theorem d_Program_add_15 : decode b_Program_add 15 = .ok (.getfield 21, 3) := by decide +kernel
theorem d_Program_add_18 : decode b_Program_add 18 = .ok (.iload_n 2, 1) := by decide +kernel
theorem d_Program_add_19 : decode b_Program_add 19 = .ok (.iastore, 1) := by decide +kernel
theorem d_Program_add_20 : decode b_Program_add 20 = .ok (.aload_n 0, 1) := by decide +kernel
theorem d_Program_add_21 : decode b_Program_add 21 = .ok (.getfield 18, 3) := by decide +kernel
theorem d_Program_add_24 : decode b_Program_add 24 = .ok (.aload_n 0, 1) := by decide +kernel
theorem d_Program_add_25 : decode b_Program_add 25 = .ok (.getfield 21, 3) := by decide +kernel
theorem d_Program_add_28 : decode b_Program_add 28 = .ok (.iload_n 3, 1) := by decide +kernel
theorem d_Program_add_29 : decode b_Program_add 29 = .ok (.iastore, 1) := by decide +kernel
theorem d_Program_add_30 : decode b_Program_add 30 = .ok (.aload_n 0, 1) := by decide +kernel
theorem d_Program_add_31 : decode b_Program_add 31 = .ok (.dup, 1) := by decide +kernel
theorem d_Program_add_32 : decode b_Program_add 32 = .ok (.getfield 21, 3) := by decide +kernel
theorem d_Program_add_35 : decode b_Program_add 35 = .ok (.iconst 1, 1) := by decide +kernel
theorem d_Program_add_36 : decode b_Program_add 36 = .ok (.iadd, 1) := by decide +kernel
theorem d_Program_add_37 : decode b_Program_add 37 = .ok (.putfield 21, 3) := by decide +kernel
theorem d_Program_add_40 : decode b_Program_add 40 = .ok (.return_, 1) := by decide +kernel
theorem d_Math_floorMod_0 : decode b_Math_floorMod 0 = .ok (.iload_n 0, 1) := by decide +kernel
theorem d_Math_floorMod_1 : decode b_Math_floorMod 1 = .ok (.iload_n 1, 1) := by decide +kernel
theorem d_Math_floorMod_2 : decode b_Math_floorMod 2 = .ok (.irem, 1) := by decide +kernel
theorem d_Math_floorMod_3 : decode b_Math_floorMod 3 = .ok (.istore_n 2, 1) := by decide +kernel
theorem d_Math_floorMod_4 : decode b_Math_floorMod 4 = .ok (.iload_n 0, 1) := by decide +kernel
theorem d_Math_floorMod_5 : decode b_Math_floorMod 5 = .ok (.iload_n 1, 1) := by decide +kernel
theorem d_Math_floorMod_6 : decode b_Math_floorMod 6 = .ok (.ixor, 1) := by decide +kernel
theorem d_Math_floorMod_7 : decode b_Math_floorMod 7 = .ok (.ifCond .ge 11, 3) := by decide +kernel
theorem d_Math_floorMod_10 : decode b_Math_floorMod 10 = .ok (.iload_n 2, 1) := by decide +kernel
theorem d_Math_floorMod_11 : decode b_Math_floorMod 11 = .ok (.ifCond .eq 7, 3) := by decide +kernel
theorem d_Math_floorMod_14 : decode b_Math_floorMod 14 = .ok (.iload_n 2, 1) := by decide +kernel
theorem d_Math_floorMod_15 : decode b_Math_floorMod 15 = .ok (.iload_n 1, 1) := by decide +kernel
theorem d_Math_floorMod_16 : decode b_Math_floorMod 16 = .ok (.iadd, 1) := by decide +kernel
theorem d_Math_floorMod_17 : decode b_Math_floorMod 17 = .ok (.ireturn, 1) := by decide +kernel
theorem d_Math_floorMod_18 : decode b_Math_floorMod 18 = .ok (.iload_n 2, 1) := by decide +kernel
theorem d_Math_floorMod_19 : decode b_Math_floorMod 19 = .ok (.ireturn, 1) := by decide +kernel
