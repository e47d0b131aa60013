theorem d_CI_init_0 : decode b_CI_init 0 = .ok (.aload_n 0, 1) := by decide +kernel
theorem d_CI_init_1 : decode b_CI_init 1 = .ok (.invokespecial 1, 3) := by decide +kernel
theorem d_CI_init_4 : decode b_CI_init 4 = .ok (.aload_n 0, 1) := by decide +kernel
theorem d_CI_init_5 : decode b_CI_init 5 = .ok (.new 7, 3) := by decide +kernel
theorem d_CI_init_8 : decode b_CI_init 8 = .ok (.dup, 1) := by decide +kernel
theorem d_CI_init_9 : decode b_CI_init 9 = .ok (.invokespecial 9, 3) := by decide +kernel
theorem d_CI_init_12 : decode b_CI_init 12 = .ok (.putfield 10, 3) := by decide +kernel
theorem d_CI_init_15 : decode b_CI_init 15 = .ok (.aload_n 0, 1) := by decide +kernel
theorem d_CI_init_16 : decode b_CI_init 16 = .ok (.new 7, 3) := by decide +kernel
theorem d_CI_init_19 : decode b_CI_init 19 = .ok (.dup, 1) := by decide +kernel
theorem d_CI_init_20 : decode b_CI_init 20 = .ok (.invokespecial 9, 3) := by decide +kernel
theorem d_CI_init_23 : decode b_CI_init 23 = .ok (.putfield 16, 3) := by decide +kernel
theorem d_CI_init_26 : decode b_CI_init 26 = .ok (.aload_n 0, 1) := by decide +kernel
theorem d_CI_init_27 : decode b_CI_init 27 = .ok (.iconst 1, 1) := by decide +kernel
theorem d_CI_init_28 : decode b_CI_init 28 = .ok (.putfield 19, 3) := by decide +kernel
theorem d_CI_init_31 : decode b_CI_init 31 = .ok (.aload_n 0, 1) := by decide +kernel
theorem d_CI_init_32 : decode b_CI_init 32 = .ok (.new 23, 3) := by decide +kernel
theorem d_CI_init_35 : decode b_CI_init 35 = .ok (.dup, 1) := by decide +kernel
theorem d_CI_init_36 : decode b_CI_init 36 = .ok (.iconst 0, 1) := by decide +kernel
theorem d_CI_init_37 : decode b_CI_init 37 = .ok (.iconst 0, 1) := by decide +kernel
theorem d_CI_init_38 : decode b_CI_init 38 = .ok (.iconst 0, 1) := by decide +kernel
theorem d_CI_init_39 : decode b_CI_init 39 = .ok (.iconst 0, 1) := by decide +kernel
theorem d_CI_init_40 : decode b_CI_init 40 = .ok (.invokespecial 25, 3) := by decide +kernel
theorem d_CI_init_43 : decode b_CI_init 43 = .ok (.putfield 28, 3) := by decide +kernel
theorem d_CI_init_46 : decode b_CI_init 46 = .ok (.return_, 1) := by decide +kernel
theorem d_CI_begin_0 : decode b_CI_begin 0 = .ok (.iload_n 1, 1) := by decide +kernel
theorem d_CI_begin_1 : decode b_CI_begin 1 = .ok (.iconst 1, 1) := by decide +kernel
theorem d_CI_begin_2 : decode b_CI_begin 2 = .ok (.if_icmp .lt 9, 3) := by decide +kernel
theorem d_CI_begin_5 : decode b_CI_begin 5 = .ok (.iload_n 1, 1) := by decide +kernel
theorem d_CI_begin_6 : decode b_CI_begin 6 = .ok (.bipush 15, 2) := by decide +kernel
theorem d_CI_begin_8 : decode b_CI_begin 8 = .ok (.if_icmp .le 5, 3) := by decide +kernel
theorem d_CI_begin_11 : decode b_CI_begin 11 = .ok (.iconst 0, 1) := by decide +kernel
theorem d_CI_begin_12 : decode b_CI_begin 12 = .ok (.ireturn, 1) := by decide +kernel
theorem d_CI_begin_13 : decode b_CI_begin 13 = .ok (.aload_n 0, 1) := by decide +kernel
theorem d_CI_begin_14 : decode b_CI_begin 14 = .ok (.iload_n 1, 1) := by decide +kernel
theorem d_CI_begin_15 : decode b_CI_begin 15 = .ok (.putfield 19, 3) := by decide +kernel
theorem d_CI_begin_18 : decode b_CI_begin 18 = .ok (.aload_n 0, 1) := by decide +kernel
theorem d_CI_begin_19 : decode b_CI_begin 19 = .ok (.getfield 10, 3) := by decide +kernel
theorem d_CI_begin_22 : decode b_CI_begin 22 = .ok (.invokevirtual 32, 3) := by decide +kernel
theorem d_CI_begin_25 : decode b_CI_begin 25 = .ok (.aload_n 0, 1) := by decide +kernel
theorem d_CI_begin_26 : decode b_CI_begin 26 = .ok (.getfield 16, 3) := by decide +kernel
theorem d_CI_begin_29 : decode b_CI_begin 29 = .ok (.invokevirtual 32, 3) := by decide +kernel
theorem d_CI_begin_32 : decode b_CI_begin 32 = .ok (.aload_n 0, 1) := by decide +kernel
theorem d_CI_begin_33 : decode b_CI_begin 33 = .ok (.new 23, 3) := by decide +kernel
theorem d_CI_begin_36 : decode b_CI_begin 36 = .ok (.dup, 1) := by decide +kernel
theorem d_CI_begin_37 : decode b_CI_begin 37 = .ok (.iconst 0, 1) := by decide +kernel
theorem d_CI_begin_38 : decode b_CI_begin 38 = .ok (.iconst 0, 1) := by decide +kernel
theorem d_CI_begin_39 : decode b_CI_begin 39 = .ok (.iconst 0, 1) := by decide +kernel
theorem d_CI_begin_40 : decode b_CI_begin 40 = .ok (.iconst 0, 1) := by decide +kernel
theorem d_CI_begin_41 : decode b_CI_begin 41 = .ok (.invokespecial 25, 3) := by decide +kernel
theorem d_CI_begin_44 : decode b_CI_begin 44 = .ok (.putfield 28, 3) := by decide +kernel
theorem d_CI_begin_47 : decode b_CI_begin 47 = .ok (.iconst 1, 1) := by decide +kernel
theorem d_CI_begin_48 : decode b_CI_begin 48 = .ok (.ireturn, 1) := by decide +kernel
theorem d_CI_key_0 : decode b_CI_key 0 = .ok (.iload_n 1, 1) := by decide +kernel
theorem d_CI_key_1 : decode b_CI_key 1 = .ok (.invokestatic 35, 3) := by decide +kernel
theorem d_CI_key_4 : decode b_CI_key 4 = .ok (.ifCond .eq 22, 3) := by decide +kernel
theorem d_CI_key_7 : decode b_CI_key 7 = .ok (.aload_n 0, 1) := by decide +kernel
theorem d_CI_key_8 : decode b_CI_key 8 = .ok (.iload_n 2, 1) := by decide +kernel
theorem d_CI_key_9 : decode b_CI_key 9 = .ok (.iload_n 3, 1) := by decide +kernel
theorem d_CI_key_10 : decode b_CI_key 10 = .ok (.invokevirtual 39, 3) := by decide +kernel
theorem d_CI_key_13 : decode b_CI_key 13 = .ok (.ifCond .eq 13, 3) := by decide +kernel
theorem d_CI_key_16 : decode b_CI_key 16 = .ok (.aload_n 0, 1) := by decide +kernel
theorem d_CI_key_17 : decode b_CI_key 17 = .ok (.iload_n 1, 1) := by decide +kernel
theorem d_CI_key_18 : decode b_CI_key 18 = .ok (.iload_n 2, 1) := by decide +kernel
theorem d_CI_key_19 : decode b_CI_key 19 = .ok (.iload_n 3, 1) := by decide +kernel
theorem d_CI_key_20 : decode b_CI_key 20 = .ok (.invokevirtual 43, 3) := by decide +kernel
theorem d_CI_key_23 : decode b_CI_key 23 = .ok (.goto 4, 3) := by decide +kernel
theorem d_CI_key_26 : decode b_CI_key 26 = .ok (.iconst (-1), 1) := by decide +kernel
theorem d_CI_key_27 : decode b_CI_key 27 = .ok (.ireturn, 1) := by decide +kernel
theorem d_CI_cell_0 : decode b_CI_cell 0 = .ok (.iload_n 1, 1) := by decide +kernel
theorem d_CI_cell_1 : decode b_CI_cell 1 = .ok (.invokestatic 35, 3) := by decide +kernel
theorem d_CI_cell_4 : decode b_CI_cell 4 = .ok (.ifCond .eq 20, 3) := by decide +kernel
theorem d_CI_cell_7 : decode b_CI_cell 7 = .ok (.aload_n 0, 1) := by decide +kernel
theorem d_CI_cell_8 : decode b_CI_cell 8 = .ok (.iload_n 2, 1) := by decide +kernel
theorem d_CI_cell_9 : decode b_CI_cell 9 = .ok (.invokevirtual 47, 3) := by decide +kernel
theorem d_CI_cell_12 : decode b_CI_cell 12 = .ok (.ifCond .eq 12, 3) := by decide +kernel
theorem d_CI_cell_15 : decode b_CI_cell 15 = .ok (.aload_n 0, 1) := by decide +kernel
theorem d_CI_cell_16 : decode b_CI_cell 16 = .ok (.iload_n 1, 1) := by decide +kernel
theorem d_CI_cell_17 : decode b_CI_cell 17 = .ok (.iload_n 2, 1) := by decide +kernel
theorem d_CI_cell_18 : decode b_CI_cell 18 = .ok (.invokevirtual 50, 3) := by decide +kernel
theorem d_CI_cell_21 : decode b_CI_cell 21 = .ok (.goto 4, 3) := by decide +kernel
theorem d_CI_cell_24 : decode b_CI_cell 24 = .ok (.iconst (-1), 1) := by decide +kernel
theorem d_CI_cell_25 : decode b_CI_cell 25 = .ok (.ireturn, 1) := by decide +kernel
theorem d_CI_put_0 : decode b_CI_put 0 = .ok (.aload_n 0, 1) := by decide +kernel
theorem d_CI_put_1 : decode b_CI_put 1 = .ok (.iload_n 1, 1) := by decide +kernel
theorem d_CI_put_2 : decode b_CI_put 2 = .ok (.iload_n 2, 1) := by decide +kernel
theorem d_CI_put_3 : decode b_CI_put 3 = .ok (.invokevirtual 39, 3) := by decide +kernel
theorem d_CI_put_6 : decode b_CI_put 6 = .ok (.ifCond .eq 15, 3) := by decide +kernel
theorem d_CI_put_9 : decode b_CI_put 9 = .ok (.iload_n 3, 1) := by decide +kernel
theorem d_CI_put_10 : decode b_CI_put 10 = .ok (.iconst 1, 1) := by decide +kernel
theorem d_CI_put_11 : decode b_CI_put 11 = .ok (.if_icmp .lt 10, 3) := by decide +kernel
theorem d_CI_put_14 : decode b_CI_put 14 = .ok (.iload_n 3, 1) := by decide +kernel
theorem d_CI_put_15 : decode b_CI_put 15 = .ok (.sipush 999, 3) := by decide +kernel
theorem d_CI_put_18 : decode b_CI_put 18 = .ok (.if_icmp .le 5, 3) := by decide +kernel
theorem d_CI_put_21 : decode b_CI_put 21 = .ok (.iconst (-1), 1) := by decide +kernel
theorem d_CI_put_22 : decode b_CI_put 22 = .ok (.ireturn, 1) := by decide +kernel
theorem d_CI_put_23 : decode b_CI_put 23 = .ok (.aload_n 0, 1) := by decide +kernel
theorem d_CI_put_24 : decode b_CI_put 24 = .ok (.iconst 1, 1) := by decide +kernel
theorem d_CI_put_25 : decode b_CI_put 25 = .ok (.iload_n 1, 1) := by decide +kernel
theorem d_CI_put_26 : decode b_CI_put 26 = .ok (.iload_n 2, 1) := by decide +kernel
theorem d_CI_put_27 : decode b_CI_put 27 = .ok (.invokevirtual 43, 3) := by decide +kernel
theorem d_CI_put_30 : decode b_CI_put 30 = .ok (.istore 4, 2) := by decide +kernel
theorem d_CI_put_32 : decode b_CI_put 32 = .ok (.aload_n 0, 1) := by decide +kernel
theorem d_CI_put_33 : decode b_CI_put 33 = .ok (.getfield 16, 3) := by decide +kernel
theorem d_CI_put_36 : decode b_CI_put 36 = .ok (.iload 4, 2) := by decide +kernel
theorem d_CI_put_38 : decode b_CI_put 38 = .ok (.invokevirtual 54, 3) := by decide +kernel
theorem d_CI_put_41 : decode b_CI_put 41 = .ok (.istore 5, 2) := by decide +kernel
theorem d_CI_put_43 : decode b_CI_put 43 = .ok (.iload 5, 2) := by decide +kernel
theorem d_CI_put_45 : decode b_CI_put 45 = .ok (.ifCond .ne 15, 3) := by decide +kernel
theorem d_CI_put_48 : decode b_CI_put 48 = .ok (.aload_n 0, 1) := by decide +kernel
theorem d_CI_put_49 : decode b_CI_put 49 = .ok (.getfield 16, 3) := by decide +kernel
theorem d_CI_put_52 : decode b_CI_put 52 = .ok (.invokevirtual 58, 3) := by decide +kernel
theorem d_CI_put_55 : decode b_CI_put 55 = .ok (.ifCond .eq 5, 3) := by decide +kernel
theorem d_CI_put_58 : decode b_CI_put 58 = .ok (.iconst (-1), 1) := by decide +kernel
theorem d_CI_put_59 : decode b_CI_put 59 = .ok (.ireturn, 1) := by decide +kernel
theorem d_CI_put_60 : decode b_CI_put 60 = .ok (.aload_n 0, 1) := by decide +kernel
theorem d_CI_put_61 : decode b_CI_put 61 = .ok (.iload_n 1, 1) := by decide +kernel
theorem d_CI_put_62 : decode b_CI_put 62 = .ok (.iload_n 2, 1) := by decide +kernel
theorem d_CI_put_63 : decode b_CI_put 63 = .ok (.invokevirtual 62, 3) := by decide +kernel
theorem d_CI_put_66 : decode b_CI_put 66 = .ok (.istore 6, 2) := by decide +kernel
theorem d_CI_put_68 : decode b_CI_put 68 = .ok (.aload_n 0, 1) := by decide +kernel
theorem d_CI_put_69 : decode b_CI_put 69 = .ok (.getfield 10, 3) := by decide +kernel
theorem d_CI_put_72 : decode b_CI_put 72 = .ok (.aload_n 0, 1) := by decide +kernel
theorem d_CI_put_73 : decode b_CI_put 73 = .ok (.iconst 0, 1) := by decide +kernel
theorem d_CI_put_74 : decode b_CI_put 74 = .ok (.iload_n 1, 1) := by decide +kernel
theorem d_CI_put_75 : decode b_CI_put 75 = .ok (.iload_n 2, 1) := by decide +kernel
theorem d_CI_put_76 : decode b_CI_put 76 = .ok (.invokevirtual 43, 3) := by decide +kernel
theorem d_CI_put_79 : decode b_CI_put 79 = .ok (.iload 6, 2) := by decide +kernel
theorem d_CI_put_81 : decode b_CI_put 81 = .ok (.iload_n 3, 1) := by decide +kernel
theorem d_CI_put_82 : decode b_CI_put 82 = .ok (.invokevirtual 65, 3) := by decide +kernel
theorem d_CI_put_85 : decode b_CI_put 85 = .ok (.aload_n 0, 1) := by decide +kernel
theorem d_CI_put_86 : decode b_CI_put 86 = .ok (.getfield 16, 3) := by decide +kernel
theorem d_CI_put_89 : decode b_CI_put 89 = .ok (.iload 4, 2) := by decide +kernel
theorem d_CI_put_91 : decode b_CI_put 91 = .ok (.iload 6, 2) := by decide +kernel
theorem d_CI_put_93 : decode b_CI_put 93 = .ok (.iload_n 3, 1) := by decide +kernel
theorem d_CI_put_94 : decode b_CI_put 94 = .ok (.invokevirtual 65, 3) := by decide +kernel
theorem d_CI_put_97 : decode b_CI_put 97 = .ok (.iload 5, 2) := by decide +kernel
theorem d_CI_put_99 : decode b_CI_put 99 = .ok (.ireturn, 1) := by decide +kernel
theorem d_CI_take_0 : decode b_CI_take 0 = .ok (.aload_n 0, 1) := by decide +kernel
theorem d_CI_take_1 : decode b_CI_take 1 = .ok (.iload_n 1, 1) := by decide +kernel
theorem d_CI_take_2 : decode b_CI_take 2 = .ok (.iload_n 2, 1) := by decide +kernel
theorem d_CI_take_3 : decode b_CI_take 3 = .ok (.invokevirtual 39, 3) := by decide +kernel
theorem d_CI_take_6 : decode b_CI_take 6 = .ok (.ifCond .ne 5, 3) := by decide +kernel
theorem d_CI_take_9 : decode b_CI_take 9 = .ok (.iconst (-1), 1) := by decide +kernel
theorem d_CI_take_10 : decode b_CI_take 10 = .ok (.ireturn, 1) := by decide +kernel
theorem d_CI_take_11 : decode b_CI_take 11 = .ok (.aload_n 0, 1) := by decide +kernel
theorem d_CI_take_12 : decode b_CI_take 12 = .ok (.iconst 1, 1) := by decide +kernel
theorem d_CI_take_13 : decode b_CI_take 13 = .ok (.iload_n 1, 1) := by decide +kernel
theorem d_CI_take_14 : decode b_CI_take 14 = .ok (.iload_n 2, 1) := by decide +kernel
theorem d_CI_take_15 : decode b_CI_take 15 = .ok (.invokevirtual 43, 3) := by decide +kernel
theorem d_CI_take_18 : decode b_CI_take 18 = .ok (.istore_n 3, 1) := by decide +kernel
theorem d_CI_take_19 : decode b_CI_take 19 = .ok (.aload_n 0, 1) := by decide +kernel
theorem d_CI_take_20 : decode b_CI_take 20 = .ok (.getfield 16, 3) := by decide +kernel
theorem d_CI_take_23 : decode b_CI_take 23 = .ok (.iload_n 3, 1) := by decide +kernel
theorem d_CI_take_24 : decode b_CI_take 24 = .ok (.invokevirtual 54, 3) := by decide +kernel
theorem d_CI_take_27 : decode b_CI_take 27 = .ok (.istore 4, 2) := by decide +kernel
theorem d_CI_take_29 : decode b_CI_take 29 = .ok (.aload_n 0, 1) := by decide +kernel
theorem d_CI_take_30 : decode b_CI_take 30 = .ok (.getfield 10, 3) := by decide +kernel
theorem d_CI_take_33 : decode b_CI_take 33 = .ok (.aload_n 0, 1) := by decide +kernel
theorem d_CI_take_34 : decode b_CI_take 34 = .ok (.iconst 0, 1) := by decide +kernel
theorem d_CI_take_35 : decode b_CI_take 35 = .ok (.iload_n 1, 1) := by decide +kernel
theorem d_CI_take_36 : decode b_CI_take 36 = .ok (.iload_n 2, 1) := by decide +kernel
theorem d_CI_take_37 : decode b_CI_take 37 = .ok (.invokevirtual 43, 3) := by decide +kernel
theorem d_CI_take_40 : decode b_CI_take 40 = .ok (.invokevirtual 69, 3) := by decide +kernel
theorem d_CI_take_43 : decode b_CI_take 43 = .ok (.aload_n 0, 1) := by decide +kernel
theorem d_CI_take_44 : decode b_CI_take 44 = .ok (.getfield 16, 3) := by decide +kernel
theorem d_CI_take_47 : decode b_CI_take 47 = .ok (.iload_n 3, 1) := by decide +kernel
theorem d_CI_take_48 : decode b_CI_take 48 = .ok (.invokevirtual 69, 3) := by decide +kernel
theorem d_CI_take_51 : decode b_CI_take 51 = .ok (.iload 4, 2) := by decide +kernel
theorem d_CI_take_53 : decode b_CI_take 53 = .ok (.ireturn, 1) := by decide +kernel
theorem d_CI_at_0 : decode b_CI_at 0 = .ok (.aload_n 0, 1) := by decide +kernel
theorem d_CI_at_1 : decode b_CI_at 1 = .ok (.iload_n 1, 1) := by decide +kernel
theorem d_CI_at_2 : decode b_CI_at 2 = .ok (.iload_n 2, 1) := by decide +kernel
theorem d_CI_at_3 : decode b_CI_at 3 = .ok (.invokevirtual 39, 3) := by decide +kernel
theorem d_CI_at_6 : decode b_CI_at 6 = .ok (.ifCond .eq 20, 3) := by decide +kernel
theorem d_CI_at_9 : decode b_CI_at 9 = .ok (.aload_n 0, 1) := by decide +kernel
theorem d_CI_at_10 : decode b_CI_at 10 = .ok (.getfield 16, 3) := by decide +kernel
theorem d_CI_at_13 : decode b_CI_at 13 = .ok (.aload_n 0, 1) := by decide +kernel
theorem d_CI_at_14 : decode b_CI_at 14 = .ok (.iconst 1, 1) := by decide +kernel
theorem d_CI_at_15 : decode b_CI_at 15 = .ok (.iload_n 1, 1) := by decide +kernel
theorem d_CI_at_16 : decode b_CI_at 16 = .ok (.iload_n 2, 1) := by decide +kernel
theorem d_CI_at_17 : decode b_CI_at 17 = .ok (.invokevirtual 43, 3) := by decide +kernel
theorem d_CI_at_20 : decode b_CI_at 20 = .ok (.invokevirtual 54, 3) := by decide +kernel
theorem d_CI_at_23 : decode b_CI_at 23 = .ok (.goto 4, 3) := by decide +kernel
theorem d_CI_at_26 : decode b_CI_at 26 = .ok (.iconst (-1), 1) := by decide +kernel
theorem d_CI_at_27 : decode b_CI_at 27 = .ok (.ireturn, 1) := by decide +kernel
theorem d_CI_many_0 : decode b_CI_many 0 = .ok (.aload_n 0, 1) := by decide +kernel
theorem d_CI_many_1 : decode b_CI_many 1 = .ok (.getfield 16, 3) := by decide +kernel
theorem d_CI_many_4 : decode b_CI_many 4 = .ok (.getfield 73, 3) := by decide +kernel
theorem d_CI_many_7 : decode b_CI_many 7 = .ok (.ireturn, 1) := by decide +kernel
theorem d_CI_window_0 : decode b_CI_window 0 = .ok (.aload_n 0, 1) := by decide +kernel
theorem d_CI_window_1 : decode b_CI_window 1 = .ok (.iload_n 1, 1) := by decide +kernel
theorem d_CI_window_2 : decode b_CI_window 2 = .ok (.iload_n 2, 1) := by decide +kernel
theorem d_CI_window_3 : decode b_CI_window 3 = .ok (.invokevirtual 39, 3) := by decide +kernel
theorem d_CI_window_6 : decode b_CI_window 6 = .ok (.ifCond .eq 24, 3) := by decide +kernel
theorem d_CI_window_9 : decode b_CI_window 9 = .ok (.aload_n 0, 1) := by decide +kernel
theorem d_CI_window_10 : decode b_CI_window 10 = .ok (.iload_n 3, 1) := by decide +kernel
theorem d_CI_window_11 : decode b_CI_window 11 = .ok (.iload 4, 2) := by decide +kernel
theorem d_CI_window_13 : decode b_CI_window 13 = .ok (.invokevirtual 39, 3) := by decide +kernel
theorem d_CI_window_16 : decode b_CI_window 16 = .ok (.ifCond .eq 14, 3) := by decide +kernel
theorem d_CI_window_19 : decode b_CI_window 19 = .ok (.iload_n 3, 1) := by decide +kernel
theorem d_CI_window_20 : decode b_CI_window 20 = .ok (.iload_n 1, 1) := by decide +kernel
theorem d_CI_window_21 : decode b_CI_window 21 = .ok (.if_icmp .lt 9, 3) := by decide +kernel
theorem d_CI_window_24 : decode b_CI_window 24 = .ok (.iload 4, 2) := by decide +kernel
theorem d_CI_window_26 : decode b_CI_window 26 = .ok (.iload_n 2, 1) := by decide +kernel
theorem d_CI_window_27 : decode b_CI_window 27 = .ok (.if_icmp .ge 5, 3) := by decide +kernel
theorem d_CI_window_30 : decode b_CI_window 30 = .ok (.iconst 0, 1) := by decide +kernel
theorem d_CI_window_31 : decode b_CI_window 31 = .ok (.ireturn, 1) := by decide +kernel
theorem d_CI_window_32 : decode b_CI_window 32 = .ok (.aload_n 0, 1) := by decide +kernel
theorem d_CI_window_33 : decode b_CI_window 33 = .ok (.new 23, 3) := by decide +kernel
theorem d_CI_window_36 : decode b_CI_window 36 = .ok (.dup, 1) := by decide +kernel
theorem d_CI_window_37 : decode b_CI_window 37 = .ok (.iload_n 1, 1) := by decide +kernel
theorem d_CI_window_38 : decode b_CI_window 38 = .ok (.iload_n 2, 1) := by decide +kernel
theorem d_CI_window_39 : decode b_CI_window 39 = .ok (.iload_n 3, 1) := by decide +kernel
theorem d_CI_window_40 : decode b_CI_window 40 = .ok (.iload 4, 2) := by decide +kernel
theorem d_CI_window_42 : decode b_CI_window 42 = .ok (.invokespecial 25, 3) := by decide +kernel
theorem d_CI_window_45 : decode b_CI_window 45 = .ok (.putfield 28, 3) := by decide +kernel
theorem d_CI_window_48 : decode b_CI_window 48 = .ok (.iconst 1, 1) := by decide +kernel
theorem d_CI_window_49 : decode b_CI_window 49 = .ok (.ireturn, 1) := by decide +kernel
theorem d_CI_inside_0 : decode b_CI_inside 0 = .ok (.iconst 0, 1) := by decide +kernel
theorem d_CI_inside_1 : decode b_CI_inside 1 = .ok (.istore_n 1, 1) := by decide +kernel
theorem d_CI_inside_2 : decode b_CI_inside 2 = .ok (.iconst 0, 1) := by decide +kernel
theorem d_CI_inside_3 : decode b_CI_inside 3 = .ok (.istore_n 2, 1) := by decide +kernel
theorem d_CI_inside_4 : decode b_CI_inside 4 = .ok (.iload_n 2, 1) := by decide +kernel
theorem d_CI_inside_5 : decode b_CI_inside 5 = .ok (.aload_n 0, 1) := by decide +kernel
theorem d_CI_inside_6 : decode b_CI_inside 6 = .ok (.getfield 16, 3) := by decide +kernel
theorem d_CI_inside_9 : decode b_CI_inside 9 = .ok (.getfield 73, 3) := by decide +kernel
theorem d_CI_inside_12 : decode b_CI_inside 12 = .ok (.if_icmp .ge 28, 3) := by decide +kernel
theorem d_CI_inside_15 : decode b_CI_inside 15 = .ok (.aload_n 0, 1) := by decide +kernel
theorem d_CI_inside_16 : decode b_CI_inside 16 = .ok (.aload_n 0, 1) := by decide +kernel
theorem d_CI_inside_17 : decode b_CI_inside 17 = .ok (.getfield 16, 3) := by decide +kernel
theorem d_CI_inside_20 : decode b_CI_inside 20 = .ok (.getfield 76, 3) := by decide +kernel
theorem d_CI_inside_23 : decode b_CI_inside 23 = .ok (.iload_n 2, 1) := by decide +kernel
theorem d_CI_inside_24 : decode b_CI_inside 24 = .ok (.iaload, 1) := by decide +kernel
theorem d_CI_inside_25 : decode b_CI_inside 25 = .ok (.invokevirtual 80, 3) := by decide +kernel
theorem d_CI_inside_28 : decode b_CI_inside 28 = .ok (.ifCond .eq 6, 3) := by decide +kernel
theorem d_CI_inside_31 : decode b_CI_inside 31 = .ok (.iinc 1 1, 3) := by decide +kernel
theorem d_CI_inside_34 : decode b_CI_inside 34 = .ok (.iinc 2 1, 3) := by decide +kernel
theorem d_CI_inside_37 : decode b_CI_inside 37 = .ok (.goto (-33), 3) := by decide +kernel
theorem d_CI_inside_40 : decode b_CI_inside 40 = .ok (.iload_n 1, 1) := by decide +kernel
theorem d_CI_inside_41 : decode b_CI_inside 41 = .ok (.ireturn, 1) := by decide +kernel
theorem d_CI_sum_0 : decode b_CI_sum 0 = .ok (.iconst 0, 1) := by decide +kernel
theorem d_CI_sum_1 : decode b_CI_sum 1 = .ok (.istore_n 1, 1) := by decide +kernel
theorem d_CI_sum_2 : decode b_CI_sum 2 = .ok (.iconst 0, 1) := by decide +kernel
theorem d_CI_sum_3 : decode b_CI_sum 3 = .ok (.istore_n 2, 1) := by decide +kernel
theorem d_CI_sum_4 : decode b_CI_sum 4 = .ok (.iload_n 2, 1) := by decide +kernel
theorem d_CI_sum_5 : decode b_CI_sum 5 = .ok (.aload_n 0, 1) := by decide +kernel
theorem d_CI_sum_6 : decode b_CI_sum 6 = .ok (.getfield 16, 3) := by decide +kernel
theorem d_CI_sum_9 : decode b_CI_sum 9 = .ok (.getfield 73, 3) := by decide +kernel
theorem d_CI_sum_12 : decode b_CI_sum 12 = .ok (.if_icmp .ge 37, 3) := by decide +kernel
theorem d_CI_sum_15 : decode b_CI_sum 15 = .ok (.aload_n 0, 1) := by decide +kernel
theorem d_CI_sum_16 : decode b_CI_sum 16 = .ok (.aload_n 0, 1) := by decide +kernel
theorem d_CI_sum_17 : decode b_CI_sum 17 = .ok (.getfield 16, 3) := by decide +kernel
theorem d_CI_sum_20 : decode b_CI_sum 20 = .ok (.getfield 76, 3) := by decide +kernel
theorem d_CI_sum_23 : decode b_CI_sum 23 = .ok (.iload_n 2, 1) := by decide +kernel
theorem d_CI_sum_24 : decode b_CI_sum 24 = .ok (.iaload, 1) := by decide +kernel
theorem d_CI_sum_25 : decode b_CI_sum 25 = .ok (.invokevirtual 80, 3) := by decide +kernel
theorem d_CI_sum_28 : decode b_CI_sum 28 = .ok (.ifCond .eq 15, 3) := by decide +kernel
theorem d_CI_sum_31 : decode b_CI_sum 31 = .ok (.iload_n 1, 1) := by decide +kernel
theorem d_CI_sum_32 : decode b_CI_sum 32 = .ok (.aload_n 0, 1) := by decide +kernel
theorem d_CI_sum_33 : decode b_CI_sum 33 = .ok (.getfield 16, 3) := by decide +kernel
theorem d_CI_sum_36 : decode b_CI_sum 36 = .ok (.getfield 83, 3) := by decide +kernel
theorem d_CI_sum_39 : decode b_CI_sum 39 = .ok (.iload_n 2, 1) := by decide +kernel
theorem d_CI_sum_40 : decode b_CI_sum 40 = .ok (.iaload, 1) := by decide +kernel
theorem d_CI_sum_41 : decode b_CI_sum 41 = .ok (.iadd, 1) := by decide +kernel
theorem d_CI_sum_42 : decode b_CI_sum 42 = .ok (.istore_n 1, 1) := by decide +kernel
theorem d_CI_sum_43 : decode b_CI_sum 43 = .ok (.iinc 2 1, 3) := by decide +kernel
theorem d_CI_sum_46 : decode b_CI_sum 46 = .ok (.goto (-42), 3) := by decide +kernel
theorem d_CI_sum_49 : decode b_CI_sum 49 = .ok (.iload_n 1, 1) := by decide +kernel
theorem d_CI_sum_50 : decode b_CI_sum 50 = .ok (.ireturn, 1) := by decide +kernel
theorem d_CI_nth_0 : decode b_CI_nth 0 = .ok (.iload_n 1, 1) := by decide +kernel
theorem d_CI_nth_1 : decode b_CI_nth 1 = .ok (.invokestatic 35, 3) := by decide +kernel
theorem d_CI_nth_4 : decode b_CI_nth 4 = .ok (.ifCond .ne 5, 3) := by decide +kernel
theorem d_CI_nth_7 : decode b_CI_nth 7 = .ok (.iconst (-1), 1) := by decide +kernel
theorem d_CI_nth_8 : decode b_CI_nth 8 = .ok (.ireturn, 1) := by decide +kernel
theorem d_CI_nth_9 : decode b_CI_nth 9 = .ok (.iload_n 1, 1) := by decide +kernel
theorem d_CI_nth_10 : decode b_CI_nth 10 = .ok (.ifCond .ne 10, 3) := by decide +kernel
theorem d_CI_nth_13 : decode b_CI_nth 13 = .ok (.aload_n 0, 1) := by decide +kernel
theorem d_CI_nth_14 : decode b_CI_nth 14 = .ok (.getfield 10, 3) := by decide +kernel
theorem d_CI_nth_17 : decode b_CI_nth 17 = .ok (.goto 7, 3) := by decide +kernel
theorem d_CI_nth_20 : decode b_CI_nth 20 = .ok (.aload_n 0, 1) := by decide +kernel
theorem d_CI_nth_21 : decode b_CI_nth 21 = .ok (.getfield 16, 3) := by decide +kernel
theorem d_CI_nth_24 : decode b_CI_nth 24 = .ok (.astore_n 3, 1) := by decide +kernel
theorem d_CI_nth_25 : decode b_CI_nth 25 = .ok (.iconst 0, 1) := by decide +kernel
theorem d_CI_nth_26 : decode b_CI_nth 26 = .ok (.istore 4, 2) := by decide +kernel
theorem d_CI_nth_28 : decode b_CI_nth 28 = .ok (.iconst 0, 1) := by decide +kernel
theorem d_CI_nth_29 : decode b_CI_nth 29 = .ok (.istore 5, 2) := by decide +kernel
theorem d_CI_nth_31 : decode b_CI_nth 31 = .ok (.iload 5, 2) := by decide +kernel
theorem d_CI_nth_33 : decode b_CI_nth 33 = .ok (.aload_n 3, 1) := by decide +kernel
theorem d_CI_nth_34 : decode b_CI_nth 34 = .ok (.getfield 73, 3) := by decide +kernel
theorem d_CI_nth_37 : decode b_CI_nth 37 = .ok (.if_icmp .ge 39, 3) := by decide +kernel
theorem d_CI_nth_40 : decode b_CI_nth 40 = .ok (.aload_n 3, 1) := by decide +kernel
theorem d_CI_nth_41 : decode b_CI_nth 41 = .ok (.getfield 76, 3) := by decide +kernel
theorem d_CI_nth_44 : decode b_CI_nth 44 = .ok (.iload 5, 2) := by decide +kernel
theorem d_CI_nth_46 : decode b_CI_nth 46 = .ok (.iaload, 1) := by decide +kernel
theorem d_CI_nth_47 : decode b_CI_nth 47 = .ok (.istore 6, 2) := by decide +kernel
theorem d_CI_nth_49 : decode b_CI_nth 49 = .ok (.aload_n 0, 1) := by decide +kernel
theorem d_CI_nth_50 : decode b_CI_nth 50 = .ok (.iload 6, 2) := by decide +kernel
theorem d_CI_nth_52 : decode b_CI_nth 52 = .ok (.invokevirtual 80, 3) := by decide +kernel
theorem d_CI_nth_55 : decode b_CI_nth 55 = .ok (.ifCond .eq 15, 3) := by decide +kernel
theorem d_CI_nth_58 : decode b_CI_nth 58 = .ok (.iload 4, 2) := by decide +kernel
theorem d_CI_nth_60 : decode b_CI_nth 60 = .ok (.iload_n 2, 1) := by decide +kernel
theorem d_CI_nth_61 : decode b_CI_nth 61 = .ok (.if_icmp .ne 6, 3) := by decide +kernel
theorem d_CI_nth_64 : decode b_CI_nth 64 = .ok (.iload 6, 2) := by decide +kernel
theorem d_CI_nth_66 : decode b_CI_nth 66 = .ok (.ireturn, 1) := by decide +kernel
theorem d_CI_nth_67 : decode b_CI_nth 67 = .ok (.iinc 4 1, 3) := by decide +kernel
theorem d_CI_nth_70 : decode b_CI_nth 70 = .ok (.iinc 5 1, 3) := by decide +kernel
theorem d_CI_nth_73 : decode b_CI_nth 73 = .ok (.goto (-42), 3) := by decide +kernel
theorem d_CI_nth_76 : decode b_CI_nth 76 = .ok (.iconst (-1), 1) := by decide +kernel
theorem d_CI_nth_77 : decode b_CI_nth 77 = .ok (.ireturn, 1) := by decide +kernel
theorem d_CI_runs_0 : decode b_CI_runs 0 = .ok (.aload_n 0, 1) := by decide +kernel
theorem d_CI_runs_1 : decode b_CI_runs 1 = .ok (.iload_n 1, 1) := by decide +kernel
theorem d_CI_runs_2 : decode b_CI_runs 2 = .ok (.invokevirtual 86, 3) := by decide +kernel
theorem d_CI_runs_5 : decode b_CI_runs 5 = .ok (.ifCond .eq 15, 3) := by decide +kernel
theorem d_CI_runs_8 : decode b_CI_runs 8 = .ok (.aload_n 0, 1) := by decide +kernel
theorem d_CI_runs_9 : decode b_CI_runs 9 = .ok (.iload_n 1, 1) := by decide +kernel
theorem d_CI_runs_10 : decode b_CI_runs 10 = .ok (.iconst (-1), 1) := by decide +kernel
theorem d_CI_runs_11 : decode b_CI_runs 11 = .ok (.invokevirtual 89, 3) := by decide +kernel
theorem d_CI_runs_14 : decode b_CI_runs 14 = .ok (.getfield 93, 3) := by decide +kernel
theorem d_CI_runs_17 : decode b_CI_runs 17 = .ok (.goto 4, 3) := by decide +kernel
theorem d_CI_runs_20 : decode b_CI_runs 20 = .ok (.iconst (-1), 1) := by decide +kernel
theorem d_CI_runs_21 : decode b_CI_runs 21 = .ok (.ireturn, 1) := by decide +kernel
theorem d_CI_run_0 : decode b_CI_run 0 = .ok (.aload_n 0, 1) := by decide +kernel
theorem d_CI_run_1 : decode b_CI_run 1 = .ok (.iload_n 1, 1) := by decide +kernel
theorem d_CI_run_2 : decode b_CI_run 2 = .ok (.invokevirtual 86, 3) := by decide +kernel
theorem d_CI_run_5 : decode b_CI_run 5 = .ok (.ifCond .eq 16, 3) := by decide +kernel
theorem d_CI_run_8 : decode b_CI_run 8 = .ok (.iload_n 2, 1) := by decide +kernel
theorem d_CI_run_9 : decode b_CI_run 9 = .ok (.ifCond .lt 12, 3) := by decide +kernel
theorem d_CI_run_12 : decode b_CI_run 12 = .ok (.iload_n 3, 1) := by decide +kernel
theorem d_CI_run_13 : decode b_CI_run 13 = .ok (.ifCond .lt 8, 3) := by decide +kernel
theorem d_CI_run_16 : decode b_CI_run 16 = .ok (.iload_n 3, 1) := by decide +kernel
theorem d_CI_run_17 : decode b_CI_run 17 = .ok (.iconst 1, 1) := by decide +kernel
theorem d_CI_run_18 : decode b_CI_run 18 = .ok (.if_icmp .le 5, 3) := by decide +kernel
theorem d_CI_run_21 : decode b_CI_run 21 = .ok (.iconst (-1), 1) := by decide +kernel
theorem d_CI_run_22 : decode b_CI_run 22 = .ok (.ireturn, 1) := by decide +kernel
theorem d_CI_run_23 : decode b_CI_run 23 = .ok (.aload_n 0, 1) := by decide +kernel
theorem d_CI_run_24 : decode b_CI_run 24 = .ok (.iload_n 1, 1) := by decide +kernel
theorem d_CI_run_25 : decode b_CI_run 25 = .ok (.iload_n 2, 1) := by decide +kernel
theorem d_CI_run_26 : decode b_CI_run 26 = .ok (.invokevirtual 89, 3) := by decide +kernel
theorem d_CI_run_29 : decode b_CI_run 29 = .ok (.astore 4, 2) := by decide +kernel
theorem d_CI_run_31 : decode b_CI_run 31 = .ok (.iload_n 3, 1) := by decide +kernel
theorem d_CI_run_32 : decode b_CI_run 32 = .ok (.ifCond .ne 11, 3) := by decide +kernel
theorem d_CI_run_35 : decode b_CI_run 35 = .ok (.aload 4, 2) := by decide +kernel
theorem d_CI_run_37 : decode b_CI_run 37 = .ok (.getfield 98, 3) := by decide +kernel
theorem d_CI_run_40 : decode b_CI_run 40 = .ok (.goto 8, 3) := by decide +kernel
theorem d_CI_run_43 : decode b_CI_run 43 = .ok (.aload 4, 2) := by decide +kernel
theorem d_CI_run_45 : decode b_CI_run 45 = .ok (.getfield 101, 3) := by decide +kernel
theorem d_CI_run_48 : decode b_CI_run 48 = .ok (.ireturn, 1) := by decide +kernel
theorem d_CI_nearest_0 : decode b_CI_nearest 0 = .ok (.aload_n 0, 1) := by decide +kernel
theorem d_CI_nearest_1 : decode b_CI_nearest 1 = .ok (.iload_n 1, 1) := by decide +kernel
theorem d_CI_nearest_2 : decode b_CI_nearest 2 = .ok (.iload_n 2, 1) := by decide +kernel
theorem d_CI_nearest_3 : decode b_CI_nearest 3 = .ok (.invokevirtual 39, 3) := by decide +kernel
theorem d_CI_nearest_6 : decode b_CI_nearest 6 = .ok (.ifCond .ne 5, 3) := by decide +kernel
theorem d_CI_nearest_9 : decode b_CI_nearest 9 = .ok (.iconst (-1), 1) := by decide +kernel
theorem d_CI_nearest_10 : decode b_CI_nearest 10 = .ok (.ireturn, 1) := by decide +kernel
theorem d_CI_nearest_11 : decode b_CI_nearest 11 = .ok (.iconst (-1), 1) := by decide +kernel
theorem d_CI_nearest_12 : decode b_CI_nearest 12 = .ok (.istore_n 3, 1) := by decide +kernel
theorem d_CI_nearest_13 : decode b_CI_nearest 13 = .ok (.lconst 0, 1) := by decide +kernel
theorem d_CI_nearest_14 : decode b_CI_nearest 14 = .ok (.lstore 4, 2) := by decide +kernel
theorem d_CI_nearest_16 : decode b_CI_nearest 16 = .ok (.iconst 0, 1) := by decide +kernel
theorem d_CI_nearest_17 : decode b_CI_nearest 17 = .ok (.istore 6, 2) := by decide +kernel
theorem d_CI_nearest_19 : decode b_CI_nearest 19 = .ok (.iload 6, 2) := by decide +kernel
theorem d_CI_nearest_21 : decode b_CI_nearest 21 = .ok (.aload_n 0, 1) := by decide +kernel
theorem d_CI_nearest_22 : decode b_CI_nearest 22 = .ok (.getfield 16, 3) := by decide +kernel
theorem d_CI_nearest_25 : decode b_CI_nearest 25 = .ok (.getfield 73, 3) := by decide +kernel
theorem d_CI_nearest_28 : decode b_CI_nearest 28 = .ok (.if_icmp .ge 51, 3) := by decide +kernel
theorem d_CI_nearest_31 : decode b_CI_nearest 31 = .ok (.aload_n 0, 1) := by decide +kernel
theorem d_CI_nearest_32 : decode b_CI_nearest 32 = .ok (.getfield 16, 3) := by decide +kernel
theorem d_CI_nearest_35 : decode b_CI_nearest 35 = .ok (.getfield 76, 3) := by decide +kernel
theorem d_CI_nearest_38 : decode b_CI_nearest 38 = .ok (.iload 6, 2) := by decide +kernel
theorem d_CI_nearest_40 : decode b_CI_nearest 40 = .ok (.iaload, 1) := by decide +kernel
theorem d_CI_nearest_41 : decode b_CI_nearest 41 = .ok (.istore 7, 2) := by decide +kernel
theorem d_CI_nearest_43 : decode b_CI_nearest 43 = .ok (.aload_n 0, 1) := by decide +kernel
theorem d_CI_nearest_44 : decode b_CI_nearest 44 = .ok (.iload_n 1, 1) := by decide +kernel
theorem d_CI_nearest_45 : decode b_CI_nearest 45 = .ok (.iload_n 2, 1) := by decide +kernel
theorem d_CI_nearest_46 : decode b_CI_nearest 46 = .ok (.iload 7, 2) := by decide +kernel
theorem d_CI_nearest_48 : decode b_CI_nearest 48 = .ok (.invokevirtual 104, 3) := by decide +kernel
theorem d_CI_nearest_51 : decode b_CI_nearest 51 = .ok (.lstore 8, 2) := by decide +kernel
theorem d_CI_nearest_53 : decode b_CI_nearest 53 = .ok (.iload_n 3, 1) := by decide +kernel
theorem d_CI_nearest_54 : decode b_CI_nearest 54 = .ok (.iconst (-1), 1) := by decide +kernel
theorem d_CI_nearest_55 : decode b_CI_nearest 55 = .ok (.if_icmp .eq 11, 3) := by decide +kernel
theorem d_CI_nearest_58 : decode b_CI_nearest 58 = .ok (.lload 8, 2) := by decide +kernel
theorem d_CI_nearest_60 : decode b_CI_nearest 60 = .ok (.lload 4, 2) := by decide +kernel
theorem d_CI_nearest_62 : decode b_CI_nearest 62 = .ok (.lcmp, 1) := by decide +kernel
theorem d_CI_nearest_63 : decode b_CI_nearest 63 = .ok (.ifCond .ge 10, 3) := by decide +kernel
theorem d_CI_nearest_66 : decode b_CI_nearest 66 = .ok (.iload 7, 2) := by decide +kernel
theorem d_CI_nearest_68 : decode b_CI_nearest 68 = .ok (.istore_n 3, 1) := by decide +kernel
theorem d_CI_nearest_69 : decode b_CI_nearest 69 = .ok (.lload 8, 2) := by decide +kernel
theorem d_CI_nearest_71 : decode b_CI_nearest 71 = .ok (.lstore 4, 2) := by decide +kernel
theorem d_CI_nearest_73 : decode b_CI_nearest 73 = .ok (.iinc 6 1, 3) := by decide +kernel
theorem d_CI_nearest_76 : decode b_CI_nearest 76 = .ok (.goto (-57), 3) := by decide +kernel
theorem d_CI_nearest_79 : decode b_CI_nearest 79 = .ok (.iload_n 3, 1) := by decide +kernel
theorem d_CI_nearest_80 : decode b_CI_nearest 80 = .ok (.ireturn, 1) := by decide +kernel
theorem d_CI_isCurve_0 : decode b_CI_isCurve 0 = .ok (.iload_n 0, 1) := by decide +kernel
theorem d_CI_isCurve_1 : decode b_CI_isCurve 1 = .ok (.ifCond .eq 8, 3) := by decide +kernel
theorem d_CI_isCurve_4 : decode b_CI_isCurve 4 = .ok (.iload_n 0, 1) := by decide +kernel
theorem d_CI_isCurve_5 : decode b_CI_isCurve 5 = .ok (.iconst 1, 1) := by decide +kernel
theorem d_CI_isCurve_6 : decode b_CI_isCurve 6 = .ok (.if_icmp .ne 7, 3) := by decide +kernel
theorem d_CI_isCurve_9 : decode b_CI_isCurve 9 = .ok (.iconst 1, 1) := by decide +kernel
theorem d_CI_isCurve_10 : decode b_CI_isCurve 10 = .ok (.goto 4, 3) := by decide +kernel
theorem d_CI_isCurve_13 : decode b_CI_isCurve 13 = .ok (.iconst 0, 1) := by decide +kernel
theorem d_CI_isCurve_14 : decode b_CI_isCurve 14 = .ok (.ireturn, 1) := by decide +kernel
theorem d_CI_isCell_0 : decode b_CI_isCell 0 = .ok (.iconst 1, 1) := by decide +kernel
theorem d_CI_isCell_1 : decode b_CI_isCell 1 = .ok (.aload_n 0, 1) := by decide +kernel
theorem d_CI_isCell_2 : decode b_CI_isCell 2 = .ok (.getfield 19, 3) := by decide +kernel
theorem d_CI_isCell_5 : decode b_CI_isCell 5 = .ok (.ishl, 1) := by decide +kernel
theorem d_CI_isCell_6 : decode b_CI_isCell 6 = .ok (.istore_n 3, 1) := by decide +kernel
theorem d_CI_isCell_7 : decode b_CI_isCell 7 = .ok (.iload_n 1, 1) := by decide +kernel
theorem d_CI_isCell_8 : decode b_CI_isCell 8 = .ok (.ifCond .lt 21, 3) := by decide +kernel
theorem d_CI_isCell_11 : decode b_CI_isCell 11 = .ok (.iload_n 1, 1) := by decide +kernel
theorem d_CI_isCell_12 : decode b_CI_isCell 12 = .ok (.iload_n 3, 1) := by decide +kernel
theorem d_CI_isCell_13 : decode b_CI_isCell 13 = .ok (.if_icmp .ge 16, 3) := by decide +kernel
theorem d_CI_isCell_16 : decode b_CI_isCell 16 = .ok (.iload_n 2, 1) := by decide +kernel
theorem d_CI_isCell_17 : decode b_CI_isCell 17 = .ok (.ifCond .lt 12, 3) := by decide +kernel
theorem d_CI_isCell_20 : decode b_CI_isCell 20 = .ok (.iload_n 2, 1) := by decide +kernel
theorem d_CI_isCell_21 : decode b_CI_isCell 21 = .ok (.iload_n 3, 1) := by decide +kernel
theorem d_CI_isCell_22 : decode b_CI_isCell 22 = .ok (.if_icmp .ge 7, 3) := by decide +kernel
theorem d_CI_isCell_25 : decode b_CI_isCell 25 = .ok (.iconst 1, 1) := by decide +kernel
theorem d_CI_isCell_26 : decode b_CI_isCell 26 = .ok (.goto 4, 3) := by decide +kernel
theorem d_CI_isCell_29 : decode b_CI_isCell 29 = .ok (.iconst 0, 1) := by decide +kernel
theorem d_CI_isCell_30 : decode b_CI_isCell 30 = .ok (.ireturn, 1) := by decide +kernel
theorem d_CI_isKey_0 : decode b_CI_isKey 0 = .ok (.iload_n 1, 1) := by decide +kernel
theorem d_CI_isKey_1 : decode b_CI_isKey 1 = .ok (.ifCond .lt 19, 3) := by decide +kernel
theorem d_CI_isKey_4 : decode b_CI_isKey 4 = .ok (.iload_n 1, 1) := by decide +kernel
theorem d_CI_isKey_5 : decode b_CI_isKey 5 = .ok (.iconst 1, 1) := by decide +kernel
theorem d_CI_isKey_6 : decode b_CI_isKey 6 = .ok (.iconst 2, 1) := by decide +kernel
theorem d_CI_isKey_7 : decode b_CI_isKey 7 = .ok (.aload_n 0, 1) := by decide +kernel
theorem d_CI_isKey_8 : decode b_CI_isKey 8 = .ok (.getfield 19, 3) := by decide +kernel
theorem d_CI_isKey_11 : decode b_CI_isKey 11 = .ok (.imul, 1) := by decide +kernel
theorem d_CI_isKey_12 : decode b_CI_isKey 12 = .ok (.ishl, 1) := by decide +kernel
theorem d_CI_isKey_13 : decode b_CI_isKey 13 = .ok (.if_icmp .ge 7, 3) := by decide +kernel
theorem d_CI_isKey_16 : decode b_CI_isKey 16 = .ok (.iconst 1, 1) := by decide +kernel
theorem d_CI_isKey_17 : decode b_CI_isKey 17 = .ok (.goto 4, 3) := by decide +kernel
theorem d_CI_isKey_20 : decode b_CI_isKey 20 = .ok (.iconst 0, 1) := by decide +kernel
theorem d_CI_isKey_21 : decode b_CI_isKey 21 = .ok (.ireturn, 1) := by decide +kernel
theorem d_CI_cellNumber_0 : decode b_CI_cellNumber 0 = .ok (.iload_n 1, 1) := by decide +kernel
theorem d_CI_cellNumber_1 : decode b_CI_cellNumber 1 = .ok (.aload_n 0, 1) := by decide +kernel
theorem d_CI_cellNumber_2 : decode b_CI_cellNumber 2 = .ok (.getfield 19, 3) := by decide +kernel
theorem d_CI_cellNumber_5 : decode b_CI_cellNumber 5 = .ok (.ishl, 1) := by decide +kernel
theorem d_CI_cellNumber_6 : decode b_CI_cellNumber 6 = .ok (.iload_n 2, 1) := by decide +kernel
theorem d_CI_cellNumber_7 : decode b_CI_cellNumber 7 = .ok (.iadd, 1) := by decide +kernel
theorem d_CI_cellNumber_8 : decode b_CI_cellNumber 8 = .ok (.ireturn, 1) := by decide +kernel
theorem d_CI_xOf_0 : decode b_CI_xOf 0 = .ok (.iload_n 1, 1) := by decide +kernel
theorem d_CI_xOf_1 : decode b_CI_xOf 1 = .ok (.aload_n 0, 1) := by decide +kernel
theorem d_CI_xOf_2 : decode b_CI_xOf 2 = .ok (.getfield 19, 3) := by decide +kernel
theorem d_CI_xOf_5 : decode b_CI_xOf 5 = .ok (.ishr, 1) := by decide +kernel
theorem d_CI_xOf_6 : decode b_CI_xOf 6 = .ok (.ireturn, 1) := by decide +kernel
theorem d_CI_yOf_0 : decode b_CI_yOf 0 = .ok (.iload_n 1, 1) := by decide +kernel
theorem d_CI_yOf_1 : decode b_CI_yOf 1 = .ok (.iconst 1, 1) := by decide +kernel
theorem d_CI_yOf_2 : decode b_CI_yOf 2 = .ok (.aload_n 0, 1) := by decide +kernel
theorem d_CI_yOf_3 : decode b_CI_yOf 3 = .ok (.getfield 19, 3) := by decide +kernel
theorem d_CI_yOf_6 : decode b_CI_yOf 6 = .ok (.ishl, 1) := by decide +kernel
theorem d_CI_yOf_7 : decode b_CI_yOf 7 = .ok (.iconst 1, 1) := by decide +kernel
theorem d_CI_yOf_8 : decode b_CI_yOf 8 = .ok (.isub, 1) := by decide +kernel
theorem d_CI_yOf_9 : decode b_CI_yOf 9 = .ok (.iand, 1) := by decide +kernel
theorem d_CI_yOf_10 : decode b_CI_yOf 10 = .ok (.ireturn, 1) := by decide +kernel
theorem d_CI_isInFrame_0 : decode b_CI_isInFrame 0 = .ok (.aload_n 0, 1) := by decide +kernel
theorem d_CI_isInFrame_1 : decode b_CI_isInFrame 1 = .ok (.getfield 28, 3) := by decide +kernel
theorem d_CI_isInFrame_4 : decode b_CI_isInFrame 4 = .ok (.aload_n 0, 1) := by decide +kernel
theorem d_CI_isInFrame_5 : decode b_CI_isInFrame 5 = .ok (.iload_n 1, 1) := by decide +kernel
theorem d_CI_isInFrame_6 : decode b_CI_isInFrame 6 = .ok (.invokevirtual 108, 3) := by decide +kernel
theorem d_CI_isInFrame_9 : decode b_CI_isInFrame 9 = .ok (.aload_n 0, 1) := by decide +kernel
theorem d_CI_isInFrame_10 : decode b_CI_isInFrame 10 = .ok (.iload_n 1, 1) := by decide +kernel
theorem d_CI_isInFrame_11 : decode b_CI_isInFrame 11 = .ok (.invokevirtual 111, 3) := by decide +kernel
theorem d_CI_isInFrame_14 : decode b_CI_isInFrame 14 = .ok (.invokevirtual 114, 3) := by decide +kernel
theorem d_CI_isInFrame_17 : decode b_CI_isInFrame 17 = .ok (.ireturn, 1) := by decide +kernel
theorem d_CI_squaredDistance_0 : decode b_CI_squaredDistance 0 = .ok (.iload_n 1, 1) := by decide +kernel
theorem d_CI_squaredDistance_1 : decode b_CI_squaredDistance 1 = .ok (.aload_n 0, 1) := by decide +kernel
theorem d_CI_squaredDistance_2 : decode b_CI_squaredDistance 2 = .ok (.iload_n 3, 1) := by decide +kernel
theorem d_CI_squaredDistance_3 : decode b_CI_squaredDistance 3 = .ok (.invokevirtual 108, 3) := by decide +kernel
theorem d_CI_squaredDistance_6 : decode b_CI_squaredDistance 6 = .ok (.isub, 1) := by decide +kernel
theorem d_CI_squaredDistance_7 : decode b_CI_squaredDistance 7 = .ok (.i2l, 1) := by decide +kernel
theorem d_CI_squaredDistance_8 : decode b_CI_squaredDistance 8 = .ok (.lstore 4, 2) := by decide +kernel
theorem d_CI_squaredDistance_10 : decode b_CI_squaredDistance 10 = .ok (.iload_n 2, 1) := by decide +kernel
theorem d_CI_squaredDistance_11 : decode b_CI_squaredDistance 11 = .ok (.aload_n 0, 1) := by decide +kernel
theorem d_CI_squaredDistance_12 : decode b_CI_squaredDistance 12 = .ok (.iload_n 3, 1) := by decide +kernel
theorem d_CI_squaredDistance_13 : decode b_CI_squaredDistance 13 = .ok (.invokevirtual 111, 3) := by decide +kernel
theorem d_CI_squaredDistance_16 : decode b_CI_squaredDistance 16 = .ok (.isub, 1) := by decide +kernel
theorem d_CI_squaredDistance_17 : decode b_CI_squaredDistance 17 = .ok (.i2l, 1) := by decide +kernel
theorem d_CI_squaredDistance_18 : decode b_CI_squaredDistance 18 = .ok (.lstore 6, 2) := by decide +kernel
theorem d_CI_squaredDistance_20 : decode b_CI_squaredDistance 20 = .ok (.lload 4, 2) := by decide +kernel
theorem d_CI_squaredDistance_22 : decode b_CI_squaredDistance 22 = .ok (.lload 4, 2) := by decide +kernel
theorem d_CI_squaredDistance_24 : decode b_CI_squaredDistance 24 = .ok (.lmul, 1) := by decide +kernel
theorem d_CI_squaredDistance_25 : decode b_CI_squaredDistance 25 = .ok (.lload 6, 2) := by decide +kernel
theorem d_CI_squaredDistance_27 : decode b_CI_squaredDistance 27 = .ok (.lload 6, 2) := by decide +kernel
theorem d_CI_squaredDistance_29 : decode b_CI_squaredDistance 29 = .ok (.lmul, 1) := by decide +kernel
theorem d_CI_squaredDistance_30 : decode b_CI_squaredDistance 30 = .ok (.ladd, 1) := by decide +kernel
theorem d_CI_squaredDistance_31 : decode b_CI_squaredDistance 31 = .ok (.lreturn, 1) := by decide +kernel
theorem d_CI_firstState_0 : decode b_CI_firstState 0 = .ok (.iload_n 0, 1) := by decide +kernel
theorem d_CI_firstState_1 : decode b_CI_firstState 1 = .ok (.ifCond .ne 7, 3) := by decide +kernel
theorem d_CI_firstState_4 : decode b_CI_firstState 4 = .ok (.iconst 4, 1) := by decide +kernel
theorem d_CI_firstState_5 : decode b_CI_firstState 5 = .ok (.goto 4, 3) := by decide +kernel
theorem d_CI_firstState_8 : decode b_CI_firstState 8 = .ok (.iconst 0, 1) := by decide +kernel
theorem d_CI_firstState_9 : decode b_CI_firstState 9 = .ok (.ireturn, 1) := by decide +kernel
theorem d_CI_keyOf_0 : decode b_CI_keyOf 0 = .ok (.iload_n 1, 1) := by decide +kernel
theorem d_CI_keyOf_1 : decode b_CI_keyOf 1 = .ok (.invokestatic 117, 3) := by decide +kernel
theorem d_CI_keyOf_4 : decode b_CI_keyOf 4 = .ok (.istore 4, 2) := by decide +kernel
theorem d_CI_keyOf_6 : decode b_CI_keyOf 6 = .ok (.iconst 0, 1) := by decide +kernel
theorem d_CI_keyOf_7 : decode b_CI_keyOf 7 = .ok (.istore 5, 2) := by decide +kernel
theorem d_CI_keyOf_9 : decode b_CI_keyOf 9 = .ok (.aload_n 0, 1) := by decide +kernel
theorem d_CI_keyOf_10 : decode b_CI_keyOf 10 = .ok (.getfield 19, 3) := by decide +kernel
theorem d_CI_keyOf_13 : decode b_CI_keyOf 13 = .ok (.iconst 1, 1) := by decide +kernel
theorem d_CI_keyOf_14 : decode b_CI_keyOf 14 = .ok (.isub, 1) := by decide +kernel
theorem d_CI_keyOf_15 : decode b_CI_keyOf 15 = .ok (.istore 6, 2) := by decide +kernel
theorem d_CI_keyOf_17 : decode b_CI_keyOf 17 = .ok (.iload 6, 2) := by decide +kernel
theorem d_CI_keyOf_19 : decode b_CI_keyOf 19 = .ok (.ifCond .lt 61, 3) := by decide +kernel
theorem d_CI_keyOf_22 : decode b_CI_keyOf 22 = .ok (.iconst 2, 1) := by decide +kernel
theorem d_CI_keyOf_23 : decode b_CI_keyOf 23 = .ok (.iload_n 2, 1) := by decide +kernel
theorem d_CI_keyOf_24 : decode b_CI_keyOf 24 = .ok (.iload 6, 2) := by decide +kernel
theorem d_CI_keyOf_26 : decode b_CI_keyOf 26 = .ok (.ishr, 1) := by decide +kernel
theorem d_CI_keyOf_27 : decode b_CI_keyOf 27 = .ok (.iconst 1, 1) := by decide +kernel
theorem d_CI_keyOf_28 : decode b_CI_keyOf 28 = .ok (.iand, 1) := by decide +kernel
theorem d_CI_keyOf_29 : decode b_CI_keyOf 29 = .ok (.imul, 1) := by decide +kernel
theorem d_CI_keyOf_30 : decode b_CI_keyOf 30 = .ok (.iload_n 3, 1) := by decide +kernel
theorem d_CI_keyOf_31 : decode b_CI_keyOf 31 = .ok (.iload 6, 2) := by decide +kernel
theorem d_CI_keyOf_33 : decode b_CI_keyOf 33 = .ok (.ishr, 1) := by decide +kernel
theorem d_CI_keyOf_34 : decode b_CI_keyOf 34 = .ok (.iconst 1, 1) := by decide +kernel
theorem d_CI_keyOf_35 : decode b_CI_keyOf 35 = .ok (.iand, 1) := by decide +kernel
theorem d_CI_keyOf_36 : decode b_CI_keyOf 36 = .ok (.iadd, 1) := by decide +kernel
theorem d_CI_keyOf_37 : decode b_CI_keyOf 37 = .ok (.istore 7, 2) := by decide +kernel
theorem d_CI_keyOf_39 : decode b_CI_keyOf 39 = .ok (.getstatic 120, 3) := by decide +kernel
theorem d_CI_keyOf_42 : decode b_CI_keyOf 42 = .ok (.iconst 4, 1) := by decide +kernel
theorem d_CI_keyOf_43 : decode b_CI_keyOf 43 = .ok (.iload 4, 2) := by decide +kernel
theorem d_CI_keyOf_45 : decode b_CI_keyOf 45 = .ok (.imul, 1) := by decide +kernel
theorem d_CI_keyOf_46 : decode b_CI_keyOf 46 = .ok (.iload 7, 2) := by decide +kernel
theorem d_CI_keyOf_48 : decode b_CI_keyOf 48 = .ok (.iadd, 1) := by decide +kernel
theorem d_CI_keyOf_49 : decode b_CI_keyOf 49 = .ok (.iaload, 1) := by decide +kernel
theorem d_CI_keyOf_50 : decode b_CI_keyOf 50 = .ok (.istore 8, 2) := by decide +kernel
theorem d_CI_keyOf_52 : decode b_CI_keyOf 52 = .ok (.iconst 4, 1) := by decide +kernel
theorem d_CI_keyOf_53 : decode b_CI_keyOf 53 = .ok (.iload 5, 2) := by decide +kernel
theorem d_CI_keyOf_55 : decode b_CI_keyOf 55 = .ok (.imul, 1) := by decide +kernel
theorem d_CI_keyOf_56 : decode b_CI_keyOf 56 = .ok (.iload 8, 2) := by decide +kernel
theorem d_CI_keyOf_58 : decode b_CI_keyOf 58 = .ok (.iadd, 1) := by decide +kernel
theorem d_CI_keyOf_59 : decode b_CI_keyOf 59 = .ok (.istore 5, 2) := by decide +kernel
theorem d_CI_keyOf_61 : decode b_CI_keyOf 61 = .ok (.getstatic 123, 3) := by decide +kernel
theorem d_CI_keyOf_64 : decode b_CI_keyOf 64 = .ok (.iconst 4, 1) := by decide +kernel
theorem d_CI_keyOf_65 : decode b_CI_keyOf 65 = .ok (.iload 4, 2) := by decide +kernel
theorem d_CI_keyOf_67 : decode b_CI_keyOf 67 = .ok (.imul, 1) := by decide +kernel
theorem d_CI_keyOf_68 : decode b_CI_keyOf 68 = .ok (.iload 8, 2) := by decide +kernel
theorem d_CI_keyOf_70 : decode b_CI_keyOf 70 = .ok (.iadd, 1) := by decide +kernel
theorem d_CI_keyOf_71 : decode b_CI_keyOf 71 = .ok (.iaload, 1) := by decide +kernel
theorem d_CI_keyOf_72 : decode b_CI_keyOf 72 = .ok (.istore 4, 2) := by decide +kernel
theorem d_CI_keyOf_74 : decode b_CI_keyOf 74 = .ok (.iinc 6 (-1), 3) := by decide +kernel
theorem d_CI_keyOf_77 : decode b_CI_keyOf 77 = .ok (.goto (-60), 3) := by decide +kernel
theorem d_CI_keyOf_80 : decode b_CI_keyOf 80 = .ok (.iload 5, 2) := by decide +kernel
theorem d_CI_keyOf_82 : decode b_CI_keyOf 82 = .ok (.ireturn, 1) := by decide +kernel
theorem d_CI_cellOf_0 : decode b_CI_cellOf 0 = .ok (.iload_n 1, 1) := by decide +kernel
theorem d_CI_cellOf_1 : decode b_CI_cellOf 1 = .ok (.invokestatic 117, 3) := by decide +kernel
theorem d_CI_cellOf_4 : decode b_CI_cellOf 4 = .ok (.istore_n 3, 1) := by decide +kernel
theorem d_CI_cellOf_5 : decode b_CI_cellOf 5 = .ok (.iconst 0, 1) := by decide +kernel
theorem d_CI_cellOf_6 : decode b_CI_cellOf 6 = .ok (.istore 4, 2) := by decide +kernel
theorem d_CI_cellOf_8 : decode b_CI_cellOf 8 = .ok (.iconst 0, 1) := by decide +kernel
theorem d_CI_cellOf_9 : decode b_CI_cellOf 9 = .ok (.istore 5, 2) := by decide +kernel
theorem d_CI_cellOf_11 : decode b_CI_cellOf 11 = .ok (.aload_n 0, 1) := by decide +kernel
theorem d_CI_cellOf_12 : decode b_CI_cellOf 12 = .ok (.getfield 19, 3) := by decide +kernel
theorem d_CI_cellOf_15 : decode b_CI_cellOf 15 = .ok (.iconst 1, 1) := by decide +kernel
theorem d_CI_cellOf_16 : decode b_CI_cellOf 16 = .ok (.isub, 1) := by decide +kernel
theorem d_CI_cellOf_17 : decode b_CI_cellOf 17 = .ok (.istore 6, 2) := by decide +kernel
theorem d_CI_cellOf_19 : decode b_CI_cellOf 19 = .ok (.iload 6, 2) := by decide +kernel
theorem d_CI_cellOf_21 : decode b_CI_cellOf 21 = .ok (.ifCond .lt 64, 3) := by decide +kernel
theorem d_CI_cellOf_24 : decode b_CI_cellOf 24 = .ok (.iload_n 2, 1) := by decide +kernel
theorem d_CI_cellOf_25 : decode b_CI_cellOf 25 = .ok (.iconst 2, 1) := by decide +kernel
theorem d_CI_cellOf_26 : decode b_CI_cellOf 26 = .ok (.iload 6, 2) := by decide +kernel
theorem d_CI_cellOf_28 : decode b_CI_cellOf 28 = .ok (.imul, 1) := by decide +kernel
theorem d_CI_cellOf_29 : decode b_CI_cellOf 29 = .ok (.ishr, 1) := by decide +kernel
theorem d_CI_cellOf_30 : decode b_CI_cellOf 30 = .ok (.iconst 3, 1) := by decide +kernel
theorem d_CI_cellOf_31 : decode b_CI_cellOf 31 = .ok (.iand, 1) := by decide +kernel
theorem d_CI_cellOf_32 : decode b_CI_cellOf 32 = .ok (.istore 7, 2) := by decide +kernel
theorem d_CI_cellOf_34 : decode b_CI_cellOf 34 = .ok (.getstatic 126, 3) := by decide +kernel
theorem d_CI_cellOf_37 : decode b_CI_cellOf 37 = .ok (.iconst 4, 1) := by decide +kernel
theorem d_CI_cellOf_38 : decode b_CI_cellOf 38 = .ok (.iload_n 3, 1) := by decide +kernel
theorem d_CI_cellOf_39 : decode b_CI_cellOf 39 = .ok (.imul, 1) := by decide +kernel
theorem d_CI_cellOf_40 : decode b_CI_cellOf 40 = .ok (.iload 7, 2) := by decide +kernel
theorem d_CI_cellOf_42 : decode b_CI_cellOf 42 = .ok (.iadd, 1) := by decide +kernel
theorem d_CI_cellOf_43 : decode b_CI_cellOf 43 = .ok (.iaload, 1) := by decide +kernel
theorem d_CI_cellOf_44 : decode b_CI_cellOf 44 = .ok (.istore 8, 2) := by decide +kernel
theorem d_CI_cellOf_46 : decode b_CI_cellOf 46 = .ok (.iconst 2, 1) := by decide +kernel
theorem d_CI_cellOf_47 : decode b_CI_cellOf 47 = .ok (.iload 4, 2) := by decide +kernel
theorem d_CI_cellOf_49 : decode b_CI_cellOf 49 = .ok (.imul, 1) := by decide +kernel
theorem d_CI_cellOf_50 : decode b_CI_cellOf 50 = .ok (.iload 8, 2) := by decide +kernel
theorem d_CI_cellOf_52 : decode b_CI_cellOf 52 = .ok (.iconst 1, 1) := by decide +kernel
theorem d_CI_cellOf_53 : decode b_CI_cellOf 53 = .ok (.ishr, 1) := by decide +kernel
theorem d_CI_cellOf_54 : decode b_CI_cellOf 54 = .ok (.iadd, 1) := by decide +kernel
theorem d_CI_cellOf_55 : decode b_CI_cellOf 55 = .ok (.istore 4, 2) := by decide +kernel
theorem d_CI_cellOf_57 : decode b_CI_cellOf 57 = .ok (.iconst 2, 1) := by decide +kernel
theorem d_CI_cellOf_58 : decode b_CI_cellOf 58 = .ok (.iload 5, 2) := by decide +kernel
theorem d_CI_cellOf_60 : decode b_CI_cellOf 60 = .ok (.imul, 1) := by decide +kernel
theorem d_CI_cellOf_61 : decode b_CI_cellOf 61 = .ok (.iload 8, 2) := by decide +kernel
theorem d_CI_cellOf_63 : decode b_CI_cellOf 63 = .ok (.iconst 1, 1) := by decide +kernel
theorem d_CI_cellOf_64 : decode b_CI_cellOf 64 = .ok (.iand, 1) := by decide +kernel
theorem d_CI_cellOf_65 : decode b_CI_cellOf 65 = .ok (.iadd, 1) := by decide +kernel
theorem d_CI_cellOf_66 : decode b_CI_cellOf 66 = .ok (.istore 5, 2) := by decide +kernel
theorem d_CI_cellOf_68 : decode b_CI_cellOf 68 = .ok (.getstatic 123, 3) := by decide +kernel
theorem d_CI_cellOf_71 : decode b_CI_cellOf 71 = .ok (.iconst 4, 1) := by decide +kernel
theorem d_CI_cellOf_72 : decode b_CI_cellOf 72 = .ok (.iload_n 3, 1) := by decide +kernel
theorem d_CI_cellOf_73 : decode b_CI_cellOf 73 = .ok (.imul, 1) := by decide +kernel
theorem d_CI_cellOf_74 : decode b_CI_cellOf 74 = .ok (.iload 7, 2) := by decide +kernel
theorem d_CI_cellOf_76 : decode b_CI_cellOf 76 = .ok (.iadd, 1) := by decide +kernel
theorem d_CI_cellOf_77 : decode b_CI_cellOf 77 = .ok (.iaload, 1) := by decide +kernel
theorem d_CI_cellOf_78 : decode b_CI_cellOf 78 = .ok (.istore_n 3, 1) := by decide +kernel
theorem d_CI_cellOf_79 : decode b_CI_cellOf 79 = .ok (.iinc 6 (-1), 3) := by decide +kernel
theorem d_CI_cellOf_82 : decode b_CI_cellOf 82 = .ok (.goto (-63), 3) := by decide +kernel
theorem d_CI_cellOf_85 : decode b_CI_cellOf 85 = .ok (.aload_n 0, 1) := by decide +kernel
theorem d_CI_cellOf_86 : decode b_CI_cellOf 86 = .ok (.iload 4, 2) := by decide +kernel
theorem d_CI_cellOf_88 : decode b_CI_cellOf 88 = .ok (.iload 5, 2) := by decide +kernel
theorem d_CI_cellOf_90 : decode b_CI_cellOf 90 = .ok (.invokevirtual 62, 3) := by decide +kernel
theorem d_CI_cellOf_93 : decode b_CI_cellOf 93 = .ok (.ireturn, 1) := by decide +kernel
theorem d_CI_hasRuns_0 : decode b_CI_hasRuns 0 = .ok (.iload_n 1, 1) := by decide +kernel
theorem d_CI_hasRuns_1 : decode b_CI_hasRuns 1 = .ok (.invokestatic 35, 3) := by decide +kernel
theorem d_CI_hasRuns_4 : decode b_CI_hasRuns 4 = .ok (.ifCond .eq 20, 3) := by decide +kernel
theorem d_CI_hasRuns_7 : decode b_CI_hasRuns 7 = .ok (.aload_n 0, 1) := by decide +kernel
theorem d_CI_hasRuns_8 : decode b_CI_hasRuns 8 = .ok (.getfield 28, 3) := by decide +kernel
theorem d_CI_hasRuns_11 : decode b_CI_hasRuns 11 = .ok (.invokevirtual 129, 3) := by decide +kernel
theorem d_CI_hasRuns_14 : decode b_CI_hasRuns 14 = .ok (.sipush 4096, 3) := by decide +kernel
theorem d_CI_hasRuns_17 : decode b_CI_hasRuns 17 = .ok (.if_icmp .gt 7, 3) := by decide +kernel
theorem d_CI_hasRuns_20 : decode b_CI_hasRuns 20 = .ok (.iconst 1, 1) := by decide +kernel
theorem d_CI_hasRuns_21 : decode b_CI_hasRuns 21 = .ok (.goto 4, 3) := by decide +kernel
theorem d_CI_hasRuns_24 : decode b_CI_hasRuns 24 = .ok (.iconst 0, 1) := by decide +kernel
theorem d_CI_hasRuns_25 : decode b_CI_hasRuns 25 = .ok (.ireturn, 1) := by decide +kernel
theorem d_CI_walkRuns_0 : decode b_CI_walkRuns 0 = .ok (.new 94, 3) := by decide +kernel
theorem d_CI_walkRuns_3 : decode b_CI_walkRuns 3 = .ok (.dup, 1) := by decide +kernel
theorem d_CI_walkRuns_4 : decode b_CI_walkRuns 4 = .ok (.aload_n 0, 1) := by decide +kernel
theorem d_CI_walkRuns_5 : decode b_CI_walkRuns 5 = .ok (.getfield 28, 3) := by decide +kernel
theorem d_CI_walkRuns_8 : decode b_CI_walkRuns 8 = .ok (.iload_n 2, 1) := by decide +kernel
theorem d_CI_walkRuns_9 : decode b_CI_walkRuns 9 = .ok (.invokespecial 133, 3) := by decide +kernel
theorem d_CI_walkRuns_12 : decode b_CI_walkRuns 12 = .ok (.astore_n 3, 1) := by decide +kernel
theorem d_CI_walkRuns_13 : decode b_CI_walkRuns 13 = .ok (.aload_n 3, 1) := by decide +kernel
theorem d_CI_walkRuns_14 : decode b_CI_walkRuns 14 = .ok (.aload_n 0, 1) := by decide +kernel
theorem d_CI_walkRuns_15 : decode b_CI_walkRuns 15 = .ok (.getfield 19, 3) := by decide +kernel
theorem d_CI_walkRuns_18 : decode b_CI_walkRuns 18 = .ok (.iload_n 1, 1) := by decide +kernel
theorem d_CI_walkRuns_19 : decode b_CI_walkRuns 19 = .ok (.invokestatic 117, 3) := by decide +kernel
theorem d_CI_walkRuns_22 : decode b_CI_walkRuns 22 = .ok (.iconst 0, 1) := by decide +kernel
theorem d_CI_walkRuns_23 : decode b_CI_walkRuns 23 = .ok (.iconst 0, 1) := by decide +kernel
theorem d_CI_walkRuns_24 : decode b_CI_walkRuns 24 = .ok (.iconst 0, 1) := by decide +kernel
theorem d_CI_walkRuns_25 : decode b_CI_walkRuns 25 = .ok (.invokestatic 136, 3) := by decide +kernel
theorem d_CI_walkRuns_28 : decode b_CI_walkRuns 28 = .ok (.aload_n 3, 1) := by decide +kernel
theorem d_CI_walkRuns_29 : decode b_CI_walkRuns 29 = .ok (.areturn, 1) := by decide +kernel
theorem d_Mo_init_0 : decode b_Mo_init 0 = .ok (.aload_n 0, 1) := by decide +kernel
theorem d_Mo_init_1 : decode b_Mo_init 1 = .ok (.invokespecial 1, 3) := by decide +kernel
theorem d_Mo_init_4 : decode b_Mo_init 4 = .ok (.aload_n 0, 1) := by decide +kernel
theorem d_Mo_init_5 : decode b_Mo_init 5 = .ok (.iconst 1, 1) := by decide +kernel
theorem d_Mo_init_6 : decode b_Mo_init 6 = .ok (.putfield 7, 3) := by decide +kernel
theorem d_Mo_init_9 : decode b_Mo_init 9 = .ok (.aload_n 0, 1) := by decide +kernel
theorem d_Mo_init_10 : decode b_Mo_init 10 = .ok (.sipush 500, 3) := by decide +kernel
theorem d_Mo_init_13 : decode b_Mo_init 13 = .ok (.newarray .int, 2) := by decide +kernel
theorem d_Mo_init_15 : decode b_Mo_init 15 = .ok (.putfield 13, 3) := by decide +kernel
theorem d_Mo_init_18 : decode b_Mo_init 18 = .ok (.aload_n 0, 1) := by decide +kernel
theorem d_Mo_init_19 : decode b_Mo_init 19 = .ok (.sipush 500, 3) := by decide +kernel
theorem d_Mo_init_22 : decode b_Mo_init 22 = .ok (.newarray .int, 2) := by decide +kernel
theorem d_Mo_init_24 : decode b_Mo_init 24 = .ok (.putfield 17, 3) := by decide +kernel
theorem d_Mo_init_27 : decode b_Mo_init 27 = .ok (.aload_n 0, 1) := by decide +kernel
theorem d_Mo_init_28 : decode b_Mo_init 28 = .ok (.sipush 4096, 3) := by decide +kernel
theorem d_Mo_init_31 : decode b_Mo_init 31 = .ok (.newarray .int, 2) := by decide +kernel
theorem d_Mo_init_33 : decode b_Mo_init 33 = .ok (.putfield 20, 3) := by decide +kernel
theorem d_Mo_init_36 : decode b_Mo_init 36 = .ok (.aload_n 0, 1) := by decide +kernel
theorem d_Mo_init_37 : decode b_Mo_init 37 = .ok (.sipush 4096, 3) := by decide +kernel
theorem d_Mo_init_40 : decode b_Mo_init 40 = .ok (.newarray .int, 2) := by decide +kernel
theorem d_Mo_init_42 : decode b_Mo_init 42 = .ok (.putfield 23, 3) := by decide +kernel
theorem d_Mo_init_45 : decode b_Mo_init 45 = .ok (.return_, 1) := by decide +kernel
theorem d_Mo_side_0 : decode b_Mo_side 0 = .ok (.iconst 1, 1) := by decide +kernel
theorem d_Mo_side_1 : decode b_Mo_side 1 = .ok (.aload_n 0, 1) := by decide +kernel
theorem d_Mo_side_2 : decode b_Mo_side 2 = .ok (.getfield 7, 3) := by decide +kernel
theorem d_Mo_side_5 : decode b_Mo_side 5 = .ok (.ishl, 1) := by decide +kernel
theorem d_Mo_side_6 : decode b_Mo_side 6 = .ok (.ireturn, 1) := by decide +kernel
theorem d_Mo_isCell_0 : decode b_Mo_isCell 0 = .ok (.iload_n 1, 1) := by decide +kernel
theorem d_Mo_isCell_1 : decode b_Mo_isCell 1 = .ok (.ifCond .lt 27, 3) := by decide +kernel
theorem d_Mo_isCell_4 : decode b_Mo_isCell 4 = .ok (.iload_n 2, 1) := by decide +kernel
theorem d_Mo_isCell_5 : decode b_Mo_isCell 5 = .ok (.ifCond .lt 23, 3) := by decide +kernel
theorem d_Mo_isCell_8 : decode b_Mo_isCell 8 = .ok (.iload_n 1, 1) := by decide +kernel
theorem d_Mo_isCell_9 : decode b_Mo_isCell 9 = .ok (.aload_n 0, 1) := by decide +kernel
theorem d_Mo_isCell_10 : decode b_Mo_isCell 10 = .ok (.invokevirtual 26, 3) := by decide +kernel
theorem d_Mo_isCell_13 : decode b_Mo_isCell 13 = .ok (.if_icmp .ge 15, 3) := by decide +kernel
theorem d_Mo_isCell_16 : decode b_Mo_isCell 16 = .ok (.iload_n 2, 1) := by decide +kernel
theorem d_Mo_isCell_17 : decode b_Mo_isCell 17 = .ok (.aload_n 0, 1) := by decide +kernel
theorem d_Mo_isCell_18 : decode b_Mo_isCell 18 = .ok (.invokevirtual 26, 3) := by decide +kernel
theorem d_Mo_isCell_21 : decode b_Mo_isCell 21 = .ok (.if_icmp .ge 7, 3) := by decide +kernel
theorem d_Mo_isCell_24 : decode b_Mo_isCell 24 = .ok (.iconst 1, 1) := by decide +kernel
theorem d_Mo_isCell_25 : decode b_Mo_isCell 25 = .ok (.goto 4, 3) := by decide +kernel
theorem d_Mo_isCell_28 : decode b_Mo_isCell 28 = .ok (.iconst 0, 1) := by decide +kernel
theorem d_Mo_isCell_29 : decode b_Mo_isCell 29 = .ok (.ireturn, 1) := by decide +kernel
theorem d_Mo_begin_0 : decode b_Mo_begin 0 = .ok (.iload_n 1, 1) := by decide +kernel
theorem d_Mo_begin_1 : decode b_Mo_begin 1 = .ok (.iconst 1, 1) := by decide +kernel
theorem d_Mo_begin_2 : decode b_Mo_begin 2 = .ok (.if_icmp .lt 9, 3) := by decide +kernel
theorem d_Mo_begin_5 : decode b_Mo_begin 5 = .ok (.iload_n 1, 1) := by decide +kernel
theorem d_Mo_begin_6 : decode b_Mo_begin 6 = .ok (.bipush 15, 2) := by decide +kernel
theorem d_Mo_begin_8 : decode b_Mo_begin 8 = .ok (.if_icmp .le 5, 3) := by decide +kernel
theorem d_Mo_begin_11 : decode b_Mo_begin 11 = .ok (.iconst 0, 1) := by decide +kernel
theorem d_Mo_begin_12 : decode b_Mo_begin 12 = .ok (.ireturn, 1) := by decide +kernel
theorem d_Mo_begin_13 : decode b_Mo_begin 13 = .ok (.aload_n 0, 1) := by decide +kernel
theorem d_Mo_begin_14 : decode b_Mo_begin 14 = .ok (.iload_n 1, 1) := by decide +kernel
theorem d_Mo_begin_15 : decode b_Mo_begin 15 = .ok (.putfield 7, 3) := by decide +kernel
theorem d_Mo_begin_18 : decode b_Mo_begin 18 = .ok (.aload_n 0, 1) := by decide +kernel
theorem d_Mo_begin_19 : decode b_Mo_begin 19 = .ok (.iconst 0, 1) := by decide +kernel
theorem d_Mo_begin_20 : decode b_Mo_begin 20 = .ok (.putfield 30, 3) := by decide +kernel
theorem d_Mo_begin_23 : decode b_Mo_begin 23 = .ok (.aload_n 0, 1) := by decide +kernel
theorem d_Mo_begin_24 : decode b_Mo_begin 24 = .ok (.iconst 0, 1) := by decide +kernel
theorem d_Mo_begin_25 : decode b_Mo_begin 25 = .ok (.putfield 33, 3) := by decide +kernel
theorem d_Mo_begin_28 : decode b_Mo_begin 28 = .ok (.aload_n 0, 1) := by decide +kernel
theorem d_Mo_begin_29 : decode b_Mo_begin 29 = .ok (.iconst 0, 1) := by decide +kernel
theorem d_Mo_begin_30 : decode b_Mo_begin 30 = .ok (.putfield 36, 3) := by decide +kernel
theorem d_Mo_begin_33 : decode b_Mo_begin 33 = .ok (.aload_n 0, 1) := by decide +kernel
theorem d_Mo_begin_34 : decode b_Mo_begin 34 = .ok (.iconst 0, 1) := by decide +kernel
theorem d_Mo_begin_35 : decode b_Mo_begin 35 = .ok (.putfield 39, 3) := by decide +kernel
theorem d_Mo_begin_38 : decode b_Mo_begin 38 = .ok (.aload_n 0, 1) := by decide +kernel
theorem d_Mo_begin_39 : decode b_Mo_begin 39 = .ok (.iconst 0, 1) := by decide +kernel
theorem d_Mo_begin_40 : decode b_Mo_begin 40 = .ok (.putfield 42, 3) := by decide +kernel
theorem d_Mo_begin_43 : decode b_Mo_begin 43 = .ok (.iconst 1, 1) := by decide +kernel
theorem d_Mo_begin_44 : decode b_Mo_begin 44 = .ok (.ireturn, 1) := by decide +kernel
