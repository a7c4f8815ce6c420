theorem dX0_init_0 : decode cX0_init 0 = .ok (.aload_n 0, 1) := by decide +kernel
theorem dX0_init_1 : decode cX0_init 1 = .ok (.invokespecial 5, 3) := by decide +kernel
theorem dX0_init_4 : decode cX0_init 4 = .ok (.aload_n 0, 1) := by decide +kernel
theorem dX0_init_5 : decode cX0_init 5 = .ok (.new 11, 3) := by decide +kernel
theorem dX0_init_8 : decode cX0_init 8 = .ok (.dup, 1) := by decide +kernel
theorem dX0_init_9 : decode cX0_init 9 = .ok (.invokespecial 13, 3) := by decide +kernel
theorem dX0_init_12 : decode cX0_init 12 = .ok (.putfield 14, 3) := by decide +kernel
theorem dX0_init_15 : decode cX0_init 15 = .ok (.aload_n 0, 1) := by decide +kernel
theorem dX0_init_16 : decode cX0_init 16 = .ok (.new 18, 3) := by decide +kernel
theorem dX0_init_19 : decode cX0_init 19 = .ok (.dup, 1) := by decide +kernel
theorem dX0_init_20 : decode cX0_init 20 = .ok (.invokespecial 20, 3) := by decide +kernel
theorem dX0_init_23 : decode cX0_init 23 = .ok (.putfield 21, 3) := by decide +kernel
theorem dX0_init_26 : decode cX0_init 26 = .ok (.aload_n 0, 1) := by decide +kernel
theorem dX0_init_27 : decode cX0_init 27 = .ok (.new 25, 3) := by decide +kernel
theorem dX0_init_30 : decode cX0_init 30 = .ok (.dup, 1) := by decide +kernel
theorem dX0_init_31 : decode cX0_init 31 = .ok (.ldc 27, 2) := by decide +kernel
theorem dX0_init_33 : decode cX0_init 33 = .ok (.invokespecial 28, 3) := by decide +kernel
theorem dX0_init_36 : decode cX0_init 36 = .ok (.putfield 31, 3) := by decide +kernel
theorem dX0_init_39 : decode cX0_init 39 = .ok (.return_, 1) := by decide +kernel
theorem dX0_restart_0 : decode cX0_restart 0 = .ok (.aload_n 0, 1) := by decide +kernel
theorem dX0_restart_1 : decode cX0_restart 1 = .ok (.iconst 0, 1) := by decide +kernel
theorem dX0_restart_2 : decode cX0_restart 2 = .ok (.putfield 35, 3) := by decide +kernel
theorem dX0_restart_5 : decode cX0_restart 5 = .ok (.aload_n 0, 1) := by decide +kernel
theorem dX0_restart_6 : decode cX0_restart 6 = .ok (.getfield 14, 3) := by decide +kernel
theorem dX0_restart_9 : decode cX0_restart 9 = .ok (.invokevirtual 39, 3) := by decide +kernel
theorem dX0_restart_12 : decode cX0_restart 12 = .ok (.aload_n 0, 1) := by decide +kernel
theorem dX0_restart_13 : decode cX0_restart 13 = .ok (.getfield 21, 3) := by decide +kernel
theorem dX0_restart_16 : decode cX0_restart 16 = .ok (.invokevirtual 42, 3) := by decide +kernel
theorem dX0_restart_19 : decode cX0_restart 19 = .ok (.return_, 1) := by decide +kernel
theorem dX0_asks_0 : decode cX0_asks 0 = .ok (.aload_n 0, 1) := by decide +kernel
theorem dX0_asks_1 : decode cX0_asks 1 = .ok (.getfield 14, 3) := by decide +kernel
theorem dX0_asks_4 : decode cX0_asks 4 = .ok (.invokevirtual 43, 3) := by decide +kernel
theorem dX0_asks_7 : decode cX0_asks 7 = .ok (.ifCond .ne 13, 3) := by decide +kernel
theorem dX0_asks_10 : decode cX0_asks 10 = .ok (.aload_n 0, 1) := by decide +kernel
theorem dX0_asks_11 : decode cX0_asks 11 = .ok (.getfield 21, 3) := by decide +kernel
theorem dX0_asks_14 : decode cX0_asks 14 = .ok (.invokevirtual 47, 3) := by decide +kernel
theorem dX0_asks_17 : decode cX0_asks 17 = .ok (.ifCond .eq 7, 3) := by decide +kernel
theorem dX0_asks_20 : decode cX0_asks 20 = .ok (.iconst 1, 1) := by decide +kernel
theorem dX0_asks_21 : decode cX0_asks 21 = .ok (.goto 4, 3) := by decide +kernel
theorem dX0_asks_24 : decode cX0_asks 24 = .ok (.iconst 0, 1) := by decide +kernel
theorem dX0_asks_25 : decode cX0_asks 25 = .ok (.ireturn, 1) := by decide +kernel
theorem dX0_read_0 : decode cX0_read 0 = .ok (.iload_n 1, 1) := by decide +kernel
theorem dX0_read_1 : decode cX0_read 1 = .ok (.invokestatic 48, 3) := by decide +kernel
theorem dX0_read_4 : decode cX0_read 4 = .ok (.ifCond .ne 16, 3) := by decide +kernel
theorem dX0_read_7 : decode cX0_read 7 = .ok (.aload_n 0, 1) := by decide +kernel
theorem dX0_read_8 : decode cX0_read 8 = .ok (.getfield 31, 3) := by decide +kernel
theorem dX0_read_11 : decode cX0_read 11 = .ok (.aload_n 0, 1) := by decide +kernel
theorem dX0_read_12 : decode cX0_read 12 = .ok (.iload_n 1, 1) := by decide +kernel
theorem dX0_read_13 : decode cX0_read 13 = .ok (.invokevirtual 52, 3) := by decide +kernel
theorem dX0_read_16 : decode cX0_read 16 = .ok (.invokevirtual 56, 3) := by decide +kernel
theorem dX0_read_19 : decode cX0_read 19 = .ok (.ireturn, 1) := by decide +kernel
theorem dX0_read_20 : decode cX0_read 20 = .ok (.aload_n 0, 1) := by decide +kernel
theorem dX0_read_21 : decode cX0_read 21 = .ok (.iload_n 1, 1) := by decide +kernel
theorem dX0_read_22 : decode cX0_read 22 = .ok (.invokevirtual 59, 3) := by decide +kernel
theorem dX0_read_25 : decode cX0_read 25 = .ok (.istore_n 2, 1) := by decide +kernel
theorem dX0_read_26 : decode cX0_read 26 = .ok (.aload_n 0, 1) := by decide +kernel
theorem dX0_read_27 : decode cX0_read 27 = .ok (.iload_n 1, 1) := by decide +kernel
theorem dX0_read_28 : decode cX0_read 28 = .ok (.invokevirtual 62, 3) := by decide +kernel
theorem dX0_read_31 : decode cX0_read 31 = .ok (.iload_n 2, 1) := by decide +kernel
theorem dX0_read_32 : decode cX0_read 32 = .ok (.ireturn, 1) := by decide +kernel
theorem dX0_peek_0 : decode cX0_peek 0 = .ok (.iload_n 1, 1) := by decide +kernel
theorem dX0_peek_1 : decode cX0_peek 1 = .ok (.invokestatic 48, 3) := by decide +kernel
theorem dX0_peek_4 : decode cX0_peek 4 = .ok (.ifCond .eq 11, 3) := by decide +kernel
theorem dX0_peek_7 : decode cX0_peek 7 = .ok (.aload_n 0, 1) := by decide +kernel
theorem dX0_peek_8 : decode cX0_peek 8 = .ok (.iload_n 1, 1) := by decide +kernel
theorem dX0_peek_9 : decode cX0_peek 9 = .ok (.invokevirtual 59, 3) := by decide +kernel
theorem dX0_peek_12 : decode cX0_peek 12 = .ok (.goto 15, 3) := by decide +kernel
theorem dX0_peek_15 : decode cX0_peek 15 = .ok (.aload_n 0, 1) := by decide +kernel
theorem dX0_peek_16 : decode cX0_peek 16 = .ok (.getfield 31, 3) := by decide +kernel
theorem dX0_peek_19 : decode cX0_peek 19 = .ok (.aload_n 0, 1) := by decide +kernel
theorem dX0_peek_20 : decode cX0_peek 20 = .ok (.iload_n 1, 1) := by decide +kernel
theorem dX0_peek_21 : decode cX0_peek 21 = .ok (.invokevirtual 52, 3) := by decide +kernel
theorem dX0_peek_24 : decode cX0_peek 24 = .ok (.invokevirtual 56, 3) := by decide +kernel
theorem dX0_peek_27 : decode cX0_peek 27 = .ok (.ireturn, 1) := by decide +kernel
theorem dX0_write_0 : decode cX0_write 0 = .ok (.iload_n 1, 1) := by decide +kernel
theorem dX0_write_1 : decode cX0_write 1 = .ok (.ldc 65, 2) := by decide +kernel
theorem dX0_write_3 : decode cX0_write 3 = .ok (.if_icmp .ge 19, 3) := by decide +kernel
theorem dX0_write_6 : decode cX0_write 6 = .ok (.aload_n 0, 1) := by decide +kernel
theorem dX0_write_7 : decode cX0_write 7 = .ok (.getfield 31, 3) := by decide +kernel
theorem dX0_write_10 : decode cX0_write 10 = .ok (.aload_n 0, 1) := by decide +kernel
theorem dX0_write_11 : decode cX0_write 11 = .ok (.iload_n 1, 1) := by decide +kernel
theorem dX0_write_12 : decode cX0_write 12 = .ok (.invokevirtual 52, 3) := by decide +kernel
theorem dX0_write_15 : decode cX0_write 15 = .ok (.iload_n 2, 1) := by decide +kernel
theorem dX0_write_16 : decode cX0_write 16 = .ok (.invokevirtual 66, 3) := by decide +kernel
theorem dX0_write_19 : decode cX0_write 19 = .ok (.goto 58, 3) := by decide +kernel
theorem dX0_write_22 : decode cX0_write 22 = .ok (.iload_n 1, 1) := by decide +kernel
theorem dX0_write_23 : decode cX0_write 23 = .ok (.ldc 70, 2) := by decide +kernel
theorem dX0_write_25 : decode cX0_write 25 = .ok (.if_icmp .ge 18, 3) := by decide +kernel
theorem dX0_write_28 : decode cX0_write 28 = .ok (.aload_n 0, 1) := by decide +kernel
theorem dX0_write_29 : decode cX0_write 29 = .ok (.getfield 14, 3) := by decide +kernel
theorem dX0_write_32 : decode cX0_write 32 = .ok (.iload_n 1, 1) := by decide +kernel
theorem dX0_write_33 : decode cX0_write 33 = .ok (.ldc 65, 2) := by decide +kernel
theorem dX0_write_35 : decode cX0_write 35 = .ok (.isub, 1) := by decide +kernel
theorem dX0_write_36 : decode cX0_write 36 = .ok (.iload_n 2, 1) := by decide +kernel
theorem dX0_write_37 : decode cX0_write 37 = .ok (.invokevirtual 71, 3) := by decide +kernel
theorem dX0_write_40 : decode cX0_write 40 = .ok (.goto 37, 3) := by decide +kernel
theorem dX0_write_43 : decode cX0_write 43 = .ok (.iload_n 1, 1) := by decide +kernel
theorem dX0_write_44 : decode cX0_write 44 = .ok (.ldc 74, 2) := by decide +kernel
theorem dX0_write_46 : decode cX0_write 46 = .ok (.if_icmp .ge 18, 3) := by decide +kernel
theorem dX0_write_49 : decode cX0_write 49 = .ok (.aload_n 0, 1) := by decide +kernel
theorem dX0_write_50 : decode cX0_write 50 = .ok (.getfield 21, 3) := by decide +kernel
theorem dX0_write_53 : decode cX0_write 53 = .ok (.iload_n 1, 1) := by decide +kernel
theorem dX0_write_54 : decode cX0_write 54 = .ok (.ldc 70, 2) := by decide +kernel
theorem dX0_write_56 : decode cX0_write 56 = .ok (.isub, 1) := by decide +kernel
theorem dX0_write_57 : decode cX0_write 57 = .ok (.iload_n 2, 1) := by decide +kernel
theorem dX0_write_58 : decode cX0_write 58 = .ok (.invokevirtual 75, 3) := by decide +kernel
theorem dX0_write_61 : decode cX0_write 61 = .ok (.goto 16, 3) := by decide +kernel
theorem dX0_write_64 : decode cX0_write 64 = .ok (.iload_n 1, 1) := by decide +kernel
theorem dX0_write_65 : decode cX0_write 65 = .ok (.ldc 76, 2) := by decide +kernel
theorem dX0_write_67 : decode cX0_write 67 = .ok (.if_icmp .ne 10, 3) := by decide +kernel
theorem dX0_write_70 : decode cX0_write 70 = .ok (.aload_n 0, 1) := by decide +kernel
theorem dX0_write_71 : decode cX0_write 71 = .ok (.iload_n 2, 1) := by decide +kernel
theorem dX0_write_72 : decode cX0_write 72 = .ok (.iconst 3, 1) := by decide +kernel
theorem dX0_write_73 : decode cX0_write 73 = .ok (.iand, 1) := by decide +kernel
theorem dX0_write_74 : decode cX0_write 74 = .ok (.putfield 35, 3) := by decide +kernel
theorem dX0_write_77 : decode cX0_write 77 = .ok (.return_, 1) := by decide +kernel
theorem dX0_place_0 : decode cX0_place 0 = .ok (.iload_n 1, 1) := by decide +kernel
theorem dX0_place_1 : decode cX0_place 1 = .ok (.invokestatic 48, 3) := by decide +kernel
theorem dX0_place_4 : decode cX0_place 4 = .ok (.ifCond .ne 16, 3) := by decide +kernel
theorem dX0_place_7 : decode cX0_place 7 = .ok (.aload_n 0, 1) := by decide +kernel
theorem dX0_place_8 : decode cX0_place 8 = .ok (.getfield 31, 3) := by decide +kernel
theorem dX0_place_11 : decode cX0_place 11 = .ok (.aload_n 0, 1) := by decide +kernel
theorem dX0_place_12 : decode cX0_place 12 = .ok (.iload_n 1, 1) := by decide +kernel
theorem dX0_place_13 : decode cX0_place 13 = .ok (.invokevirtual 52, 3) := by decide +kernel
theorem dX0_place_16 : decode cX0_place 16 = .ok (.iload_n 2, 1) := by decide +kernel
theorem dX0_place_17 : decode cX0_place 17 = .ok (.invokevirtual 66, 3) := by decide +kernel
theorem dX0_place_20 : decode cX0_place 20 = .ok (.return_, 1) := by decide +kernel
theorem dX0_peekDevice_0 : decode cX0_peekDevice 0 = .ok (.iload_n 1, 1) := by decide +kernel
theorem dX0_peekDevice_1 : decode cX0_peekDevice 1 = .ok (.ldc 70, 2) := by decide +kernel
theorem dX0_peekDevice_3 : decode cX0_peekDevice 3 = .ok (.if_icmp .ge 15, 3) := by decide +kernel
theorem dX0_peekDevice_6 : decode cX0_peekDevice 6 = .ok (.aload_n 0, 1) := by decide +kernel
theorem dX0_peekDevice_7 : decode cX0_peekDevice 7 = .ok (.getfield 14, 3) := by decide +kernel
theorem dX0_peekDevice_10 : decode cX0_peekDevice 10 = .ok (.iload_n 1, 1) := by decide +kernel
theorem dX0_peekDevice_11 : decode cX0_peekDevice 11 = .ok (.ldc 65, 2) := by decide +kernel
theorem dX0_peekDevice_13 : decode cX0_peekDevice 13 = .ok (.isub, 1) := by decide +kernel
theorem dX0_peekDevice_14 : decode cX0_peekDevice 14 = .ok (.invokevirtual 77, 3) := by decide +kernel
theorem dX0_peekDevice_17 : decode cX0_peekDevice 17 = .ok (.ireturn, 1) := by decide +kernel
theorem dX0_peekDevice_18 : decode cX0_peekDevice 18 = .ok (.iload_n 1, 1) := by decide +kernel
theorem dX0_peekDevice_19 : decode cX0_peekDevice 19 = .ok (.ldc 74, 2) := by decide +kernel
theorem dX0_peekDevice_21 : decode cX0_peekDevice 21 = .ok (.if_icmp .ge 15, 3) := by decide +kernel
theorem dX0_peekDevice_24 : decode cX0_peekDevice 24 = .ok (.aload_n 0, 1) := by decide +kernel
theorem dX0_peekDevice_25 : decode cX0_peekDevice 25 = .ok (.getfield 21, 3) := by decide +kernel
theorem dX0_peekDevice_28 : decode cX0_peekDevice 28 = .ok (.iload_n 1, 1) := by decide +kernel
theorem dX0_peekDevice_29 : decode cX0_peekDevice 29 = .ok (.ldc 70, 2) := by decide +kernel
theorem dX0_peekDevice_31 : decode cX0_peekDevice 31 = .ok (.isub, 1) := by decide +kernel
theorem dX0_peekDevice_32 : decode cX0_peekDevice 32 = .ok (.invokevirtual 80, 3) := by decide +kernel
theorem dX0_peekDevice_35 : decode cX0_peekDevice 35 = .ok (.ireturn, 1) := by decide +kernel
theorem dX0_peekDevice_36 : decode cX0_peekDevice 36 = .ok (.iload_n 1, 1) := by decide +kernel
theorem dX0_peekDevice_37 : decode cX0_peekDevice 37 = .ok (.ldc 76, 2) := by decide +kernel
theorem dX0_peekDevice_39 : decode cX0_peekDevice 39 = .ok (.if_icmp .ne 10, 3) := by decide +kernel
theorem dX0_peekDevice_42 : decode cX0_peekDevice 42 = .ok (.aload_n 0, 1) := by decide +kernel
theorem dX0_peekDevice_43 : decode cX0_peekDevice 43 = .ok (.getfield 35, 3) := by decide +kernel
theorem dX0_peekDevice_46 : decode cX0_peekDevice 46 = .ok (.goto 4, 3) := by decide +kernel
theorem dX0_peekDevice_49 : decode cX0_peekDevice 49 = .ok (.iconst 0, 1) := by decide +kernel
theorem dX0_peekDevice_50 : decode cX0_peekDevice 50 = .ok (.ireturn, 1) := by decide +kernel
theorem dX0_afterReading_0 : decode cX0_afterReading 0 = .ok (.iload_n 1, 1) := by decide +kernel
theorem dX0_afterReading_1 : decode cX0_afterReading 1 = .ok (.ldc 70, 2) := by decide +kernel
theorem dX0_afterReading_3 : decode cX0_afterReading 3 = .ok (.if_icmp .ge 17, 3) := by decide +kernel
theorem dX0_afterReading_6 : decode cX0_afterReading 6 = .ok (.aload_n 0, 1) := by decide +kernel
theorem dX0_afterReading_7 : decode cX0_afterReading 7 = .ok (.getfield 14, 3) := by decide +kernel
theorem dX0_afterReading_10 : decode cX0_afterReading 10 = .ok (.iload_n 1, 1) := by decide +kernel
theorem dX0_afterReading_11 : decode cX0_afterReading 11 = .ok (.ldc 65, 2) := by decide +kernel
theorem dX0_afterReading_13 : decode cX0_afterReading 13 = .ok (.isub, 1) := by decide +kernel
theorem dX0_afterReading_14 : decode cX0_afterReading 14 = .ok (.invokevirtual 81, 3) := by decide +kernel
theorem dX0_afterReading_17 : decode cX0_afterReading 17 = .ok (.goto 20, 3) := by decide +kernel
theorem dX0_afterReading_20 : decode cX0_afterReading 20 = .ok (.iload_n 1, 1) := by decide +kernel
theorem dX0_afterReading_21 : decode cX0_afterReading 21 = .ok (.ldc 74, 2) := by decide +kernel
theorem dX0_afterReading_23 : decode cX0_afterReading 23 = .ok (.if_icmp .ge 14, 3) := by decide +kernel
theorem dX0_afterReading_26 : decode cX0_afterReading 26 = .ok (.aload_n 0, 1) := by decide +kernel
theorem dX0_afterReading_27 : decode cX0_afterReading 27 = .ok (.getfield 21, 3) := by decide +kernel
theorem dX0_afterReading_30 : decode cX0_afterReading 30 = .ok (.iload_n 1, 1) := by decide +kernel
theorem dX0_afterReading_31 : decode cX0_afterReading 31 = .ok (.ldc 70, 2) := by decide +kernel
theorem dX0_afterReading_33 : decode cX0_afterReading 33 = .ok (.isub, 1) := by decide +kernel
theorem dX0_afterReading_34 : decode cX0_afterReading 34 = .ok (.invokevirtual 82, 3) := by decide +kernel
theorem dX0_afterReading_37 : decode cX0_afterReading 37 = .ok (.return_, 1) := by decide +kernel
theorem dX0_cell_0 : decode cX0_cell 0 = .ok (.iload_n 1, 1) := by decide +kernel
theorem dX0_cell_1 : decode cX0_cell 1 = .ok (.ldc 83, 2) := by decide +kernel
theorem dX0_cell_3 : decode cX0_cell 3 = .ok (.if_icmp .ge 5, 3) := by decide +kernel
theorem dX0_cell_6 : decode cX0_cell 6 = .ok (.iload_n 1, 1) := by decide +kernel
theorem dX0_cell_7 : decode cX0_cell 7 = .ok (.ireturn, 1) := by decide +kernel
theorem dX0_cell_8 : decode cX0_cell 8 = .ok (.iload_n 1, 1) := by decide +kernel
theorem dX0_cell_9 : decode cX0_cell 9 = .ok (.ldc 65, 2) := by decide +kernel
theorem dX0_cell_11 : decode cX0_cell 11 = .ok (.if_icmp .ge 16, 3) := by decide +kernel
theorem dX0_cell_14 : decode cX0_cell 14 = .ok (.iload_n 1, 1) := by decide +kernel
theorem dX0_cell_15 : decode cX0_cell 15 = .ok (.aload_n 0, 1) := by decide +kernel
theorem dX0_cell_16 : decode cX0_cell 16 = .ok (.getfield 35, 3) := by decide +kernel
theorem dX0_cell_19 : decode cX0_cell 19 = .ok (.sipush 8192, 3) := by decide +kernel
theorem dX0_cell_22 : decode cX0_cell 22 = .ok (.imul, 1) := by decide +kernel
theorem dX0_cell_23 : decode cX0_cell 23 = .ok (.iadd, 1) := by decide +kernel
theorem dX0_cell_24 : decode cX0_cell 24 = .ok (.goto 10, 3) := by decide +kernel
theorem dX0_cell_27 : decode cX0_cell 27 = .ok (.iload_n 1, 1) := by decide +kernel
theorem dX0_cell_28 : decode cX0_cell 28 = .ok (.ldc 84, 2) := by decide +kernel
theorem dX0_cell_30 : decode cX0_cell 30 = .ok (.isub, 1) := by decide +kernel
theorem dX0_cell_31 : decode cX0_cell 31 = .ok (.ldc 85, 2) := by decide +kernel
theorem dX0_cell_33 : decode cX0_cell 33 = .ok (.iadd, 1) := by decide +kernel
theorem dX0_cell_34 : decode cX0_cell 34 = .ok (.ireturn, 1) := by decide +kernel
theorem dX0_isDevice_0 : decode cX0_isDevice 0 = .ok (.iload_n 0, 1) := by decide +kernel
theorem dX0_isDevice_1 : decode cX0_isDevice 1 = .ok (.ldc 65, 2) := by decide +kernel
theorem dX0_isDevice_3 : decode cX0_isDevice 3 = .ok (.if_icmp .lt 13, 3) := by decide +kernel
theorem dX0_isDevice_6 : decode cX0_isDevice 6 = .ok (.iload_n 0, 1) := by decide +kernel
theorem dX0_isDevice_7 : decode cX0_isDevice 7 = .ok (.ldc 84, 2) := by decide +kernel
theorem dX0_isDevice_9 : decode cX0_isDevice 9 = .ok (.if_icmp .ge 7, 3) := by decide +kernel
theorem dX0_isDevice_12 : decode cX0_isDevice 12 = .ok (.iconst 1, 1) := by decide +kernel
theorem dX0_isDevice_13 : decode cX0_isDevice 13 = .ok (.goto 4, 3) := by decide +kernel
theorem dX0_isDevice_16 : decode cX0_isDevice 16 = .ok (.iconst 0, 1) := by decide +kernel
theorem dX0_isDevice_17 : decode cX0_isDevice 17 = .ok (.ireturn, 1) := by decide +kernel
theorem dX1_init_0 : decode cX1_init 0 = .ok (.aload_n 0, 1) := by decide +kernel
theorem dX1_init_1 : decode cX1_init 1 = .ok (.invokespecial 3, 3) := by decide +kernel
theorem dX1_init_4 : decode cX1_init 4 = .ok (.aload_n 0, 1) := by decide +kernel
theorem dX1_init_5 : decode cX1_init 5 = .ok (.bipush 16, 2) := by decide +kernel
theorem dX1_init_7 : decode cX1_init 7 = .ok (.newarray .int, 2) := by decide +kernel
theorem dX1_init_9 : decode cX1_init 9 = .ok (.putfield 11, 3) := by decide +kernel
theorem dX1_init_12 : decode cX1_init 12 = .ok (.return_, 1) := by decide +kernel
theorem dX1_has_0 : decode cX1_has 0 = .ok (.aload_n 0, 1) := by decide +kernel
theorem dX1_has_1 : decode cX1_has 1 = .ok (.iload_n 1, 1) := by decide +kernel
theorem dX1_has_2 : decode cX1_has 2 = .ok (.invokevirtual 15, 3) := by decide +kernel
theorem dX1_has_5 : decode cX1_has 5 = .ok (.iconst (-1), 1) := by decide +kernel
theorem dX1_has_6 : decode cX1_has 6 = .ok (.if_icmp .eq 7, 3) := by decide +kernel
theorem dX1_has_9 : decode cX1_has 9 = .ok (.iconst 1, 1) := by decide +kernel
theorem dX1_has_10 : decode cX1_has 10 = .ok (.goto 4, 3) := by decide +kernel
theorem dX1_has_13 : decode cX1_has 13 = .ok (.iconst 0, 1) := by decide +kernel
theorem dX1_has_14 : decode cX1_has 14 = .ok (.ireturn, 1) := by decide +kernel
theorem dX1_add_0 : decode cX1_add 0 = .ok (.aload_n 0, 1) := by decide +kernel
theorem dX1_add_1 : decode cX1_add 1 = .ok (.getfield 19, 3) := by decide +kernel
theorem dX1_add_4 : decode cX1_add 4 = .ok (.bipush 16, 2) := by decide +kernel
theorem dX1_add_6 : decode cX1_add 6 = .ok (.if_icmp .eq 11, 3) := by decide +kernel
theorem dX1_add_9 : decode cX1_add 9 = .ok (.aload_n 0, 1) := by decide +kernel
theorem dX1_add_10 : decode cX1_add 10 = .ok (.iload_n 1, 1) := by decide +kernel
theorem dX1_add_11 : decode cX1_add 11 = .ok (.invokevirtual 23, 3) := by decide +kernel
theorem dX1_add_14 : decode cX1_add 14 = .ok (.ifCond .eq 5, 3) := by decide +kernel
theorem dX1_add_17 : decode cX1_add 17 = .ok (.iconst 0, 1) := by decide +kernel
theorem dX1_add_18 : decode cX1_add 18 = .ok (.ireturn, 1) := by decide +kernel
theorem dX1_add_19 : decode cX1_add 19 = .ok (.aload_n 0, 1) := by decide +kernel
theorem dX1_add_20 : decode cX1_add 20 = .ok (.getfield 11, 3) := by decide +kernel
theorem dX1_add_23 : decode cX1_add 23 = .ok (.aload_n 0, 1) := by decide +kernel
theorem dX1_add_24 : decode cX1_add 24 = .ok (.getfield 19, 3) := by decide +kernel
theorem dX1_add_27 : decode cX1_add 27 = .ok (.iload_n 1, 1) := by decide +kernel
theorem dX1_add_28 : decode cX1_add 28 = .ok (.iastore, 1) := by decide +kernel
theorem dX1_add_29 : decode cX1_add 29 = .ok (.aload_n 0, 1) := by decide +kernel
theorem dX1_add_30 : decode cX1_add 30 = .ok (.dup, 1) := by decide +kernel
theorem dX1_add_31 : decode cX1_add 31 = .ok (.getfield 19, 3) := by decide +kernel
theorem dX1_add_34 : decode cX1_add 34 = .ok (.iconst 1, 1) := by decide +kernel
theorem dX1_add_35 : decode cX1_add 35 = .ok (.iadd, 1) := by decide +kernel
theorem dX1_add_36 : decode cX1_add 36 = .ok (.putfield 19, 3) := by decide +kernel
theorem dX1_add_39 : decode cX1_add 39 = .ok (.iconst 1, 1) := by decide +kernel
theorem dX1_add_40 : decode cX1_add 40 = .ok (.ireturn, 1) := by decide +kernel
theorem dX1_remove_0 : decode cX1_remove 0 = .ok (.aload_n 0, 1) := by decide +kernel
theorem dX1_remove_1 : decode cX1_remove 1 = .ok (.iload_n 1, 1) := by decide +kernel
theorem dX1_remove_2 : decode cX1_remove 2 = .ok (.invokevirtual 15, 3) := by decide +kernel
theorem dX1_remove_5 : decode cX1_remove 5 = .ok (.istore_n 2, 1) := by decide +kernel
theorem dX1_remove_6 : decode cX1_remove 6 = .ok (.iload_n 2, 1) := by decide +kernel
theorem dX1_remove_7 : decode cX1_remove 7 = .ok (.iconst (-1), 1) := by decide +kernel
theorem dX1_remove_8 : decode cX1_remove 8 = .ok (.if_icmp .ne 5, 3) := by decide +kernel
theorem dX1_remove_11 : decode cX1_remove 11 = .ok (.iconst 0, 1) := by decide +kernel
theorem dX1_remove_12 : decode cX1_remove 12 = .ok (.ireturn, 1) := by decide +kernel
theorem dX1_remove_13 : decode cX1_remove 13 = .ok (.aload_n 0, 1) := by decide +kernel
theorem dX1_remove_14 : decode cX1_remove 14 = .ok (.dup, 1) := by decide +kernel
theorem dX1_remove_15 : decode cX1_remove 15 = .ok (.getfield 19, 3) := by decide +kernel
theorem dX1_remove_18 : decode cX1_remove 18 = .ok (.iconst 1, 1) := by decide +kernel
theorem dX1_remove_19 : decode cX1_remove 19 = .ok (.isub, 1) := by decide +kernel
theorem dX1_remove_20 : decode cX1_remove 20 = .ok (.putfield 19, 3) := by decide +kernel
theorem dX1_remove_23 : decode cX1_remove 23 = .ok (.aload_n 0, 1) := by decide +kernel
theorem dX1_remove_24 : decode cX1_remove 24 = .ok (.getfield 11, 3) := by decide +kernel
theorem dX1_remove_27 : decode cX1_remove 27 = .ok (.iload_n 2, 1) := by decide +kernel
theorem dX1_remove_28 : decode cX1_remove 28 = .ok (.aload_n 0, 1) := by decide +kernel
theorem dX1_remove_29 : decode cX1_remove 29 = .ok (.getfield 11, 3) := by decide +kernel
theorem dX1_remove_32 : decode cX1_remove 32 = .ok (.aload_n 0, 1) := by decide +kernel
theorem dX1_remove_33 : decode cX1_remove 33 = .ok (.getfield 19, 3) := by decide +kernel
theorem dX1_remove_36 : decode cX1_remove 36 = .ok (.iaload, 1) := by decide +kernel
theorem dX1_remove_37 : decode cX1_remove 37 = .ok (.iastore, 1) := by decide +kernel
theorem dX1_remove_38 : decode cX1_remove 38 = .ok (.iconst 1, 1) := by decide +kernel
theorem dX1_remove_39 : decode cX1_remove 39 = .ok (.ireturn, 1) := by decide +kernel
theorem dX1_find_0 : decode cX1_find 0 = .ok (.iconst 0, 1) := by decide +kernel
theorem dX1_find_1 : decode cX1_find 1 = .ok (.istore_n 2, 1) := by decide +kernel
theorem dX1_find_2 : decode cX1_find 2 = .ok (.iload_n 2, 1) := by decide +kernel
theorem dX1_find_3 : decode cX1_find 3 = .ok (.aload_n 0, 1) := by decide +kernel
theorem dX1_find_4 : decode cX1_find 4 = .ok (.getfield 19, 3) := by decide +kernel
theorem dX1_find_7 : decode cX1_find 7 = .ok (.if_icmp .ge 21, 3) := by decide +kernel
theorem dX1_find_10 : decode cX1_find 10 = .ok (.aload_n 0, 1) := by decide +kernel
theorem dX1_find_11 : decode cX1_find 11 = .ok (.getfield 11, 3) := by decide +kernel
theorem dX1_find_14 : decode cX1_find 14 = .ok (.iload_n 2, 1) := by decide +kernel
theorem dX1_find_15 : decode cX1_find 15 = .ok (.iaload, 1) := by decide +kernel
theorem dX1_find_16 : decode cX1_find 16 = .ok (.iload_n 1, 1) := by decide +kernel
theorem dX1_find_17 : decode cX1_find 17 = .ok (.if_icmp .ne 5, 3) := by decide +kernel
theorem dX1_find_20 : decode cX1_find 20 = .ok (.iload_n 2, 1) := by decide +kernel
theorem dX1_find_21 : decode cX1_find 21 = .ok (.ireturn, 1) := by decide +kernel
theorem dX1_find_22 : decode cX1_find 22 = .ok (.iinc 2 1, 3) := by decide +kernel
theorem dX1_find_25 : decode cX1_find 25 = .ok (.goto (-23), 3) := by decide +kernel
theorem dX1_find_28 : decode cX1_find 28 = .ok (.iconst (-1), 1) := by decide +kernel
theorem dX1_find_29 : decode cX1_find 29 = .ok (.ireturn, 1) := by decide +kernel
theorem dX2_paysForCrossing_0 : decode cX2_paysForCrossing 0 = .ok (.iload_n 0, 1) := by decide +kernel
theorem dX2_paysForCrossing_1 : decode cX2_paysForCrossing 1 = .ok (.iconst 4, 1) := by decide +kernel
theorem dX2_paysForCrossing_2 : decode cX2_paysForCrossing 2 = .ok (.ishr, 1) := by decide +kernel
theorem dX2_paysForCrossing_3 : decode cX2_paysForCrossing 3 = .ok (.ifCond .eq 15, 3) := by decide +kernel
theorem dX2_paysForCrossing_6 : decode cX2_paysForCrossing 6 = .ok (.iload_n 0, 1) := by decide +kernel
theorem dX2_paysForCrossing_7 : decode cX2_paysForCrossing 7 = .ok (.bipush 32, 2) := by decide +kernel
theorem dX2_paysForCrossing_9 : decode cX2_paysForCrossing 9 = .ok (.if_icmp .lt 13, 3) := by decide +kernel
theorem dX2_paysForCrossing_12 : decode cX2_paysForCrossing 12 = .ok (.iload_n 0, 1) := by decide +kernel
theorem dX2_paysForCrossing_13 : decode cX2_paysForCrossing 13 = .ok (.bipush 35, 2) := by decide +kernel
theorem dX2_paysForCrossing_15 : decode cX2_paysForCrossing 15 = .ok (.if_icmp .gt 7, 3) := by decide +kernel
theorem dX2_paysForCrossing_18 : decode cX2_paysForCrossing 18 = .ok (.iconst 1, 1) := by decide +kernel
theorem dX2_paysForCrossing_19 : decode cX2_paysForCrossing 19 = .ok (.goto 4, 3) := by decide +kernel
theorem dX2_paysForCrossing_22 : decode cX2_paysForCrossing 22 = .ok (.iconst 0, 1) := by decide +kernel
theorem dX2_paysForCrossing_23 : decode cX2_paysForCrossing 23 = .ok (.ireturn, 1) := by decide +kernel
theorem dX3_init_0 : decode cX3_init 0 = .ok (.aload_n 0, 1) := by decide +kernel
theorem dX3_init_1 : decode cX3_init 1 = .ok (.invokespecial 1, 3) := by decide +kernel
theorem dX3_init_4 : decode cX3_init 4 = .ok (.aload_n 0, 1) := by decide +kernel
theorem dX3_init_5 : decode cX3_init 5 = .ok (.iload_n 1, 1) := by decide +kernel
theorem dX3_init_6 : decode cX3_init 6 = .ok (.iconst 3, 1) := by decide +kernel
theorem dX3_init_7 : decode cX3_init 7 = .ok (.ishr, 1) := by decide +kernel
theorem dX3_init_8 : decode cX3_init 8 = .ok (.newarray .long, 2) := by decide +kernel
theorem dX3_init_10 : decode cX3_init 10 = .ok (.putfield 7, 3) := by decide +kernel
theorem dX3_init_13 : decode cX3_init 13 = .ok (.return_, 1) := by decide +kernel
theorem dX3_byteAt_0 : decode cX3_byteAt 0 = .ok (.aload_n 0, 1) := by decide +kernel
theorem dX3_byteAt_1 : decode cX3_byteAt 1 = .ok (.getfield 7, 3) := by decide +kernel
theorem dX3_byteAt_4 : decode cX3_byteAt 4 = .ok (.iload_n 1, 1) := by decide +kernel
theorem dX3_byteAt_5 : decode cX3_byteAt 5 = .ok (.iconst 3, 1) := by decide +kernel
theorem dX3_byteAt_6 : decode cX3_byteAt 6 = .ok (.ishr, 1) := by decide +kernel
theorem dX3_byteAt_7 : decode cX3_byteAt 7 = .ok (.laload, 1) := by decide +kernel
theorem dX3_byteAt_8 : decode cX3_byteAt 8 = .ok (.bipush 8, 2) := by decide +kernel
theorem dX3_byteAt_10 : decode cX3_byteAt 10 = .ok (.iload_n 1, 1) := by decide +kernel
theorem dX3_byteAt_11 : decode cX3_byteAt 11 = .ok (.bipush 7, 2) := by decide +kernel
theorem dX3_byteAt_13 : decode cX3_byteAt 13 = .ok (.iand, 1) := by decide +kernel
theorem dX3_byteAt_14 : decode cX3_byteAt 14 = .ok (.imul, 1) := by decide +kernel
theorem dX3_byteAt_15 : decode cX3_byteAt 15 = .ok (.lushr, 1) := by decide +kernel
theorem dX3_byteAt_16 : decode cX3_byteAt 16 = .ok (.l2i, 1) := by decide +kernel
theorem dX3_byteAt_17 : decode cX3_byteAt 17 = .ok (.sipush 255, 3) := by decide +kernel
theorem dX3_byteAt_20 : decode cX3_byteAt 20 = .ok (.iand, 1) := by decide +kernel
theorem dX3_byteAt_21 : decode cX3_byteAt 21 = .ok (.ireturn, 1) := by decide +kernel
theorem dX3_store_0 : decode cX3_store 0 = .ok (.bipush 8, 2) := by decide +kernel
theorem dX3_store_2 : decode cX3_store 2 = .ok (.iload_n 1, 1) := by decide +kernel
theorem dX3_store_3 : decode cX3_store 3 = .ok (.bipush 7, 2) := by decide +kernel
theorem dX3_store_5 : decode cX3_store 5 = .ok (.iand, 1) := by decide +kernel
theorem dX3_store_6 : decode cX3_store 6 = .ok (.imul, 1) := by decide +kernel
theorem dX3_store_7 : decode cX3_store 7 = .ok (.istore_n 3, 1) := by decide +kernel
theorem dX3_store_8 : decode cX3_store 8 = .ok (.aload_n 0, 1) := by decide +kernel
theorem dX3_store_9 : decode cX3_store 9 = .ok (.getfield 7, 3) := by decide +kernel
theorem dX3_store_12 : decode cX3_store 12 = .ok (.iload_n 1, 1) := by decide +kernel
theorem dX3_store_13 : decode cX3_store 13 = .ok (.iconst 3, 1) := by decide +kernel
theorem dX3_store_14 : decode cX3_store 14 = .ok (.ishr, 1) := by decide +kernel
theorem dX3_store_15 : decode cX3_store 15 = .ok (.laload, 1) := by decide +kernel
theorem dX3_store_16 : decode cX3_store 16 = .ok (.ldc2_w 13, 3) := by decide +kernel
theorem dX3_store_19 : decode cX3_store 19 = .ok (.iload_n 3, 1) := by decide +kernel
theorem dX3_store_20 : decode cX3_store 20 = .ok (.lshl, 1) := by decide +kernel
theorem dX3_store_21 : decode cX3_store 21 = .ok (.ldc2_w 15, 3) := by decide +kernel
theorem dX3_store_24 : decode cX3_store 24 = .ok (.lxor, 1) := by decide +kernel
theorem dX3_store_25 : decode cX3_store 25 = .ok (.land, 1) := by decide +kernel
theorem dX3_store_26 : decode cX3_store 26 = .ok (.lstore 4, 2) := by decide +kernel
theorem dX3_store_28 : decode cX3_store 28 = .ok (.aload_n 0, 1) := by decide +kernel
theorem dX3_store_29 : decode cX3_store 29 = .ok (.getfield 7, 3) := by decide +kernel
theorem dX3_store_32 : decode cX3_store 32 = .ok (.iload_n 1, 1) := by decide +kernel
theorem dX3_store_33 : decode cX3_store 33 = .ok (.iconst 3, 1) := by decide +kernel
theorem dX3_store_34 : decode cX3_store 34 = .ok (.ishr, 1) := by decide +kernel
theorem dX3_store_35 : decode cX3_store 35 = .ok (.lload 4, 2) := by decide +kernel
theorem dX3_store_37 : decode cX3_store 37 = .ok (.iload_n 2, 1) := by decide +kernel
theorem dX3_store_38 : decode cX3_store 38 = .ok (.i2l, 1) := by decide +kernel
theorem dX3_store_39 : decode cX3_store 39 = .ok (.iload_n 3, 1) := by decide +kernel
theorem dX3_store_40 : decode cX3_store 40 = .ok (.lshl, 1) := by decide +kernel
theorem dX3_store_41 : decode cX3_store 41 = .ok (.lor, 1) := by decide +kernel
theorem dX3_store_42 : decode cX3_store 42 = .ok (.lastore, 1) := by decide +kernel
theorem dX3_store_43 : decode cX3_store 43 = .ok (.return_, 1) := by decide +kernel
theorem dX4_init_0 : decode cX4_init 0 = .ok (.aload_n 0, 1) := by decide +kernel
theorem dX4_init_1 : decode cX4_init 1 = .ok (.invokespecial 3, 3) := by decide +kernel
theorem dX4_init_4 : decode cX4_init 4 = .ok (.aload_n 0, 1) := by decide +kernel
theorem dX4_init_5 : decode cX4_init 5 = .ok (.bipush 64, 2) := by decide +kernel
theorem dX4_init_7 : decode cX4_init 7 = .ok (.newarray .int, 2) := by decide +kernel
theorem dX4_init_9 : decode cX4_init 9 = .ok (.putfield 11, 3) := by decide +kernel
theorem dX4_init_12 : decode cX4_init 12 = .ok (.aload_n 0, 1) := by decide +kernel
theorem dX4_init_13 : decode cX4_init 13 = .ok (.sipush 256, 3) := by decide +kernel
theorem dX4_init_16 : decode cX4_init 16 = .ok (.newarray .int, 2) := by decide +kernel
theorem dX4_init_18 : decode cX4_init 18 = .ok (.putfield 15, 3) := by decide +kernel
theorem dX4_init_21 : decode cX4_init 21 = .ok (.return_, 1) := by decide +kernel
theorem dX4_restart_0 : decode cX4_restart 0 = .ok (.aload_n 0, 1) := by decide +kernel
theorem dX4_restart_1 : decode cX4_restart 1 = .ok (.iconst 0, 1) := by decide +kernel
theorem dX4_restart_2 : decode cX4_restart 2 = .ok (.putfield 18, 3) := by decide +kernel
theorem dX4_restart_5 : decode cX4_restart 5 = .ok (.aload_n 0, 1) := by decide +kernel
theorem dX4_restart_6 : decode cX4_restart 6 = .ok (.iconst 0, 1) := by decide +kernel
theorem dX4_restart_7 : decode cX4_restart 7 = .ok (.putfield 22, 3) := by decide +kernel
theorem dX4_restart_10 : decode cX4_restart 10 = .ok (.aload_n 0, 1) := by decide +kernel
theorem dX4_restart_11 : decode cX4_restart 11 = .ok (.iconst 0, 1) := by decide +kernel
theorem dX4_restart_12 : decode cX4_restart 12 = .ok (.putfield 25, 3) := by decide +kernel
theorem dX4_restart_15 : decode cX4_restart 15 = .ok (.return_, 1) := by decide +kernel
theorem dX4_accept_0 : decode cX4_accept 0 = .ok (.aload_n 0, 1) := by decide +kernel
theorem dX4_accept_1 : decode cX4_accept 1 = .ok (.getfield 18, 3) := by decide +kernel
theorem dX4_accept_4 : decode cX4_accept 4 = .ok (.bipush 64, 2) := by decide +kernel
theorem dX4_accept_6 : decode cX4_accept 6 = .ok (.if_icmp .eq 14, 3) := by decide +kernel
theorem dX4_accept_9 : decode cX4_accept 9 = .ok (.iload_n 1, 1) := by decide +kernel
theorem dX4_accept_10 : decode cX4_accept 10 = .ok (.ifCond .lt 10, 3) := by decide +kernel
theorem dX4_accept_13 : decode cX4_accept 13 = .ok (.iload_n 1, 1) := by decide +kernel
theorem dX4_accept_14 : decode cX4_accept 14 = .ok (.sipush 255, 3) := by decide +kernel
theorem dX4_accept_17 : decode cX4_accept 17 = .ok (.if_icmp .le 5, 3) := by decide +kernel
theorem dX4_accept_20 : decode cX4_accept 20 = .ok (.iconst (-1), 1) := by decide +kernel
theorem dX4_accept_21 : decode cX4_accept 21 = .ok (.ireturn, 1) := by decide +kernel
theorem dX4_accept_22 : decode cX4_accept 22 = .ok (.aload_n 0, 1) := by decide +kernel
theorem dX4_accept_23 : decode cX4_accept 23 = .ok (.getfield 11, 3) := by decide +kernel
theorem dX4_accept_26 : decode cX4_accept 26 = .ok (.aload_n 0, 1) := by decide +kernel
theorem dX4_accept_27 : decode cX4_accept 27 = .ok (.getfield 22, 3) := by decide +kernel
theorem dX4_accept_30 : decode cX4_accept 30 = .ok (.aload_n 0, 1) := by decide +kernel
theorem dX4_accept_31 : decode cX4_accept 31 = .ok (.getfield 18, 3) := by decide +kernel
theorem dX4_accept_34 : decode cX4_accept 34 = .ok (.iadd, 1) := by decide +kernel
theorem dX4_accept_35 : decode cX4_accept 35 = .ok (.bipush 63, 2) := by decide +kernel
theorem dX4_accept_37 : decode cX4_accept 37 = .ok (.iand, 1) := by decide +kernel
theorem dX4_accept_38 : decode cX4_accept 38 = .ok (.iload_n 1, 1) := by decide +kernel
theorem dX4_accept_39 : decode cX4_accept 39 = .ok (.iastore, 1) := by decide +kernel
theorem dX4_accept_40 : decode cX4_accept 40 = .ok (.aload_n 0, 1) := by decide +kernel
theorem dX4_accept_41 : decode cX4_accept 41 = .ok (.dup, 1) := by decide +kernel
theorem dX4_accept_42 : decode cX4_accept 42 = .ok (.getfield 18, 3) := by decide +kernel
theorem dX4_accept_45 : decode cX4_accept 45 = .ok (.iconst 1, 1) := by decide +kernel
theorem dX4_accept_46 : decode cX4_accept 46 = .ok (.iadd, 1) := by decide +kernel
theorem dX4_accept_47 : decode cX4_accept 47 = .ok (.putfield 18, 3) := by decide +kernel
theorem dX4_accept_50 : decode cX4_accept 50 = .ok (.aload_n 0, 1) := by decide +kernel
theorem dX4_accept_51 : decode cX4_accept 51 = .ok (.getfield 18, 3) := by decide +kernel
theorem dX4_accept_54 : decode cX4_accept 54 = .ok (.ireturn, 1) := by decide +kernel
theorem dX4_sentByte_0 : decode cX4_sentByte 0 = .ok (.iload_n 1, 1) := by decide +kernel
theorem dX4_sentByte_1 : decode cX4_sentByte 1 = .ok (.ifCond .lt 23, 3) := by decide +kernel
theorem dX4_sentByte_4 : decode cX4_sentByte 4 = .ok (.iload_n 1, 1) := by decide +kernel
theorem dX4_sentByte_5 : decode cX4_sentByte 5 = .ok (.aload_n 0, 1) := by decide +kernel
theorem dX4_sentByte_6 : decode cX4_sentByte 6 = .ok (.getfield 28, 3) := by decide +kernel
theorem dX4_sentByte_9 : decode cX4_sentByte 9 = .ok (.if_icmp .ge 15, 3) := by decide +kernel
theorem dX4_sentByte_12 : decode cX4_sentByte 12 = .ok (.iload_n 1, 1) := by decide +kernel
theorem dX4_sentByte_13 : decode cX4_sentByte 13 = .ok (.aload_n 0, 1) := by decide +kernel
theorem dX4_sentByte_14 : decode cX4_sentByte 14 = .ok (.getfield 28, 3) := by decide +kernel
theorem dX4_sentByte_17 : decode cX4_sentByte 17 = .ok (.sipush 256, 3) := by decide +kernel
theorem dX4_sentByte_20 : decode cX4_sentByte 20 = .ok (.isub, 1) := by decide +kernel
theorem dX4_sentByte_21 : decode cX4_sentByte 21 = .ok (.if_icmp .ge 5, 3) := by decide +kernel
theorem dX4_sentByte_24 : decode cX4_sentByte 24 = .ok (.iconst (-1), 1) := by decide +kernel
theorem dX4_sentByte_25 : decode cX4_sentByte 25 = .ok (.ireturn, 1) := by decide +kernel
theorem dX4_sentByte_26 : decode cX4_sentByte 26 = .ok (.aload_n 0, 1) := by decide +kernel
theorem dX4_sentByte_27 : decode cX4_sentByte 27 = .ok (.getfield 15, 3) := by decide +kernel
theorem dX4_sentByte_30 : decode cX4_sentByte 30 = .ok (.iload_n 1, 1) := by decide +kernel
theorem dX4_sentByte_31 : decode cX4_sentByte 31 = .ok (.sipush 255, 3) := by decide +kernel
theorem dX4_sentByte_34 : decode cX4_sentByte 34 = .ok (.iand, 1) := by decide +kernel
theorem dX4_sentByte_35 : decode cX4_sentByte 35 = .ok (.iaload, 1) := by decide +kernel
theorem dX4_sentByte_36 : decode cX4_sentByte 36 = .ok (.ireturn, 1) := by decide +kernel
theorem dX4_asks_0 : decode cX4_asks 0 = .ok (.aload_n 0, 1) := by decide +kernel
theorem dX4_asks_1 : decode cX4_asks 1 = .ok (.iconst 1, 1) := by decide +kernel
theorem dX4_asks_2 : decode cX4_asks 2 = .ok (.invokevirtual 31, 3) := by decide +kernel
theorem dX4_asks_5 : decode cX4_asks 5 = .ok (.sipush 128, 3) := by decide +kernel
theorem dX4_asks_8 : decode cX4_asks 8 = .ok (.iand, 1) := by decide +kernel
theorem dX4_asks_9 : decode cX4_asks 9 = .ok (.ifCond .eq 7, 3) := by decide +kernel
theorem dX4_asks_12 : decode cX4_asks 12 = .ok (.iconst 1, 1) := by decide +kernel
theorem dX4_asks_13 : decode cX4_asks 13 = .ok (.goto 4, 3) := by decide +kernel
theorem dX4_asks_16 : decode cX4_asks 16 = .ok (.iconst 0, 1) := by decide +kernel
theorem dX4_asks_17 : decode cX4_asks 17 = .ok (.ireturn, 1) := by decide +kernel
theorem dX4_peek_0 : decode cX4_peek 0 = .ok (.iload_n 1, 1) := by decide +kernel
theorem dX4_peek_1 : decode cX4_peek 1 = .ok (.lookupswitch 83 #[(0, 27), (1, 50)], 27) := by decide +kernel
theorem dX4_peek_28 : decode cX4_peek 28 = .ok (.aload_n 0, 1) := by decide +kernel
theorem dX4_peek_29 : decode cX4_peek 29 = .ok (.getfield 18, 3) := by decide +kernel
theorem dX4_peek_32 : decode cX4_peek 32 = .ok (.ifCond .le 15, 3) := by decide +kernel
theorem dX4_peek_35 : decode cX4_peek 35 = .ok (.aload_n 0, 1) := by decide +kernel
theorem dX4_peek_36 : decode cX4_peek 36 = .ok (.getfield 11, 3) := by decide +kernel
theorem dX4_peek_39 : decode cX4_peek 39 = .ok (.aload_n 0, 1) := by decide +kernel
theorem dX4_peek_40 : decode cX4_peek 40 = .ok (.getfield 22, 3) := by decide +kernel
theorem dX4_peek_43 : decode cX4_peek 43 = .ok (.iaload, 1) := by decide +kernel
theorem dX4_peek_44 : decode cX4_peek 44 = .ok (.goto 44, 3) := by decide +kernel
theorem dX4_peek_47 : decode cX4_peek 47 = .ok (.iconst 0, 1) := by decide +kernel
theorem dX4_peek_48 : decode cX4_peek 48 = .ok (.goto 40, 3) := by decide +kernel
theorem dX4_peek_51 : decode cX4_peek 51 = .ok (.aload_n 0, 1) := by decide +kernel
theorem dX4_peek_52 : decode cX4_peek 52 = .ok (.getfield 18, 3) := by decide +kernel
theorem dX4_peek_55 : decode cX4_peek 55 = .ok (.ifCond .ne 8, 3) := by decide +kernel
theorem dX4_peek_58 : decode cX4_peek 58 = .ok (.bipush 16, 2) := by decide +kernel
theorem dX4_peek_60 : decode cX4_peek 60 = .ok (.goto 28, 3) := by decide +kernel
theorem dX4_peek_63 : decode cX4_peek 63 = .ok (.aload_n 0, 1) := by decide +kernel
theorem dX4_peek_64 : decode cX4_peek 64 = .ok (.getfield 25, 3) := by decide +kernel
theorem dX4_peek_67 : decode cX4_peek 67 = .ok (.iconst 3, 1) := by decide +kernel
theorem dX4_peek_68 : decode cX4_peek 68 = .ok (.iand, 1) := by decide +kernel
theorem dX4_peek_69 : decode cX4_peek 69 = .ok (.iconst 1, 1) := by decide +kernel
theorem dX4_peek_70 : decode cX4_peek 70 = .ok (.if_icmp .ne 9, 3) := by decide +kernel
theorem dX4_peek_73 : decode cX4_peek 73 = .ok (.sipush 152, 3) := by decide +kernel
theorem dX4_peek_76 : decode cX4_peek 76 = .ok (.goto 12, 3) := by decide +kernel
theorem dX4_peek_79 : decode cX4_peek 79 = .ok (.bipush 24, 2) := by decide +kernel
theorem dX4_peek_81 : decode cX4_peek 81 = .ok (.goto 7, 3) := by decide +kernel
theorem dX4_peek_84 : decode cX4_peek 84 = .ok (.aload_n 0, 1) := by decide +kernel
theorem dX4_peek_85 : decode cX4_peek 85 = .ok (.getfield 25, 3) := by decide +kernel
theorem dX4_peek_88 : decode cX4_peek 88 = .ok (.ireturn, 1) := by decide +kernel
theorem dX4_afterReading_0 : decode cX4_afterReading 0 = .ok (.iload_n 1, 1) := by decide +kernel
theorem dX4_afterReading_1 : decode cX4_afterReading 1 = .ok (.ifCond .ne 33, 3) := by decide +kernel
theorem dX4_afterReading_4 : decode cX4_afterReading 4 = .ok (.aload_n 0, 1) := by decide +kernel
theorem dX4_afterReading_5 : decode cX4_afterReading 5 = .ok (.getfield 18, 3) := by decide +kernel
theorem dX4_afterReading_8 : decode cX4_afterReading 8 = .ok (.ifCond .le 26, 3) := by decide +kernel
theorem dX4_afterReading_11 : decode cX4_afterReading 11 = .ok (.aload_n 0, 1) := by decide +kernel
theorem dX4_afterReading_12 : decode cX4_afterReading 12 = .ok (.aload_n 0, 1) := by decide +kernel
theorem dX4_afterReading_13 : decode cX4_afterReading 13 = .ok (.getfield 22, 3) := by decide +kernel
theorem dX4_afterReading_16 : decode cX4_afterReading 16 = .ok (.iconst 1, 1) := by decide +kernel
theorem dX4_afterReading_17 : decode cX4_afterReading 17 = .ok (.iadd, 1) := by decide +kernel
theorem dX4_afterReading_18 : decode cX4_afterReading 18 = .ok (.bipush 63, 2) := by decide +kernel
theorem dX4_afterReading_20 : decode cX4_afterReading 20 = .ok (.iand, 1) := by decide +kernel
theorem dX4_afterReading_21 : decode cX4_afterReading 21 = .ok (.putfield 22, 3) := by decide +kernel
theorem dX4_afterReading_24 : decode cX4_afterReading 24 = .ok (.aload_n 0, 1) := by decide +kernel
theorem dX4_afterReading_25 : decode cX4_afterReading 25 = .ok (.dup, 1) := by decide +kernel
theorem dX4_afterReading_26 : decode cX4_afterReading 26 = .ok (.getfield 18, 3) := by decide +kernel
theorem dX4_afterReading_29 : decode cX4_afterReading 29 = .ok (.iconst 1, 1) := by decide +kernel
theorem dX4_afterReading_30 : decode cX4_afterReading 30 = .ok (.isub, 1) := by decide +kernel
theorem dX4_afterReading_31 : decode cX4_afterReading 31 = .ok (.putfield 18, 3) := by decide +kernel
theorem dX4_afterReading_34 : decode cX4_afterReading 34 = .ok (.return_, 1) := by decide +kernel
theorem dX4_write_0 : decode cX4_write 0 = .ok (.iload_n 1, 1) := by decide +kernel
theorem dX4_write_1 : decode cX4_write 1 = .ok (.lookupswitch 62 #[(0, 27), (1, 54)], 27) := by decide +kernel
theorem dX4_write_28 : decode cX4_write 28 = .ok (.aload_n 0, 1) := by decide +kernel
theorem dX4_write_29 : decode cX4_write 29 = .ok (.getfield 15, 3) := by decide +kernel
theorem dX4_write_32 : decode cX4_write 32 = .ok (.aload_n 0, 1) := by decide +kernel
theorem dX4_write_33 : decode cX4_write 33 = .ok (.getfield 28, 3) := by decide +kernel
theorem dX4_write_36 : decode cX4_write 36 = .ok (.sipush 255, 3) := by decide +kernel
theorem dX4_write_39 : decode cX4_write 39 = .ok (.iand, 1) := by decide +kernel
theorem dX4_write_40 : decode cX4_write 40 = .ok (.iload_n 2, 1) := by decide +kernel
theorem dX4_write_41 : decode cX4_write 41 = .ok (.iastore, 1) := by decide +kernel
theorem dX4_write_42 : decode cX4_write 42 = .ok (.aload_n 0, 1) := by decide +kernel
theorem dX4_write_43 : decode cX4_write 43 = .ok (.dup, 1) := by decide +kernel
theorem dX4_write_44 : decode cX4_write 44 = .ok (.getfield 28, 3) := by decide +kernel
theorem dX4_write_47 : decode cX4_write 47 = .ok (.iconst 1, 1) := by decide +kernel
theorem dX4_write_48 : decode cX4_write 48 = .ok (.iadd, 1) := by decide +kernel
theorem dX4_write_49 : decode cX4_write 49 = .ok (.putfield 28, 3) := by decide +kernel
theorem dX4_write_52 : decode cX4_write 52 = .ok (.goto 16, 3) := by decide +kernel
theorem dX4_write_55 : decode cX4_write 55 = .ok (.aload_n 0, 1) := by decide +kernel
theorem dX4_write_56 : decode cX4_write 56 = .ok (.iconst 0, 1) := by decide +kernel
theorem dX4_write_57 : decode cX4_write 57 = .ok (.putfield 25, 3) := by decide +kernel
theorem dX4_write_60 : decode cX4_write 60 = .ok (.goto 8, 3) := by decide +kernel
theorem dX4_write_63 : decode cX4_write 63 = .ok (.aload_n 0, 1) := by decide +kernel
theorem dX4_write_64 : decode cX4_write 64 = .ok (.iload_n 2, 1) := by decide +kernel
theorem dX4_write_65 : decode cX4_write 65 = .ok (.putfield 25, 3) := by decide +kernel
theorem dX4_write_68 : decode cX4_write 68 = .ok (.return_, 1) := by decide +kernel
theorem dX5_init_0 : decode cX5_init 0 = .ok (.aload_n 0, 1) := by decide +kernel
theorem dX5_init_1 : decode cX5_init 1 = .ok (.invokespecial 1, 3) := by decide +kernel
theorem dX5_init_4 : decode cX5_init 4 = .ok (.aload_n 0, 1) := by decide +kernel
theorem dX5_init_5 : decode cX5_init 5 = .ok (.bipush 48, 2) := by decide +kernel
theorem dX5_init_7 : decode cX5_init 7 = .ok (.putfield 9, 3) := by decide +kernel
theorem dX5_init_10 : decode cX5_init 10 = .ok (.aload_n 0, 1) := by decide +kernel
theorem dX5_init_11 : decode cX5_init 11 = .ok (.new 13, 3) := by decide +kernel
theorem dX5_init_14 : decode cX5_init 14 = .ok (.dup, 1) := by decide +kernel
theorem dX5_init_15 : decode cX5_init 15 = .ok (.invokespecial 15, 3) := by decide +kernel
theorem dX5_init_18 : decode cX5_init 18 = .ok (.putfield 16, 3) := by decide +kernel
theorem dX5_init_21 : decode cX5_init 21 = .ok (.aload_n 0, 1) := by decide +kernel
theorem dX5_init_22 : decode cX5_init 22 = .ok (.aload_n 1, 1) := by decide +kernel
theorem dX5_init_23 : decode cX5_init 23 = .ok (.putfield 20, 3) := by decide +kernel
theorem dX5_init_26 : decode cX5_init 26 = .ok (.return_, 1) := by decide +kernel
theorem dX5_restart_0 : decode cX5_restart 0 = .ok (.aload_n 0, 1) := by decide +kernel
theorem dX5_restart_1 : decode cX5_restart 1 = .ok (.sipush 253, 3) := by decide +kernel
theorem dX5_restart_4 : decode cX5_restart 4 = .ok (.putfield 24, 3) := by decide +kernel
theorem dX5_restart_7 : decode cX5_restart 7 = .ok (.aload_n 0, 1) := by decide +kernel
theorem dX5_restart_8 : decode cX5_restart 8 = .ok (.aload_n 0, 1) := by decide +kernel
theorem dX5_restart_9 : decode cX5_restart 9 = .ok (.getfield 9, 3) := by decide +kernel
theorem dX5_restart_12 : decode cX5_restart 12 = .ok (.bipush (-9), 2) := by decide +kernel
theorem dX5_restart_14 : decode cX5_restart 14 = .ok (.iand, 1) := by decide +kernel
theorem dX5_restart_15 : decode cX5_restart 15 = .ok (.iconst 4, 1) := by decide +kernel
theorem dX5_restart_16 : decode cX5_restart 16 = .ok (.ior, 1) := by decide +kernel
theorem dX5_restart_17 : decode cX5_restart 17 = .ok (.putfield 9, 3) := by decide +kernel
theorem dX5_restart_20 : decode cX5_restart 20 = .ok (.aload_n 0, 1) := by decide +kernel
theorem dX5_restart_21 : decode cX5_restart 21 = .ok (.aload_n 0, 1) := by decide +kernel
theorem dX5_restart_22 : decode cX5_restart 22 = .ok (.ldc 27, 2) := by decide +kernel
theorem dX5_restart_24 : decode cX5_restart 24 = .ok (.invokevirtual 28, 3) := by decide +kernel
theorem dX5_restart_27 : decode cX5_restart 27 = .ok (.putfield 32, 3) := by decide +kernel
theorem dX5_restart_30 : decode cX5_restart 30 = .ok (.aload_n 0, 1) := by decide +kernel
theorem dX5_restart_31 : decode cX5_restart 31 = .ok (.iconst 0, 1) := by decide +kernel
theorem dX5_restart_32 : decode cX5_restart 32 = .ok (.putfield 35, 3) := by decide +kernel
theorem dX5_restart_35 : decode cX5_restart 35 = .ok (.aload_n 0, 1) := by decide +kernel
theorem dX5_restart_36 : decode cX5_restart 36 = .ok (.iconst 0, 1) := by decide +kernel
theorem dX5_restart_37 : decode cX5_restart 37 = .ok (.putfield 39, 3) := by decide +kernel
theorem dX5_restart_40 : decode cX5_restart 40 = .ok (.aload_n 0, 1) := by decide +kernel
theorem dX5_restart_41 : decode cX5_restart 41 = .ok (.iconst 0, 1) := by decide +kernel
theorem dX5_restart_42 : decode cX5_restart 42 = .ok (.putfield 42, 3) := by decide +kernel
theorem dX5_restart_45 : decode cX5_restart 45 = .ok (.return_, 1) := by decide +kernel
theorem dX5_advance_0 : decode cX5_advance 0 = .ok (.aload_n 0, 1) := by decide +kernel
theorem dX5_advance_1 : decode cX5_advance 1 = .ok (.getfield 39, 3) := by decide +kernel
theorem dX5_advance_4 : decode cX5_advance 4 = .ok (.ifCond .eq 5, 3) := by decide +kernel
theorem dX5_advance_7 : decode cX5_advance 7 = .ok (.iconst 0, 1) := by decide +kernel
theorem dX5_advance_8 : decode cX5_advance 8 = .ok (.ireturn, 1) := by decide +kernel
theorem dX5_advance_9 : decode cX5_advance 9 = .ok (.aload_n 0, 1) := by decide +kernel
theorem dX5_advance_10 : decode cX5_advance 10 = .ok (.getfield 42, 3) := by decide +kernel
theorem dX5_advance_13 : decode cX5_advance 13 = .ok (.ifCond .ne 17, 3) := by decide +kernel
theorem dX5_advance_16 : decode cX5_advance 16 = .ok (.aload_n 0, 1) := by decide +kernel
theorem dX5_advance_17 : decode cX5_advance 17 = .ok (.getfield 20, 3) := by decide +kernel
theorem dX5_advance_20 : decode cX5_advance 20 = .ok (.invokevirtual 45, 3) := by decide +kernel
theorem dX5_advance_23 : decode cX5_advance 23 = .ok (.ifCond .eq 7, 3) := by decide +kernel
theorem dX5_advance_26 : decode cX5_advance 26 = .ok (.iconst 1, 1) := by decide +kernel
theorem dX5_advance_27 : decode cX5_advance 27 = .ok (.goto 4, 3) := by decide +kernel
theorem dX5_advance_30 : decode cX5_advance 30 = .ok (.iconst 0, 1) := by decide +kernel
theorem dX5_advance_31 : decode cX5_advance 31 = .ok (.istore_n 1, 1) := by decide +kernel
theorem dX5_advance_32 : decode cX5_advance 32 = .ok (.aload_n 0, 1) := by decide +kernel
theorem dX5_advance_33 : decode cX5_advance 33 = .ok (.getfield 42, 3) := by decide +kernel
theorem dX5_advance_36 : decode cX5_advance 36 = .ok (.ifCond .ne 7, 3) := by decide +kernel
theorem dX5_advance_39 : decode cX5_advance 39 = .ok (.iload_n 1, 1) := by decide +kernel
theorem dX5_advance_40 : decode cX5_advance 40 = .ok (.ifCond .eq 8, 3) := by decide +kernel
theorem dX5_advance_43 : decode cX5_advance 43 = .ok (.aload_n 0, 1) := by decide +kernel
theorem dX5_advance_44 : decode cX5_advance 44 = .ok (.iconst 0, 1) := by decide +kernel
theorem dX5_advance_45 : decode cX5_advance 45 = .ok (.putfield 35, 3) := by decide +kernel
theorem dX5_advance_48 : decode cX5_advance 48 = .ok (.aload_n 0, 1) := by decide +kernel
theorem dX5_advance_49 : decode cX5_advance 49 = .ok (.getfield 42, 3) := by decide +kernel
theorem dX5_advance_52 : decode cX5_advance 52 = .ok (.ifCond .eq 17, 3) := by decide +kernel
theorem dX5_advance_55 : decode cX5_advance 55 = .ok (.aload_n 0, 1) := by decide +kernel
theorem dX5_advance_56 : decode cX5_advance 56 = .ok (.iconst 0, 1) := by decide +kernel
theorem dX5_advance_57 : decode cX5_advance 57 = .ok (.putfield 42, 3) := by decide +kernel
theorem dX5_advance_60 : decode cX5_advance 60 = .ok (.aload_n 0, 1) := by decide +kernel
theorem dX5_advance_61 : decode cX5_advance 61 = .ok (.ldc 51, 2) := by decide +kernel
theorem dX5_advance_63 : decode cX5_advance 63 = .ok (.invokevirtual 52, 3) := by decide +kernel
theorem dX5_advance_66 : decode cX5_advance 66 = .ok (.goto 44, 3) := by decide +kernel
theorem dX5_advance_69 : decode cX5_advance 69 = .ok (.iload_n 1, 1) := by decide +kernel
theorem dX5_advance_70 : decode cX5_advance 70 = .ok (.ifCond .eq 21, 3) := by decide +kernel
theorem dX5_advance_73 : decode cX5_advance 73 = .ok (.aload_n 0, 1) := by decide +kernel
theorem dX5_advance_74 : decode cX5_advance 74 = .ok (.getfield 9, 3) := by decide +kernel
theorem dX5_advance_77 : decode cX5_advance 77 = .ok (.iconst 4, 1) := by decide +kernel
theorem dX5_advance_78 : decode cX5_advance 78 = .ok (.iand, 1) := by decide +kernel
theorem dX5_advance_79 : decode cX5_advance 79 = .ok (.ifCond .ne 12, 3) := by decide +kernel
theorem dX5_advance_82 : decode cX5_advance 82 = .ok (.aload_n 0, 1) := by decide +kernel
theorem dX5_advance_83 : decode cX5_advance 83 = .ok (.ldc 56, 2) := by decide +kernel
theorem dX5_advance_85 : decode cX5_advance 85 = .ok (.invokevirtual 52, 3) := by decide +kernel
theorem dX5_advance_88 : decode cX5_advance 88 = .ok (.goto 22, 3) := by decide +kernel
theorem dX5_advance_91 : decode cX5_advance 91 = .ok (.aload_n 0, 1) := by decide +kernel
theorem dX5_advance_92 : decode cX5_advance 92 = .ok (.getfield 35, 3) := by decide +kernel
theorem dX5_advance_95 : decode cX5_advance 95 = .ok (.ifCond .eq 11, 3) := by decide +kernel
theorem dX5_advance_98 : decode cX5_advance 98 = .ok (.aload_n 0, 1) := by decide +kernel
theorem dX5_advance_99 : decode cX5_advance 99 = .ok (.iconst 1, 1) := by decide +kernel
theorem dX5_advance_100 : decode cX5_advance 100 = .ok (.putfield 57, 3) := by decide +kernel
theorem dX5_advance_103 : decode cX5_advance 103 = .ok (.goto 7, 3) := by decide +kernel
theorem dX5_advance_106 : decode cX5_advance 106 = .ok (.aload_n 0, 1) := by decide +kernel
theorem dX5_advance_107 : decode cX5_advance 107 = .ok (.invokevirtual 60, 3) := by decide +kernel
theorem dX5_advance_110 : decode cX5_advance 110 = .ok (.aload_n 0, 1) := by decide +kernel
theorem dX5_advance_111 : decode cX5_advance 111 = .ok (.dup, 1) := by decide +kernel
theorem dX5_advance_112 : decode cX5_advance 112 = .ok (.getfield 63, 3) := by decide +kernel
theorem dX5_advance_115 : decode cX5_advance 115 = .ok (.aload_n 0, 1) := by decide +kernel
theorem dX5_advance_116 : decode cX5_advance 116 = .ok (.getfield 57, 3) := by decide +kernel
theorem dX5_advance_119 : decode cX5_advance 119 = .ok (.i2l, 1) := by decide +kernel
theorem dX5_advance_120 : decode cX5_advance 120 = .ok (.ladd, 1) := by decide +kernel
theorem dX5_advance_121 : decode cX5_advance 121 = .ok (.putfield 63, 3) := by decide +kernel
theorem dX5_advance_124 : decode cX5_advance 124 = .ok (.aload_n 0, 1) := by decide +kernel
theorem dX5_advance_125 : decode cX5_advance 125 = .ok (.getfield 20, 3) := by decide +kernel
theorem dX5_advance_128 : decode cX5_advance 128 = .ok (.getfield 67, 3) := by decide +kernel
theorem dX5_advance_131 : decode cX5_advance 131 = .ok (.aload_n 0, 1) := by decide +kernel
theorem dX5_advance_132 : decode cX5_advance 132 = .ok (.getfield 57, 3) := by decide +kernel
theorem dX5_advance_135 : decode cX5_advance 135 = .ok (.invokevirtual 71, 3) := by decide +kernel
theorem dX5_advance_138 : decode cX5_advance 138 = .ok (.aload_n 0, 1) := by decide +kernel
theorem dX5_advance_139 : decode cX5_advance 139 = .ok (.getfield 57, 3) := by decide +kernel
theorem dX5_advance_142 : decode cX5_advance 142 = .ok (.ireturn, 1) := by decide +kernel
theorem dX5_takeInterrupt_0 : decode cX5_takeInterrupt 0 = .ok (.aload_n 0, 1) := by decide +kernel
theorem dX5_takeInterrupt_1 : decode cX5_takeInterrupt 1 = .ok (.dup, 1) := by decide +kernel
theorem dX5_takeInterrupt_2 : decode cX5_takeInterrupt 2 = .ok (.getfield 76, 3) := by decide +kernel
theorem dX5_takeInterrupt_5 : decode cX5_takeInterrupt 5 = .ok (.iconst 1, 1) := by decide +kernel
theorem dX5_takeInterrupt_6 : decode cX5_takeInterrupt 6 = .ok (.iadd, 1) := by decide +kernel
theorem dX5_takeInterrupt_7 : decode cX5_takeInterrupt 7 = .ok (.putfield 76, 3) := by decide +kernel
theorem dX5_takeInterrupt_10 : decode cX5_takeInterrupt 10 = .ok (.aload_n 0, 1) := by decide +kernel
theorem dX5_takeInterrupt_11 : decode cX5_takeInterrupt 11 = .ok (.bipush 7, 2) := by decide +kernel
theorem dX5_takeInterrupt_13 : decode cX5_takeInterrupt 13 = .ok (.putfield 57, 3) := by decide +kernel
theorem dX5_takeInterrupt_16 : decode cX5_takeInterrupt 16 = .ok (.aload_n 0, 1) := by decide +kernel
theorem dX5_takeInterrupt_17 : decode cX5_takeInterrupt 17 = .ok (.iload_n 1, 1) := by decide +kernel
theorem dX5_takeInterrupt_18 : decode cX5_takeInterrupt 18 = .ok (.aload_n 0, 1) := by decide +kernel
theorem dX5_takeInterrupt_19 : decode cX5_takeInterrupt 19 = .ok (.getfield 9, 3) := by decide +kernel
theorem dX5_takeInterrupt_22 : decode cX5_takeInterrupt 22 = .ok (.bipush (-17), 2) := by decide +kernel
theorem dX5_takeInterrupt_24 : decode cX5_takeInterrupt 24 = .ok (.iand, 1) := by decide +kernel
theorem dX5_takeInterrupt_25 : decode cX5_takeInterrupt 25 = .ok (.invokevirtual 79, 3) := by decide +kernel
theorem dX5_takeInterrupt_28 : decode cX5_takeInterrupt 28 = .ok (.return_, 1) := by decide +kernel
theorem dX5_interrupt_0 : decode cX5_interrupt 0 = .ok (.aload_n 0, 1) := by decide +kernel
theorem dX5_interrupt_1 : decode cX5_interrupt 1 = .ok (.aload_n 0, 1) := by decide +kernel
theorem dX5_interrupt_2 : decode cX5_interrupt 2 = .ok (.getfield 32, 3) := by decide +kernel
theorem dX5_interrupt_5 : decode cX5_interrupt 5 = .ok (.bipush 8, 2) := by decide +kernel
theorem dX5_interrupt_7 : decode cX5_interrupt 7 = .ok (.ishr, 1) := by decide +kernel
theorem dX5_interrupt_8 : decode cX5_interrupt 8 = .ok (.invokevirtual 83, 3) := by decide +kernel
theorem dX5_interrupt_11 : decode cX5_interrupt 11 = .ok (.aload_n 0, 1) := by decide +kernel
theorem dX5_interrupt_12 : decode cX5_interrupt 12 = .ok (.aload_n 0, 1) := by decide +kernel
theorem dX5_interrupt_13 : decode cX5_interrupt 13 = .ok (.getfield 32, 3) := by decide +kernel
theorem dX5_interrupt_16 : decode cX5_interrupt 16 = .ok (.sipush 255, 3) := by decide +kernel
theorem dX5_interrupt_19 : decode cX5_interrupt 19 = .ok (.iand, 1) := by decide +kernel
theorem dX5_interrupt_20 : decode cX5_interrupt 20 = .ok (.invokevirtual 83, 3) := by decide +kernel
theorem dX5_interrupt_23 : decode cX5_interrupt 23 = .ok (.aload_n 0, 1) := by decide +kernel
theorem dX5_interrupt_24 : decode cX5_interrupt 24 = .ok (.iload_n 2, 1) := by decide +kernel
theorem dX5_interrupt_25 : decode cX5_interrupt 25 = .ok (.invokevirtual 83, 3) := by decide +kernel
theorem dX5_interrupt_28 : decode cX5_interrupt 28 = .ok (.aload_n 0, 1) := by decide +kernel
theorem dX5_interrupt_29 : decode cX5_interrupt 29 = .ok (.aload_n 0, 1) := by decide +kernel
theorem dX5_interrupt_30 : decode cX5_interrupt 30 = .ok (.getfield 9, 3) := by decide +kernel
theorem dX5_interrupt_33 : decode cX5_interrupt 33 = .ok (.bipush (-9), 2) := by decide +kernel
theorem dX5_interrupt_35 : decode cX5_interrupt 35 = .ok (.iand, 1) := by decide +kernel
theorem dX5_interrupt_36 : decode cX5_interrupt 36 = .ok (.iconst 4, 1) := by decide +kernel
theorem dX5_interrupt_37 : decode cX5_interrupt 37 = .ok (.ior, 1) := by decide +kernel
theorem dX5_interrupt_38 : decode cX5_interrupt 38 = .ok (.putfield 9, 3) := by decide +kernel
theorem dX5_interrupt_41 : decode cX5_interrupt 41 = .ok (.aload_n 0, 1) := by decide +kernel
theorem dX5_interrupt_42 : decode cX5_interrupt 42 = .ok (.aload_n 0, 1) := by decide +kernel
theorem dX5_interrupt_43 : decode cX5_interrupt 43 = .ok (.getfield 20, 3) := by decide +kernel
theorem dX5_interrupt_46 : decode cX5_interrupt 46 = .ok (.iload_n 1, 1) := by decide +kernel
theorem dX5_interrupt_47 : decode cX5_interrupt 47 = .ok (.invokevirtual 86, 3) := by decide +kernel
theorem dX5_interrupt_50 : decode cX5_interrupt 50 = .ok (.aload_n 0, 1) := by decide +kernel
theorem dX5_interrupt_51 : decode cX5_interrupt 51 = .ok (.getfield 20, 3) := by decide +kernel
theorem dX5_interrupt_54 : decode cX5_interrupt 54 = .ok (.iload_n 1, 1) := by decide +kernel
theorem dX5_interrupt_55 : decode cX5_interrupt 55 = .ok (.iconst 1, 1) := by decide +kernel
theorem dX5_interrupt_56 : decode cX5_interrupt 56 = .ok (.iadd, 1) := by decide +kernel
theorem dX5_interrupt_57 : decode cX5_interrupt 57 = .ok (.invokevirtual 86, 3) := by decide +kernel
theorem dX5_interrupt_60 : decode cX5_interrupt 60 = .ok (.bipush 8, 2) := by decide +kernel
theorem dX5_interrupt_62 : decode cX5_interrupt 62 = .ok (.ishl, 1) := by decide +kernel
theorem dX5_interrupt_63 : decode cX5_interrupt 63 = .ok (.ior, 1) := by decide +kernel
theorem dX5_interrupt_64 : decode cX5_interrupt 64 = .ok (.putfield 32, 3) := by decide +kernel
theorem dX5_interrupt_67 : decode cX5_interrupt 67 = .ok (.return_, 1) := by decide +kernel
theorem dX5_carryOut_0 : decode cX5_carryOut 0 = .ok (.aload_n 0, 1) := by decide +kernel
theorem dX5_carryOut_1 : decode cX5_carryOut 1 = .ok (.getfield 16, 3) := by decide +kernel
theorem dX5_carryOut_4 : decode cX5_carryOut 4 = .ok (.aload_n 0, 1) := by decide +kernel
theorem dX5_carryOut_5 : decode cX5_carryOut 5 = .ok (.getfield 32, 3) := by decide +kernel
theorem dX5_carryOut_8 : decode cX5_carryOut 8 = .ok (.invokevirtual 89, 3) := by decide +kernel
theorem dX5_carryOut_11 : decode cX5_carryOut 11 = .ok (.aload_n 0, 1) := by decide +kernel
theorem dX5_carryOut_12 : decode cX5_carryOut 12 = .ok (.invokevirtual 92, 3) := by decide +kernel
theorem dX5_carryOut_15 : decode cX5_carryOut 15 = .ok (.istore_n 1, 1) := by decide +kernel
theorem dX5_carryOut_16 : decode cX5_carryOut 16 = .ok (.getstatic 96, 3) := by decide +kernel
theorem dX5_carryOut_19 : decode cX5_carryOut 19 = .ok (.iload_n 1, 1) := by decide +kernel
theorem dX5_carryOut_20 : decode cX5_carryOut 20 = .ok (.iaload, 1) := by decide +kernel
theorem dX5_carryOut_21 : decode cX5_carryOut 21 = .ok (.istore_n 2, 1) := by decide +kernel
theorem dX5_carryOut_22 : decode cX5_carryOut 22 = .ok (.getstatic 102, 3) := by decide +kernel
theorem dX5_carryOut_25 : decode cX5_carryOut 25 = .ok (.iload_n 1, 1) := by decide +kernel
theorem dX5_carryOut_26 : decode cX5_carryOut 26 = .ok (.iaload, 1) := by decide +kernel
theorem dX5_carryOut_27 : decode cX5_carryOut 27 = .ok (.istore_n 3, 1) := by decide +kernel
theorem dX5_carryOut_28 : decode cX5_carryOut 28 = .ok (.iload_n 3, 1) := by decide +kernel
theorem dX5_carryOut_29 : decode cX5_carryOut 29 = .ok (.iconst 2, 1) := by decide +kernel
theorem dX5_carryOut_30 : decode cX5_carryOut 30 = .ok (.if_icmp .lt 10, 3) := by decide +kernel
theorem dX5_carryOut_33 : decode cX5_carryOut 33 = .ok (.aload_n 0, 1) := by decide +kernel
theorem dX5_carryOut_34 : decode cX5_carryOut 34 = .ok (.invokevirtual 92, 3) := by decide +kernel
theorem dX5_carryOut_37 : decode cX5_carryOut 37 = .ok (.goto 4, 3) := by decide +kernel
theorem dX5_carryOut_40 : decode cX5_carryOut 40 = .ok (.iconst 0, 1) := by decide +kernel
theorem dX5_carryOut_41 : decode cX5_carryOut 41 = .ok (.istore 4, 2) := by decide +kernel
theorem dX5_carryOut_43 : decode cX5_carryOut 43 = .ok (.iload_n 3, 1) := by decide +kernel
theorem dX5_carryOut_44 : decode cX5_carryOut 44 = .ok (.bipush 10, 2) := by decide +kernel
theorem dX5_carryOut_46 : decode cX5_carryOut 46 = .ok (.if_icmp .lt 15, 3) := by decide +kernel
theorem dX5_carryOut_49 : decode cX5_carryOut 49 = .ok (.iload 4, 2) := by decide +kernel
theorem dX5_carryOut_51 : decode cX5_carryOut 51 = .ok (.aload_n 0, 1) := by decide +kernel
theorem dX5_carryOut_52 : decode cX5_carryOut 52 = .ok (.invokevirtual 92, 3) := by decide +kernel
theorem dX5_carryOut_55 : decode cX5_carryOut 55 = .ok (.bipush 8, 2) := by decide +kernel
theorem dX5_carryOut_57 : decode cX5_carryOut 57 = .ok (.ishl, 1) := by decide +kernel
theorem dX5_carryOut_58 : decode cX5_carryOut 58 = .ok (.ior, 1) := by decide +kernel
theorem dX5_carryOut_59 : decode cX5_carryOut 59 = .ok (.istore 4, 2) := by decide +kernel
theorem dX5_carryOut_61 : decode cX5_carryOut 61 = .ok (.aload_n 0, 1) := by decide +kernel
theorem dX5_carryOut_62 : decode cX5_carryOut 62 = .ok (.iconst 0, 1) := by decide +kernel
theorem dX5_carryOut_63 : decode cX5_carryOut 63 = .ok (.putfield 105, 3) := by decide +kernel
theorem dX5_carryOut_66 : decode cX5_carryOut 66 = .ok (.aload_n 0, 1) := by decide +kernel
theorem dX5_carryOut_67 : decode cX5_carryOut 67 = .ok (.iload_n 3, 1) := by decide +kernel
theorem dX5_carryOut_68 : decode cX5_carryOut 68 = .ok (.iload 4, 2) := by decide +kernel
theorem dX5_carryOut_70 : decode cX5_carryOut 70 = .ok (.invokevirtual 108, 3) := by decide +kernel
theorem dX5_carryOut_73 : decode cX5_carryOut 73 = .ok (.istore 5, 2) := by decide +kernel
theorem dX5_carryOut_75 : decode cX5_carryOut 75 = .ok (.aload_n 0, 1) := by decide +kernel
theorem dX5_carryOut_76 : decode cX5_carryOut 76 = .ok (.getstatic 112, 3) := by decide +kernel
theorem dX5_carryOut_79 : decode cX5_carryOut 79 = .ok (.iload_n 1, 1) := by decide +kernel
theorem dX5_carryOut_80 : decode cX5_carryOut 80 = .ok (.iaload, 1) := by decide +kernel
theorem dX5_carryOut_81 : decode cX5_carryOut 81 = .ok (.putfield 57, 3) := by decide +kernel
theorem dX5_carryOut_84 : decode cX5_carryOut 84 = .ok (.aload_n 0, 1) := by decide +kernel
theorem dX5_carryOut_85 : decode cX5_carryOut 85 = .ok (.getfield 105, 3) := by decide +kernel
theorem dX5_carryOut_88 : decode cX5_carryOut 88 = .ok (.ifCond .eq 20, 3) := by decide +kernel
theorem dX5_carryOut_91 : decode cX5_carryOut 91 = .ok (.iload_n 2, 1) := by decide +kernel
theorem dX5_carryOut_92 : decode cX5_carryOut 92 = .ok (.invokestatic 115, 3) := by decide +kernel
theorem dX5_carryOut_95 : decode cX5_carryOut 95 = .ok (.ifCond .eq 13, 3) := by decide +kernel
theorem dX5_carryOut_98 : decode cX5_carryOut 98 = .ok (.aload_n 0, 1) := by decide +kernel
theorem dX5_carryOut_99 : decode cX5_carryOut 99 = .ok (.dup, 1) := by decide +kernel
theorem dX5_carryOut_100 : decode cX5_carryOut 100 = .ok (.getfield 57, 3) := by decide +kernel
theorem dX5_carryOut_103 : decode cX5_carryOut 103 = .ok (.iconst 1, 1) := by decide +kernel
theorem dX5_carryOut_104 : decode cX5_carryOut 104 = .ok (.iadd, 1) := by decide +kernel
theorem dX5_carryOut_105 : decode cX5_carryOut 105 = .ok (.putfield 57, 3) := by decide +kernel
theorem dX5_carryOut_108 : decode cX5_carryOut 108 = .ok (.iload_n 2, 1) := by decide +kernel
theorem dX5_carryOut_109 : decode cX5_carryOut 109 = .ok (.iconst 4, 1) := by decide +kernel
theorem dX5_carryOut_110 : decode cX5_carryOut 110 = .ok (.ishr, 1) := by decide +kernel
theorem dX5_carryOut_111 : decode cX5_carryOut 111 = .ok (.tableswitch 156 0 7 #[45, 72, 89, 106, 114, 122, 130, 146], 45) := by decide +kernel
theorem dX5_carryOut_156 : decode cX5_carryOut 156 = .ok (.aload_n 0, 1) := by decide +kernel
theorem dX5_carryOut_157 : decode cX5_carryOut 157 = .ok (.iload_n 2, 1) := by decide +kernel
theorem dX5_carryOut_158 : decode cX5_carryOut 158 = .ok (.iload_n 3, 1) := by decide +kernel
theorem dX5_carryOut_159 : decode cX5_carryOut 159 = .ok (.iconst 2, 1) := by decide +kernel
theorem dX5_carryOut_160 : decode cX5_carryOut 160 = .ok (.if_icmp .ne 8, 3) := by decide +kernel
theorem dX5_carryOut_163 : decode cX5_carryOut 163 = .ok (.iload 4, 2) := by decide +kernel
theorem dX5_carryOut_165 : decode cX5_carryOut 165 = .ok (.goto 12, 3) := by decide +kernel
theorem dX5_carryOut_168 : decode cX5_carryOut 168 = .ok (.aload_n 0, 1) := by decide +kernel
theorem dX5_carryOut_169 : decode cX5_carryOut 169 = .ok (.getfield 20, 3) := by decide +kernel
theorem dX5_carryOut_172 : decode cX5_carryOut 172 = .ok (.iload 5, 2) := by decide +kernel
theorem dX5_carryOut_174 : decode cX5_carryOut 174 = .ok (.invokevirtual 86, 3) := by decide +kernel
theorem dX5_carryOut_177 : decode cX5_carryOut 177 = .ok (.invokevirtual 119, 3) := by decide +kernel
theorem dX5_carryOut_180 : decode cX5_carryOut 180 = .ok (.goto 87, 3) := by decide +kernel
theorem dX5_carryOut_183 : decode cX5_carryOut 183 = .ok (.aload_n 0, 1) := by decide +kernel
theorem dX5_carryOut_184 : decode cX5_carryOut 184 = .ok (.getfield 20, 3) := by decide +kernel
theorem dX5_carryOut_187 : decode cX5_carryOut 187 = .ok (.iload 5, 2) := by decide +kernel
theorem dX5_carryOut_189 : decode cX5_carryOut 189 = .ok (.aload_n 0, 1) := by decide +kernel
theorem dX5_carryOut_190 : decode cX5_carryOut 190 = .ok (.iload_n 2, 1) := by decide +kernel
theorem dX5_carryOut_191 : decode cX5_carryOut 191 = .ok (.invokevirtual 122, 3) := by decide +kernel
theorem dX5_carryOut_194 : decode cX5_carryOut 194 = .ok (.invokevirtual 125, 3) := by decide +kernel
theorem dX5_carryOut_197 : decode cX5_carryOut 197 = .ok (.goto 70, 3) := by decide +kernel
theorem dX5_carryOut_200 : decode cX5_carryOut 200 = .ok (.aload_n 0, 1) := by decide +kernel
theorem dX5_carryOut_201 : decode cX5_carryOut 201 = .ok (.iload_n 2, 1) := by decide +kernel
theorem dX5_carryOut_202 : decode cX5_carryOut 202 = .ok (.iload_n 1, 1) := by decide +kernel
theorem dX5_carryOut_203 : decode cX5_carryOut 203 = .ok (.iconst 4, 1) := by decide +kernel
theorem dX5_carryOut_204 : decode cX5_carryOut 204 = .ok (.ishr, 1) := by decide +kernel
theorem dX5_carryOut_205 : decode cX5_carryOut 205 = .ok (.bipush 7, 2) := by decide +kernel
theorem dX5_carryOut_207 : decode cX5_carryOut 207 = .ok (.iand, 1) := by decide +kernel
theorem dX5_carryOut_208 : decode cX5_carryOut 208 = .ok (.iload_n 3, 1) := by decide +kernel
theorem dX5_carryOut_209 : decode cX5_carryOut 209 = .ok (.iload 5, 2) := by decide +kernel
theorem dX5_carryOut_211 : decode cX5_carryOut 211 = .ok (.invokevirtual 128, 3) := by decide +kernel
theorem dX5_carryOut_214 : decode cX5_carryOut 214 = .ok (.goto 53, 3) := by decide +kernel
theorem dX5_carryOut_217 : decode cX5_carryOut 217 = .ok (.aload_n 0, 1) := by decide +kernel
theorem dX5_carryOut_218 : decode cX5_carryOut 218 = .ok (.iload_n 2, 1) := by decide +kernel
theorem dX5_carryOut_219 : decode cX5_carryOut 219 = .ok (.invokevirtual 132, 3) := by decide +kernel
theorem dX5_carryOut_222 : decode cX5_carryOut 222 = .ok (.goto 45, 3) := by decide +kernel
theorem dX5_carryOut_225 : decode cX5_carryOut 225 = .ok (.aload_n 0, 1) := by decide +kernel
theorem dX5_carryOut_226 : decode cX5_carryOut 226 = .ok (.iload_n 2, 1) := by decide +kernel
theorem dX5_carryOut_227 : decode cX5_carryOut 227 = .ok (.invokevirtual 135, 3) := by decide +kernel
theorem dX5_carryOut_230 : decode cX5_carryOut 230 = .ok (.goto 37, 3) := by decide +kernel
theorem dX5_carryOut_233 : decode cX5_carryOut 233 = .ok (.aload_n 0, 1) := by decide +kernel
theorem dX5_carryOut_234 : decode cX5_carryOut 234 = .ok (.iload_n 2, 1) := by decide +kernel
theorem dX5_carryOut_235 : decode cX5_carryOut 235 = .ok (.invokevirtual 138, 3) := by decide +kernel
theorem dX5_carryOut_238 : decode cX5_carryOut 238 = .ok (.goto 29, 3) := by decide +kernel
theorem dX5_carryOut_241 : decode cX5_carryOut 241 = .ok (.aload_n 0, 1) := by decide +kernel
theorem dX5_carryOut_242 : decode cX5_carryOut 242 = .ok (.iload_n 2, 1) := by decide +kernel
theorem dX5_carryOut_243 : decode cX5_carryOut 243 = .ok (.iload_n 1, 1) := by decide +kernel
theorem dX5_carryOut_244 : decode cX5_carryOut 244 = .ok (.iconst 4, 1) := by decide +kernel
theorem dX5_carryOut_245 : decode cX5_carryOut 245 = .ok (.ishr, 1) := by decide +kernel
theorem dX5_carryOut_246 : decode cX5_carryOut 246 = .ok (.bipush 7, 2) := by decide +kernel
theorem dX5_carryOut_248 : decode cX5_carryOut 248 = .ok (.iand, 1) := by decide +kernel
theorem dX5_carryOut_249 : decode cX5_carryOut 249 = .ok (.iload 4, 2) := by decide +kernel
theorem dX5_carryOut_251 : decode cX5_carryOut 251 = .ok (.invokevirtual 141, 3) := by decide +kernel
theorem dX5_carryOut_254 : decode cX5_carryOut 254 = .ok (.goto 13, 3) := by decide +kernel
theorem dX5_carryOut_257 : decode cX5_carryOut 257 = .ok (.aload_n 0, 1) := by decide +kernel
theorem dX5_carryOut_258 : decode cX5_carryOut 258 = .ok (.iload_n 2, 1) := by decide +kernel
theorem dX5_carryOut_259 : decode cX5_carryOut 259 = .ok (.iload 5, 2) := by decide +kernel
theorem dX5_carryOut_261 : decode cX5_carryOut 261 = .ok (.invokevirtual 145, 3) := by decide +kernel
theorem dX5_carryOut_264 : decode cX5_carryOut 264 = .ok (.goto 3, 3) := by decide +kernel
theorem dX5_carryOut_267 : decode cX5_carryOut 267 = .ok (.return_, 1) := by decide +kernel
theorem dX5_fetch_0 : decode cX5_fetch 0 = .ok (.aload_n 0, 1) := by decide +kernel
theorem dX5_fetch_1 : decode cX5_fetch 1 = .ok (.getfield 20, 3) := by decide +kernel
theorem dX5_fetch_4 : decode cX5_fetch 4 = .ok (.aload_n 0, 1) := by decide +kernel
theorem dX5_fetch_5 : decode cX5_fetch 5 = .ok (.getfield 32, 3) := by decide +kernel
theorem dX5_fetch_8 : decode cX5_fetch 8 = .ok (.invokevirtual 86, 3) := by decide +kernel
theorem dX5_fetch_11 : decode cX5_fetch 11 = .ok (.istore_n 1, 1) := by decide +kernel
theorem dX5_fetch_12 : decode cX5_fetch 12 = .ok (.aload_n 0, 1) := by decide +kernel
theorem dX5_fetch_13 : decode cX5_fetch 13 = .ok (.aload_n 0, 1) := by decide +kernel
theorem dX5_fetch_14 : decode cX5_fetch 14 = .ok (.getfield 32, 3) := by decide +kernel
theorem dX5_fetch_17 : decode cX5_fetch 17 = .ok (.iconst 1, 1) := by decide +kernel
theorem dX5_fetch_18 : decode cX5_fetch 18 = .ok (.iadd, 1) := by decide +kernel
theorem dX5_fetch_19 : decode cX5_fetch 19 = .ok (.ldc 148, 2) := by decide +kernel
theorem dX5_fetch_21 : decode cX5_fetch 21 = .ok (.iand, 1) := by decide +kernel
theorem dX5_fetch_22 : decode cX5_fetch 22 = .ok (.putfield 32, 3) := by decide +kernel
theorem dX5_fetch_25 : decode cX5_fetch 25 = .ok (.iload_n 1, 1) := by decide +kernel
theorem dX5_fetch_26 : decode cX5_fetch 26 = .ok (.ireturn, 1) := by decide +kernel
theorem dX5_addressOf_0 : decode cX5_addressOf 0 = .ok (.iload_n 1, 1) := by decide +kernel
theorem dX5_addressOf_1 : decode cX5_addressOf 1 = .ok (.tableswitch 138 5 12 #[47, 60, 97, 114, 130, 138, 73, 85], 47) := by decide +kernel
theorem dX5_addressOf_48 : decode cX5_addressOf 48 = .ok (.iload_n 2, 1) := by decide +kernel
theorem dX5_addressOf_49 : decode cX5_addressOf 49 = .ok (.aload_n 0, 1) := by decide +kernel
theorem dX5_addressOf_50 : decode cX5_addressOf 50 = .ok (.getfield 149, 3) := by decide +kernel
theorem dX5_addressOf_53 : decode cX5_addressOf 53 = .ok (.iadd, 1) := by decide +kernel
theorem dX5_addressOf_54 : decode cX5_addressOf 54 = .ok (.sipush 255, 3) := by decide +kernel
theorem dX5_addressOf_57 : decode cX5_addressOf 57 = .ok (.iand, 1) := by decide +kernel
theorem dX5_addressOf_58 : decode cX5_addressOf 58 = .ok (.goto 82, 3) := by decide +kernel
theorem dX5_addressOf_61 : decode cX5_addressOf 61 = .ok (.iload_n 2, 1) := by decide +kernel
theorem dX5_addressOf_62 : decode cX5_addressOf 62 = .ok (.aload_n 0, 1) := by decide +kernel
theorem dX5_addressOf_63 : decode cX5_addressOf 63 = .ok (.getfield 152, 3) := by decide +kernel
theorem dX5_addressOf_66 : decode cX5_addressOf 66 = .ok (.iadd, 1) := by decide +kernel
theorem dX5_addressOf_67 : decode cX5_addressOf 67 = .ok (.sipush 255, 3) := by decide +kernel
theorem dX5_addressOf_70 : decode cX5_addressOf 70 = .ok (.iand, 1) := by decide +kernel
theorem dX5_addressOf_71 : decode cX5_addressOf 71 = .ok (.goto 69, 3) := by decide +kernel
theorem dX5_addressOf_74 : decode cX5_addressOf 74 = .ok (.aload_n 0, 1) := by decide +kernel
theorem dX5_addressOf_75 : decode cX5_addressOf 75 = .ok (.iload_n 2, 1) := by decide +kernel
theorem dX5_addressOf_76 : decode cX5_addressOf 76 = .ok (.aload_n 0, 1) := by decide +kernel
theorem dX5_addressOf_77 : decode cX5_addressOf 77 = .ok (.getfield 149, 3) := by decide +kernel
theorem dX5_addressOf_80 : decode cX5_addressOf 80 = .ok (.invokevirtual 155, 3) := by decide +kernel
theorem dX5_addressOf_83 : decode cX5_addressOf 83 = .ok (.goto 57, 3) := by decide +kernel
theorem dX5_addressOf_86 : decode cX5_addressOf 86 = .ok (.aload_n 0, 1) := by decide +kernel
theorem dX5_addressOf_87 : decode cX5_addressOf 87 = .ok (.iload_n 2, 1) := by decide +kernel
theorem dX5_addressOf_88 : decode cX5_addressOf 88 = .ok (.aload_n 0, 1) := by decide +kernel
theorem dX5_addressOf_89 : decode cX5_addressOf 89 = .ok (.getfield 152, 3) := by decide +kernel
theorem dX5_addressOf_92 : decode cX5_addressOf 92 = .ok (.invokevirtual 155, 3) := by decide +kernel
theorem dX5_addressOf_95 : decode cX5_addressOf 95 = .ok (.goto 45, 3) := by decide +kernel
theorem dX5_addressOf_98 : decode cX5_addressOf 98 = .ok (.aload_n 0, 1) := by decide +kernel
theorem dX5_addressOf_99 : decode cX5_addressOf 99 = .ok (.iload_n 2, 1) := by decide +kernel
theorem dX5_addressOf_100 : decode cX5_addressOf 100 = .ok (.aload_n 0, 1) := by decide +kernel
theorem dX5_addressOf_101 : decode cX5_addressOf 101 = .ok (.getfield 149, 3) := by decide +kernel
theorem dX5_addressOf_104 : decode cX5_addressOf 104 = .ok (.iadd, 1) := by decide +kernel
theorem dX5_addressOf_105 : decode cX5_addressOf 105 = .ok (.sipush 255, 3) := by decide +kernel
theorem dX5_addressOf_108 : decode cX5_addressOf 108 = .ok (.iand, 1) := by decide +kernel
theorem dX5_addressOf_109 : decode cX5_addressOf 109 = .ok (.invokevirtual 158, 3) := by decide +kernel
theorem dX5_addressOf_112 : decode cX5_addressOf 112 = .ok (.goto 28, 3) := by decide +kernel
theorem dX5_addressOf_115 : decode cX5_addressOf 115 = .ok (.aload_n 0, 1) := by decide +kernel
theorem dX5_addressOf_116 : decode cX5_addressOf 116 = .ok (.aload_n 0, 1) := by decide +kernel
theorem dX5_addressOf_117 : decode cX5_addressOf 117 = .ok (.iload_n 2, 1) := by decide +kernel
theorem dX5_addressOf_118 : decode cX5_addressOf 118 = .ok (.invokevirtual 158, 3) := by decide +kernel
theorem dX5_addressOf_121 : decode cX5_addressOf 121 = .ok (.aload_n 0, 1) := by decide +kernel
theorem dX5_addressOf_122 : decode cX5_addressOf 122 = .ok (.getfield 152, 3) := by decide +kernel
theorem dX5_addressOf_125 : decode cX5_addressOf 125 = .ok (.invokevirtual 155, 3) := by decide +kernel
theorem dX5_addressOf_128 : decode cX5_addressOf 128 = .ok (.goto 12, 3) := by decide +kernel
theorem dX5_addressOf_131 : decode cX5_addressOf 131 = .ok (.aload_n 0, 1) := by decide +kernel
theorem dX5_addressOf_132 : decode cX5_addressOf 132 = .ok (.iload_n 2, 1) := by decide +kernel
theorem dX5_addressOf_133 : decode cX5_addressOf 133 = .ok (.invokevirtual 158, 3) := by decide +kernel
theorem dX5_addressOf_136 : decode cX5_addressOf 136 = .ok (.goto 4, 3) := by decide +kernel
theorem dX5_addressOf_139 : decode cX5_addressOf 139 = .ok (.iload_n 2, 1) := by decide +kernel
theorem dX5_addressOf_140 : decode cX5_addressOf 140 = .ok (.ireturn, 1) := by decide +kernel
theorem dX5_indexed_0 : decode cX5_indexed 0 = .ok (.iload_n 1, 1) := by decide +kernel
theorem dX5_indexed_1 : decode cX5_indexed 1 = .ok (.iload_n 2, 1) := by decide +kernel
theorem dX5_indexed_2 : decode cX5_indexed 2 = .ok (.iadd, 1) := by decide +kernel
theorem dX5_indexed_3 : decode cX5_indexed 3 = .ok (.ldc 148, 2) := by decide +kernel
theorem dX5_indexed_5 : decode cX5_indexed 5 = .ok (.iand, 1) := by decide +kernel
theorem dX5_indexed_6 : decode cX5_indexed 6 = .ok (.istore_n 3, 1) := by decide +kernel
theorem dX5_indexed_7 : decode cX5_indexed 7 = .ok (.aload_n 0, 1) := by decide +kernel
theorem dX5_indexed_8 : decode cX5_indexed 8 = .ok (.iload_n 3, 1) := by decide +kernel
theorem dX5_indexed_9 : decode cX5_indexed 9 = .ok (.bipush 8, 2) := by decide +kernel
theorem dX5_indexed_11 : decode cX5_indexed 11 = .ok (.ishr, 1) := by decide +kernel
theorem dX5_indexed_12 : decode cX5_indexed 12 = .ok (.iload_n 1, 1) := by decide +kernel
theorem dX5_indexed_13 : decode cX5_indexed 13 = .ok (.bipush 8, 2) := by decide +kernel
theorem dX5_indexed_15 : decode cX5_indexed 15 = .ok (.ishr, 1) := by decide +kernel
theorem dX5_indexed_16 : decode cX5_indexed 16 = .ok (.if_icmp .eq 7, 3) := by decide +kernel
theorem dX5_indexed_19 : decode cX5_indexed 19 = .ok (.iconst 1, 1) := by decide +kernel
theorem dX5_indexed_20 : decode cX5_indexed 20 = .ok (.goto 4, 3) := by decide +kernel
theorem dX5_indexed_23 : decode cX5_indexed 23 = .ok (.iconst 0, 1) := by decide +kernel
theorem dX5_indexed_24 : decode cX5_indexed 24 = .ok (.putfield 105, 3) := by decide +kernel
theorem dX5_indexed_27 : decode cX5_indexed 27 = .ok (.iload_n 3, 1) := by decide +kernel
theorem dX5_indexed_28 : decode cX5_indexed 28 = .ok (.ireturn, 1) := by decide +kernel
theorem dX5_pointerAt_0 : decode cX5_pointerAt 0 = .ok (.aload_n 0, 1) := by decide +kernel
theorem dX5_pointerAt_1 : decode cX5_pointerAt 1 = .ok (.getfield 20, 3) := by decide +kernel
theorem dX5_pointerAt_4 : decode cX5_pointerAt 4 = .ok (.iload_n 1, 1) := by decide +kernel
theorem dX5_pointerAt_5 : decode cX5_pointerAt 5 = .ok (.invokevirtual 86, 3) := by decide +kernel
theorem dX5_pointerAt_8 : decode cX5_pointerAt 8 = .ok (.istore_n 2, 1) := by decide +kernel
theorem dX5_pointerAt_9 : decode cX5_pointerAt 9 = .ok (.iload_n 2, 1) := by decide +kernel
theorem dX5_pointerAt_10 : decode cX5_pointerAt 10 = .ok (.aload_n 0, 1) := by decide +kernel
theorem dX5_pointerAt_11 : decode cX5_pointerAt 11 = .ok (.getfield 20, 3) := by decide +kernel
theorem dX5_pointerAt_14 : decode cX5_pointerAt 14 = .ok (.iload_n 1, 1) := by decide +kernel
theorem dX5_pointerAt_15 : decode cX5_pointerAt 15 = .ok (.iconst 1, 1) := by decide +kernel
theorem dX5_pointerAt_16 : decode cX5_pointerAt 16 = .ok (.iadd, 1) := by decide +kernel
theorem dX5_pointerAt_17 : decode cX5_pointerAt 17 = .ok (.sipush 255, 3) := by decide +kernel
theorem dX5_pointerAt_20 : decode cX5_pointerAt 20 = .ok (.iand, 1) := by decide +kernel
theorem dX5_pointerAt_21 : decode cX5_pointerAt 21 = .ok (.invokevirtual 86, 3) := by decide +kernel
theorem dX5_pointerAt_24 : decode cX5_pointerAt 24 = .ok (.bipush 8, 2) := by decide +kernel
theorem dX5_pointerAt_26 : decode cX5_pointerAt 26 = .ok (.ishl, 1) := by decide +kernel
theorem dX5_pointerAt_27 : decode cX5_pointerAt 27 = .ok (.ior, 1) := by decide +kernel
theorem dX5_pointerAt_28 : decode cX5_pointerAt 28 = .ok (.ireturn, 1) := by decide +kernel
theorem dX5_wordAt_0 : decode cX5_wordAt 0 = .ok (.aload_n 0, 1) := by decide +kernel
theorem dX5_wordAt_1 : decode cX5_wordAt 1 = .ok (.getfield 20, 3) := by decide +kernel
theorem dX5_wordAt_4 : decode cX5_wordAt 4 = .ok (.iload_n 1, 1) := by decide +kernel
theorem dX5_wordAt_5 : decode cX5_wordAt 5 = .ok (.invokevirtual 86, 3) := by decide +kernel
theorem dX5_wordAt_8 : decode cX5_wordAt 8 = .ok (.istore_n 2, 1) := by decide +kernel
theorem dX5_wordAt_9 : decode cX5_wordAt 9 = .ok (.iload_n 2, 1) := by decide +kernel
theorem dX5_wordAt_10 : decode cX5_wordAt 10 = .ok (.aload_n 0, 1) := by decide +kernel
theorem dX5_wordAt_11 : decode cX5_wordAt 11 = .ok (.getfield 20, 3) := by decide +kernel
theorem dX5_wordAt_14 : decode cX5_wordAt 14 = .ok (.iload_n 1, 1) := by decide +kernel
theorem dX5_wordAt_15 : decode cX5_wordAt 15 = .ok (.iconst 1, 1) := by decide +kernel
theorem dX5_wordAt_16 : decode cX5_wordAt 16 = .ok (.iadd, 1) := by decide +kernel
theorem dX5_wordAt_17 : decode cX5_wordAt 17 = .ok (.ldc 148, 2) := by decide +kernel
theorem dX5_wordAt_19 : decode cX5_wordAt 19 = .ok (.iand, 1) := by decide +kernel
theorem dX5_wordAt_20 : decode cX5_wordAt 20 = .ok (.invokevirtual 86, 3) := by decide +kernel
theorem dX5_wordAt_23 : decode cX5_wordAt 23 = .ok (.bipush 8, 2) := by decide +kernel
theorem dX5_wordAt_25 : decode cX5_wordAt 25 = .ok (.ishl, 1) := by decide +kernel
theorem dX5_wordAt_26 : decode cX5_wordAt 26 = .ok (.ior, 1) := by decide +kernel
theorem dX5_wordAt_27 : decode cX5_wordAt 27 = .ok (.ireturn, 1) := by decide +kernel
theorem dX5_use_0 : decode cX5_use 0 = .ok (.iload_n 1, 1) := by decide +kernel
theorem dX5_use_1 : decode cX5_use 1 = .ok (.tableswitch 282 0 11 #[63, 80, 97, 186, 114, 150, 212, 126, 138, 162, 174, 242], 63) := by decide +kernel
theorem dX5_use_64 : decode cX5_use 64 = .ok (.aload_n 0, 1) := by decide +kernel
theorem dX5_use_65 : decode cX5_use 65 = .ok (.aload_n 0, 1) := by decide +kernel
theorem dX5_use_66 : decode cX5_use 66 = .ok (.aload_n 0, 1) := by decide +kernel
theorem dX5_use_67 : decode cX5_use 67 = .ok (.getfield 161, 3) := by decide +kernel
theorem dX5_use_70 : decode cX5_use 70 = .ok (.iload_n 2, 1) := by decide +kernel
theorem dX5_use_71 : decode cX5_use 71 = .ok (.ior, 1) := by decide +kernel
theorem dX5_use_72 : decode cX5_use 72 = .ok (.invokevirtual 164, 3) := by decide +kernel
theorem dX5_use_75 : decode cX5_use 75 = .ok (.putfield 161, 3) := by decide +kernel
theorem dX5_use_78 : decode cX5_use 78 = .ok (.goto 224, 3) := by decide +kernel
theorem dX5_use_81 : decode cX5_use 81 = .ok (.aload_n 0, 1) := by decide +kernel
theorem dX5_use_82 : decode cX5_use 82 = .ok (.aload_n 0, 1) := by decide +kernel
theorem dX5_use_83 : decode cX5_use 83 = .ok (.aload_n 0, 1) := by decide +kernel
theorem dX5_use_84 : decode cX5_use 84 = .ok (.getfield 161, 3) := by decide +kernel
theorem dX5_use_87 : decode cX5_use 87 = .ok (.iload_n 2, 1) := by decide +kernel
theorem dX5_use_88 : decode cX5_use 88 = .ok (.iand, 1) := by decide +kernel
theorem dX5_use_89 : decode cX5_use 89 = .ok (.invokevirtual 164, 3) := by decide +kernel
theorem dX5_use_92 : decode cX5_use 92 = .ok (.putfield 161, 3) := by decide +kernel
theorem dX5_use_95 : decode cX5_use 95 = .ok (.goto 207, 3) := by decide +kernel
theorem dX5_use_98 : decode cX5_use 98 = .ok (.aload_n 0, 1) := by decide +kernel
theorem dX5_use_99 : decode cX5_use 99 = .ok (.aload_n 0, 1) := by decide +kernel
theorem dX5_use_100 : decode cX5_use 100 = .ok (.aload_n 0, 1) := by decide +kernel
theorem dX5_use_101 : decode cX5_use 101 = .ok (.getfield 161, 3) := by decide +kernel
theorem dX5_use_104 : decode cX5_use 104 = .ok (.iload_n 2, 1) := by decide +kernel
theorem dX5_use_105 : decode cX5_use 105 = .ok (.ixor, 1) := by decide +kernel
theorem dX5_use_106 : decode cX5_use 106 = .ok (.invokevirtual 164, 3) := by decide +kernel
theorem dX5_use_109 : decode cX5_use 109 = .ok (.putfield 161, 3) := by decide +kernel
theorem dX5_use_112 : decode cX5_use 112 = .ok (.goto 190, 3) := by decide +kernel
theorem dX5_use_115 : decode cX5_use 115 = .ok (.aload_n 0, 1) := by decide +kernel
theorem dX5_use_116 : decode cX5_use 116 = .ok (.aload_n 0, 1) := by decide +kernel
theorem dX5_use_117 : decode cX5_use 117 = .ok (.iload_n 2, 1) := by decide +kernel
theorem dX5_use_118 : decode cX5_use 118 = .ok (.invokevirtual 164, 3) := by decide +kernel
theorem dX5_use_121 : decode cX5_use 121 = .ok (.putfield 161, 3) := by decide +kernel
theorem dX5_use_124 : decode cX5_use 124 = .ok (.goto 178, 3) := by decide +kernel
theorem dX5_use_127 : decode cX5_use 127 = .ok (.aload_n 0, 1) := by decide +kernel
theorem dX5_use_128 : decode cX5_use 128 = .ok (.aload_n 0, 1) := by decide +kernel
theorem dX5_use_129 : decode cX5_use 129 = .ok (.iload_n 2, 1) := by decide +kernel
theorem dX5_use_130 : decode cX5_use 130 = .ok (.invokevirtual 164, 3) := by decide +kernel
theorem dX5_use_133 : decode cX5_use 133 = .ok (.putfield 149, 3) := by decide +kernel
theorem dX5_use_136 : decode cX5_use 136 = .ok (.goto 166, 3) := by decide +kernel
theorem dX5_use_139 : decode cX5_use 139 = .ok (.aload_n 0, 1) := by decide +kernel
theorem dX5_use_140 : decode cX5_use 140 = .ok (.aload_n 0, 1) := by decide +kernel
theorem dX5_use_141 : decode cX5_use 141 = .ok (.iload_n 2, 1) := by decide +kernel
theorem dX5_use_142 : decode cX5_use 142 = .ok (.invokevirtual 164, 3) := by decide +kernel
theorem dX5_use_145 : decode cX5_use 145 = .ok (.putfield 152, 3) := by decide +kernel
theorem dX5_use_148 : decode cX5_use 148 = .ok (.goto 154, 3) := by decide +kernel
theorem dX5_use_151 : decode cX5_use 151 = .ok (.aload_n 0, 1) := by decide +kernel
theorem dX5_use_152 : decode cX5_use 152 = .ok (.aload_n 0, 1) := by decide +kernel
theorem dX5_use_153 : decode cX5_use 153 = .ok (.getfield 161, 3) := by decide +kernel
theorem dX5_use_156 : decode cX5_use 156 = .ok (.iload_n 2, 1) := by decide +kernel
theorem dX5_use_157 : decode cX5_use 157 = .ok (.invokevirtual 167, 3) := by decide +kernel
theorem dX5_use_160 : decode cX5_use 160 = .ok (.goto 142, 3) := by decide +kernel
theorem dX5_use_163 : decode cX5_use 163 = .ok (.aload_n 0, 1) := by decide +kernel
theorem dX5_use_164 : decode cX5_use 164 = .ok (.aload_n 0, 1) := by decide +kernel
theorem dX5_use_165 : decode cX5_use 165 = .ok (.getfield 149, 3) := by decide +kernel
theorem dX5_use_168 : decode cX5_use 168 = .ok (.iload_n 2, 1) := by decide +kernel
theorem dX5_use_169 : decode cX5_use 169 = .ok (.invokevirtual 167, 3) := by decide +kernel
theorem dX5_use_172 : decode cX5_use 172 = .ok (.goto 130, 3) := by decide +kernel
theorem dX5_use_175 : decode cX5_use 175 = .ok (.aload_n 0, 1) := by decide +kernel
theorem dX5_use_176 : decode cX5_use 176 = .ok (.aload_n 0, 1) := by decide +kernel
theorem dX5_use_177 : decode cX5_use 177 = .ok (.getfield 152, 3) := by decide +kernel
theorem dX5_use_180 : decode cX5_use 180 = .ok (.iload_n 2, 1) := by decide +kernel
theorem dX5_use_181 : decode cX5_use 181 = .ok (.invokevirtual 167, 3) := by decide +kernel
theorem dX5_use_184 : decode cX5_use 184 = .ok (.goto 118, 3) := by decide +kernel
theorem dX5_use_187 : decode cX5_use 187 = .ok (.aload_n 0, 1) := by decide +kernel
theorem dX5_use_188 : decode cX5_use 188 = .ok (.getfield 9, 3) := by decide +kernel
theorem dX5_use_191 : decode cX5_use 191 = .ok (.bipush 8, 2) := by decide +kernel
theorem dX5_use_193 : decode cX5_use 193 = .ok (.iand, 1) := by decide +kernel
theorem dX5_use_194 : decode cX5_use 194 = .ok (.ifCond .eq 11, 3) := by decide +kernel
theorem dX5_use_197 : decode cX5_use 197 = .ok (.aload_n 0, 1) := by decide +kernel
theorem dX5_use_198 : decode cX5_use 198 = .ok (.iload_n 2, 1) := by decide +kernel
theorem dX5_use_199 : decode cX5_use 199 = .ok (.invokevirtual 170, 3) := by decide +kernel
theorem dX5_use_202 : decode cX5_use 202 = .ok (.goto 100, 3) := by decide +kernel
theorem dX5_use_205 : decode cX5_use 205 = .ok (.aload_n 0, 1) := by decide +kernel
theorem dX5_use_206 : decode cX5_use 206 = .ok (.iload_n 2, 1) := by decide +kernel
theorem dX5_use_207 : decode cX5_use 207 = .ok (.invokevirtual 173, 3) := by decide +kernel
theorem dX5_use_210 : decode cX5_use 210 = .ok (.goto 92, 3) := by decide +kernel
theorem dX5_use_213 : decode cX5_use 213 = .ok (.aload_n 0, 1) := by decide +kernel
theorem dX5_use_214 : decode cX5_use 214 = .ok (.getfield 9, 3) := by decide +kernel
theorem dX5_use_217 : decode cX5_use 217 = .ok (.bipush 8, 2) := by decide +kernel
theorem dX5_use_219 : decode cX5_use 219 = .ok (.iand, 1) := by decide +kernel
theorem dX5_use_220 : decode cX5_use 220 = .ok (.ifCond .eq 11, 3) := by decide +kernel
theorem dX5_use_223 : decode cX5_use 223 = .ok (.aload_n 0, 1) := by decide +kernel
theorem dX5_use_224 : decode cX5_use 224 = .ok (.iload_n 2, 1) := by decide +kernel
theorem dX5_use_225 : decode cX5_use 225 = .ok (.invokevirtual 176, 3) := by decide +kernel
theorem dX5_use_228 : decode cX5_use 228 = .ok (.goto 74, 3) := by decide +kernel
theorem dX5_use_231 : decode cX5_use 231 = .ok (.aload_n 0, 1) := by decide +kernel
theorem dX5_use_232 : decode cX5_use 232 = .ok (.sipush 255, 3) := by decide +kernel
theorem dX5_use_235 : decode cX5_use 235 = .ok (.iload_n 2, 1) := by decide +kernel
theorem dX5_use_236 : decode cX5_use 236 = .ok (.isub, 1) := by decide +kernel
theorem dX5_use_237 : decode cX5_use 237 = .ok (.invokevirtual 173, 3) := by decide +kernel
theorem dX5_use_240 : decode cX5_use 240 = .ok (.goto 62, 3) := by decide +kernel
theorem dX5_use_243 : decode cX5_use 243 = .ok (.aload_n 0, 1) := by decide +kernel
theorem dX5_use_244 : decode cX5_use 244 = .ok (.iconst 2, 1) := by decide +kernel
theorem dX5_use_245 : decode cX5_use 245 = .ok (.aload_n 0, 1) := by decide +kernel
theorem dX5_use_246 : decode cX5_use 246 = .ok (.getfield 161, 3) := by decide +kernel
theorem dX5_use_249 : decode cX5_use 249 = .ok (.iload_n 2, 1) := by decide +kernel
theorem dX5_use_250 : decode cX5_use 250 = .ok (.iand, 1) := by decide +kernel
theorem dX5_use_251 : decode cX5_use 251 = .ok (.ifCond .ne 7, 3) := by decide +kernel
theorem dX5_use_254 : decode cX5_use 254 = .ok (.iconst 1, 1) := by decide +kernel
theorem dX5_use_255 : decode cX5_use 255 = .ok (.goto 4, 3) := by decide +kernel
theorem dX5_use_258 : decode cX5_use 258 = .ok (.iconst 0, 1) := by decide +kernel
theorem dX5_use_259 : decode cX5_use 259 = .ok (.invokevirtual 179, 3) := by decide +kernel
theorem dX5_use_262 : decode cX5_use 262 = .ok (.aload_n 0, 1) := by decide +kernel
theorem dX5_use_263 : decode cX5_use 263 = .ok (.aload_n 0, 1) := by decide +kernel
theorem dX5_use_264 : decode cX5_use 264 = .ok (.getfield 9, 3) := by decide +kernel
theorem dX5_use_267 : decode cX5_use 267 = .ok (.sipush (-193), 3) := by decide +kernel
theorem dX5_use_270 : decode cX5_use 270 = .ok (.iand, 1) := by decide +kernel
theorem dX5_use_271 : decode cX5_use 271 = .ok (.iload_n 2, 1) := by decide +kernel
theorem dX5_use_272 : decode cX5_use 272 = .ok (.sipush 192, 3) := by decide +kernel
theorem dX5_use_275 : decode cX5_use 275 = .ok (.iand, 1) := by decide +kernel
theorem dX5_use_276 : decode cX5_use 276 = .ok (.ior, 1) := by decide +kernel
theorem dX5_use_277 : decode cX5_use 277 = .ok (.putfield 9, 3) := by decide +kernel
theorem dX5_use_280 : decode cX5_use 280 = .ok (.goto 22, 3) := by decide +kernel
theorem dX5_use_283 : decode cX5_use 283 = .ok (.aload_n 0, 1) := by decide +kernel
theorem dX5_use_284 : decode cX5_use 284 = .ok (.iconst 2, 1) := by decide +kernel
theorem dX5_use_285 : decode cX5_use 285 = .ok (.aload_n 0, 1) := by decide +kernel
theorem dX5_use_286 : decode cX5_use 286 = .ok (.getfield 161, 3) := by decide +kernel
theorem dX5_use_289 : decode cX5_use 289 = .ok (.iload_n 2, 1) := by decide +kernel
theorem dX5_use_290 : decode cX5_use 290 = .ok (.iand, 1) := by decide +kernel
theorem dX5_use_291 : decode cX5_use 291 = .ok (.ifCond .ne 7, 3) := by decide +kernel
theorem dX5_use_294 : decode cX5_use 294 = .ok (.iconst 1, 1) := by decide +kernel
theorem dX5_use_295 : decode cX5_use 295 = .ok (.goto 4, 3) := by decide +kernel
theorem dX5_use_298 : decode cX5_use 298 = .ok (.iconst 0, 1) := by decide +kernel
theorem dX5_use_299 : decode cX5_use 299 = .ok (.invokevirtual 179, 3) := by decide +kernel
theorem dX5_use_302 : decode cX5_use 302 = .ok (.return_, 1) := by decide +kernel
theorem dX5_add_0 : decode cX5_add 0 = .ok (.aload_n 0, 1) := by decide +kernel
theorem dX5_add_1 : decode cX5_add 1 = .ok (.getfield 161, 3) := by decide +kernel
theorem dX5_add_4 : decode cX5_add 4 = .ok (.iload_n 1, 1) := by decide +kernel
theorem dX5_add_5 : decode cX5_add 5 = .ok (.iadd, 1) := by decide +kernel
theorem dX5_add_6 : decode cX5_add 6 = .ok (.aload_n 0, 1) := by decide +kernel
theorem dX5_add_7 : decode cX5_add 7 = .ok (.getfield 9, 3) := by decide +kernel
theorem dX5_add_10 : decode cX5_add 10 = .ok (.iconst 1, 1) := by decide +kernel
theorem dX5_add_11 : decode cX5_add 11 = .ok (.iand, 1) := by decide +kernel
theorem dX5_add_12 : decode cX5_add 12 = .ok (.iadd, 1) := by decide +kernel
theorem dX5_add_13 : decode cX5_add 13 = .ok (.istore_n 2, 1) := by decide +kernel
theorem dX5_add_14 : decode cX5_add 14 = .ok (.aload_n 0, 1) := by decide +kernel
theorem dX5_add_15 : decode cX5_add 15 = .ok (.bipush 64, 2) := by decide +kernel
theorem dX5_add_17 : decode cX5_add 17 = .ok (.aload_n 0, 1) := by decide +kernel
theorem dX5_add_18 : decode cX5_add 18 = .ok (.iload_n 1, 1) := by decide +kernel
theorem dX5_add_19 : decode cX5_add 19 = .ok (.iload_n 2, 1) := by decide +kernel
theorem dX5_add_20 : decode cX5_add 20 = .ok (.invokevirtual 183, 3) := by decide +kernel
theorem dX5_add_23 : decode cX5_add 23 = .ok (.invokevirtual 179, 3) := by decide +kernel
theorem dX5_add_26 : decode cX5_add 26 = .ok (.aload_n 0, 1) := by decide +kernel
theorem dX5_add_27 : decode cX5_add 27 = .ok (.iconst 1, 1) := by decide +kernel
theorem dX5_add_28 : decode cX5_add 28 = .ok (.iload_n 2, 1) := by decide +kernel
theorem dX5_add_29 : decode cX5_add 29 = .ok (.sipush 255, 3) := by decide +kernel
theorem dX5_add_32 : decode cX5_add 32 = .ok (.if_icmp .le 7, 3) := by decide +kernel
theorem dX5_add_35 : decode cX5_add 35 = .ok (.iconst 1, 1) := by decide +kernel
theorem dX5_add_36 : decode cX5_add 36 = .ok (.goto 4, 3) := by decide +kernel
theorem dX5_add_39 : decode cX5_add 39 = .ok (.iconst 0, 1) := by decide +kernel
theorem dX5_add_40 : decode cX5_add 40 = .ok (.invokevirtual 179, 3) := by decide +kernel
theorem dX5_add_43 : decode cX5_add 43 = .ok (.aload_n 0, 1) := by decide +kernel
theorem dX5_add_44 : decode cX5_add 44 = .ok (.aload_n 0, 1) := by decide +kernel
theorem dX5_add_45 : decode cX5_add 45 = .ok (.iload_n 2, 1) := by decide +kernel
theorem dX5_add_46 : decode cX5_add 46 = .ok (.invokevirtual 164, 3) := by decide +kernel
theorem dX5_add_49 : decode cX5_add 49 = .ok (.putfield 161, 3) := by decide +kernel
theorem dX5_add_52 : decode cX5_add 52 = .ok (.return_, 1) := by decide +kernel
theorem dX5_addDecimal_0 : decode cX5_addDecimal 0 = .ok (.aload_n 0, 1) := by decide +kernel
theorem dX5_addDecimal_1 : decode cX5_addDecimal 1 = .ok (.getfield 161, 3) := by decide +kernel
theorem dX5_addDecimal_4 : decode cX5_addDecimal 4 = .ok (.bipush 15, 2) := by decide +kernel
theorem dX5_addDecimal_6 : decode cX5_addDecimal 6 = .ok (.iand, 1) := by decide +kernel
theorem dX5_addDecimal_7 : decode cX5_addDecimal 7 = .ok (.iload_n 1, 1) := by decide +kernel
theorem dX5_addDecimal_8 : decode cX5_addDecimal 8 = .ok (.bipush 15, 2) := by decide +kernel
theorem dX5_addDecimal_10 : decode cX5_addDecimal 10 = .ok (.iand, 1) := by decide +kernel
theorem dX5_addDecimal_11 : decode cX5_addDecimal 11 = .ok (.iadd, 1) := by decide +kernel
theorem dX5_addDecimal_12 : decode cX5_addDecimal 12 = .ok (.aload_n 0, 1) := by decide +kernel
theorem dX5_addDecimal_13 : decode cX5_addDecimal 13 = .ok (.getfield 9, 3) := by decide +kernel
theorem dX5_addDecimal_16 : decode cX5_addDecimal 16 = .ok (.iconst 1, 1) := by decide +kernel
theorem dX5_addDecimal_17 : decode cX5_addDecimal 17 = .ok (.iand, 1) := by decide +kernel
theorem dX5_addDecimal_18 : decode cX5_addDecimal 18 = .ok (.iadd, 1) := by decide +kernel
theorem dX5_addDecimal_19 : decode cX5_addDecimal 19 = .ok (.istore_n 2, 1) := by decide +kernel
theorem dX5_addDecimal_20 : decode cX5_addDecimal 20 = .ok (.iload_n 2, 1) := by decide +kernel
theorem dX5_addDecimal_21 : decode cX5_addDecimal 21 = .ok (.bipush 9, 2) := by decide +kernel
theorem dX5_addDecimal_23 : decode cX5_addDecimal 23 = .ok (.if_icmp .le 14, 3) := by decide +kernel
theorem dX5_addDecimal_26 : decode cX5_addDecimal 26 = .ok (.iload_n 2, 1) := by decide +kernel
theorem dX5_addDecimal_27 : decode cX5_addDecimal 27 = .ok (.bipush 6, 2) := by decide +kernel
theorem dX5_addDecimal_29 : decode cX5_addDecimal 29 = .ok (.iadd, 1) := by decide +kernel
theorem dX5_addDecimal_30 : decode cX5_addDecimal 30 = .ok (.bipush 15, 2) := by decide +kernel
theorem dX5_addDecimal_32 : decode cX5_addDecimal 32 = .ok (.iand, 1) := by decide +kernel
theorem dX5_addDecimal_33 : decode cX5_addDecimal 33 = .ok (.bipush 16, 2) := by decide +kernel
theorem dX5_addDecimal_35 : decode cX5_addDecimal 35 = .ok (.iadd, 1) := by decide +kernel
theorem dX5_addDecimal_36 : decode cX5_addDecimal 36 = .ok (.istore_n 2, 1) := by decide +kernel
theorem dX5_addDecimal_37 : decode cX5_addDecimal 37 = .ok (.aload_n 0, 1) := by decide +kernel
theorem dX5_addDecimal_38 : decode cX5_addDecimal 38 = .ok (.getfield 161, 3) := by decide +kernel
theorem dX5_addDecimal_41 : decode cX5_addDecimal 41 = .ok (.sipush 240, 3) := by decide +kernel
theorem dX5_addDecimal_44 : decode cX5_addDecimal 44 = .ok (.iand, 1) := by decide +kernel
theorem dX5_addDecimal_45 : decode cX5_addDecimal 45 = .ok (.iload_n 1, 1) := by decide +kernel
theorem dX5_addDecimal_46 : decode cX5_addDecimal 46 = .ok (.sipush 240, 3) := by decide +kernel
theorem dX5_addDecimal_49 : decode cX5_addDecimal 49 = .ok (.iand, 1) := by decide +kernel
theorem dX5_addDecimal_50 : decode cX5_addDecimal 50 = .ok (.iadd, 1) := by decide +kernel
theorem dX5_addDecimal_51 : decode cX5_addDecimal 51 = .ok (.iload_n 2, 1) := by decide +kernel
theorem dX5_addDecimal_52 : decode cX5_addDecimal 52 = .ok (.iadd, 1) := by decide +kernel
theorem dX5_addDecimal_53 : decode cX5_addDecimal 53 = .ok (.istore_n 3, 1) := by decide +kernel
theorem dX5_addDecimal_54 : decode cX5_addDecimal 54 = .ok (.aload_n 0, 1) := by decide +kernel
theorem dX5_addDecimal_55 : decode cX5_addDecimal 55 = .ok (.bipush 64, 2) := by decide +kernel
theorem dX5_addDecimal_57 : decode cX5_addDecimal 57 = .ok (.aload_n 0, 1) := by decide +kernel
theorem dX5_addDecimal_58 : decode cX5_addDecimal 58 = .ok (.iload_n 1, 1) := by decide +kernel
theorem dX5_addDecimal_59 : decode cX5_addDecimal 59 = .ok (.iload_n 3, 1) := by decide +kernel
theorem dX5_addDecimal_60 : decode cX5_addDecimal 60 = .ok (.invokevirtual 183, 3) := by decide +kernel
theorem dX5_addDecimal_63 : decode cX5_addDecimal 63 = .ok (.invokevirtual 179, 3) := by decide +kernel
theorem dX5_addDecimal_66 : decode cX5_addDecimal 66 = .ok (.iload_n 3, 1) := by decide +kernel
theorem dX5_addDecimal_67 : decode cX5_addDecimal 67 = .ok (.sipush 159, 3) := by decide +kernel
theorem dX5_addDecimal_70 : decode cX5_addDecimal 70 = .ok (.if_icmp .le 6, 3) := by decide +kernel
theorem dX5_addDecimal_73 : decode cX5_addDecimal 73 = .ok (.iinc 3 96, 3) := by decide +kernel
theorem dX5_addDecimal_76 : decode cX5_addDecimal 76 = .ok (.aload_n 0, 1) := by decide +kernel
theorem dX5_addDecimal_77 : decode cX5_addDecimal 77 = .ok (.iconst 1, 1) := by decide +kernel
theorem dX5_addDecimal_78 : decode cX5_addDecimal 78 = .ok (.iload_n 3, 1) := by decide +kernel
theorem dX5_addDecimal_79 : decode cX5_addDecimal 79 = .ok (.sipush 255, 3) := by decide +kernel
theorem dX5_addDecimal_82 : decode cX5_addDecimal 82 = .ok (.if_icmp .le 7, 3) := by decide +kernel
theorem dX5_addDecimal_85 : decode cX5_addDecimal 85 = .ok (.iconst 1, 1) := by decide +kernel
theorem dX5_addDecimal_86 : decode cX5_addDecimal 86 = .ok (.goto 4, 3) := by decide +kernel
theorem dX5_addDecimal_89 : decode cX5_addDecimal 89 = .ok (.iconst 0, 1) := by decide +kernel
theorem dX5_addDecimal_90 : decode cX5_addDecimal 90 = .ok (.invokevirtual 179, 3) := by decide +kernel
theorem dX5_addDecimal_93 : decode cX5_addDecimal 93 = .ok (.aload_n 0, 1) := by decide +kernel
theorem dX5_addDecimal_94 : decode cX5_addDecimal 94 = .ok (.aload_n 0, 1) := by decide +kernel
theorem dX5_addDecimal_95 : decode cX5_addDecimal 95 = .ok (.iload_n 3, 1) := by decide +kernel
theorem dX5_addDecimal_96 : decode cX5_addDecimal 96 = .ok (.invokevirtual 164, 3) := by decide +kernel
theorem dX5_addDecimal_99 : decode cX5_addDecimal 99 = .ok (.putfield 161, 3) := by decide +kernel
theorem dX5_addDecimal_102 : decode cX5_addDecimal 102 = .ok (.aload_n 0, 1) := by decide +kernel
theorem dX5_addDecimal_103 : decode cX5_addDecimal 103 = .ok (.dup, 1) := by decide +kernel
theorem dX5_addDecimal_104 : decode cX5_addDecimal 104 = .ok (.getfield 57, 3) := by decide +kernel
theorem dX5_addDecimal_107 : decode cX5_addDecimal 107 = .ok (.iconst 1, 1) := by decide +kernel
theorem dX5_addDecimal_108 : decode cX5_addDecimal 108 = .ok (.iadd, 1) := by decide +kernel
theorem dX5_addDecimal_109 : decode cX5_addDecimal 109 = .ok (.putfield 57, 3) := by decide +kernel
theorem dX5_addDecimal_112 : decode cX5_addDecimal 112 = .ok (.return_, 1) := by decide +kernel
theorem dX5_subtractDecimal_0 : decode cX5_subtractDecimal 0 = .ok (.iconst 1, 1) := by decide +kernel
theorem dX5_subtractDecimal_1 : decode cX5_subtractDecimal 1 = .ok (.aload_n 0, 1) := by decide +kernel
theorem dX5_subtractDecimal_2 : decode cX5_subtractDecimal 2 = .ok (.getfield 9, 3) := by decide +kernel
theorem dX5_subtractDecimal_5 : decode cX5_subtractDecimal 5 = .ok (.iconst 1, 1) := by decide +kernel
theorem dX5_subtractDecimal_6 : decode cX5_subtractDecimal 6 = .ok (.iand, 1) := by decide +kernel
theorem dX5_subtractDecimal_7 : decode cX5_subtractDecimal 7 = .ok (.isub, 1) := by decide +kernel
theorem dX5_subtractDecimal_8 : decode cX5_subtractDecimal 8 = .ok (.istore_n 2, 1) := by decide +kernel
theorem dX5_subtractDecimal_9 : decode cX5_subtractDecimal 9 = .ok (.aload_n 0, 1) := by decide +kernel
theorem dX5_subtractDecimal_10 : decode cX5_subtractDecimal 10 = .ok (.getfield 161, 3) := by decide +kernel
theorem dX5_subtractDecimal_13 : decode cX5_subtractDecimal 13 = .ok (.bipush 15, 2) := by decide +kernel
theorem dX5_subtractDecimal_15 : decode cX5_subtractDecimal 15 = .ok (.iand, 1) := by decide +kernel
theorem dX5_subtractDecimal_16 : decode cX5_subtractDecimal 16 = .ok (.iload_n 1, 1) := by decide +kernel
theorem dX5_subtractDecimal_17 : decode cX5_subtractDecimal 17 = .ok (.bipush 15, 2) := by decide +kernel
theorem dX5_subtractDecimal_19 : decode cX5_subtractDecimal 19 = .ok (.iand, 1) := by decide +kernel
theorem dX5_subtractDecimal_20 : decode cX5_subtractDecimal 20 = .ok (.isub, 1) := by decide +kernel
theorem dX5_subtractDecimal_21 : decode cX5_subtractDecimal 21 = .ok (.iload_n 2, 1) := by decide +kernel
theorem dX5_subtractDecimal_22 : decode cX5_subtractDecimal 22 = .ok (.isub, 1) := by decide +kernel
theorem dX5_subtractDecimal_23 : decode cX5_subtractDecimal 23 = .ok (.istore_n 3, 1) := by decide +kernel
theorem dX5_subtractDecimal_24 : decode cX5_subtractDecimal 24 = .ok (.aload_n 0, 1) := by decide +kernel
theorem dX5_subtractDecimal_25 : decode cX5_subtractDecimal 25 = .ok (.getfield 161, 3) := by decide +kernel
theorem dX5_subtractDecimal_28 : decode cX5_subtractDecimal 28 = .ok (.iload_n 1, 1) := by decide +kernel
theorem dX5_subtractDecimal_29 : decode cX5_subtractDecimal 29 = .ok (.isub, 1) := by decide +kernel
theorem dX5_subtractDecimal_30 : decode cX5_subtractDecimal 30 = .ok (.iload_n 2, 1) := by decide +kernel
theorem dX5_subtractDecimal_31 : decode cX5_subtractDecimal 31 = .ok (.isub, 1) := by decide +kernel
theorem dX5_subtractDecimal_32 : decode cX5_subtractDecimal 32 = .ok (.istore 4, 2) := by decide +kernel
theorem dX5_subtractDecimal_34 : decode cX5_subtractDecimal 34 = .ok (.iload 4, 2) := by decide +kernel
theorem dX5_subtractDecimal_36 : decode cX5_subtractDecimal 36 = .ok (.ifCond .ge 6, 3) := by decide +kernel
theorem dX5_subtractDecimal_39 : decode cX5_subtractDecimal 39 = .ok (.iinc 4 (-96), 3) := by decide +kernel
theorem dX5_subtractDecimal_42 : decode cX5_subtractDecimal 42 = .ok (.iload_n 3, 1) := by decide +kernel
theorem dX5_subtractDecimal_43 : decode cX5_subtractDecimal 43 = .ok (.ifCond .ge 6, 3) := by decide +kernel
theorem dX5_subtractDecimal_46 : decode cX5_subtractDecimal 46 = .ok (.iinc 4 (-6), 3) := by decide +kernel
theorem dX5_subtractDecimal_49 : decode cX5_subtractDecimal 49 = .ok (.aload_n 0, 1) := by decide +kernel
theorem dX5_subtractDecimal_50 : decode cX5_subtractDecimal 50 = .ok (.sipush 255, 3) := by decide +kernel
theorem dX5_subtractDecimal_53 : decode cX5_subtractDecimal 53 = .ok (.iload_n 1, 1) := by decide +kernel
theorem dX5_subtractDecimal_54 : decode cX5_subtractDecimal 54 = .ok (.isub, 1) := by decide +kernel
theorem dX5_subtractDecimal_55 : decode cX5_subtractDecimal 55 = .ok (.invokevirtual 173, 3) := by decide +kernel
theorem dX5_subtractDecimal_58 : decode cX5_subtractDecimal 58 = .ok (.aload_n 0, 1) := by decide +kernel
theorem dX5_subtractDecimal_59 : decode cX5_subtractDecimal 59 = .ok (.aload_n 0, 1) := by decide +kernel
theorem dX5_subtractDecimal_60 : decode cX5_subtractDecimal 60 = .ok (.iload 4, 2) := by decide +kernel
theorem dX5_subtractDecimal_62 : decode cX5_subtractDecimal 62 = .ok (.invokevirtual 164, 3) := by decide +kernel
theorem dX5_subtractDecimal_65 : decode cX5_subtractDecimal 65 = .ok (.putfield 161, 3) := by decide +kernel
theorem dX5_subtractDecimal_68 : decode cX5_subtractDecimal 68 = .ok (.aload_n 0, 1) := by decide +kernel
theorem dX5_subtractDecimal_69 : decode cX5_subtractDecimal 69 = .ok (.dup, 1) := by decide +kernel
theorem dX5_subtractDecimal_70 : decode cX5_subtractDecimal 70 = .ok (.getfield 57, 3) := by decide +kernel
theorem dX5_subtractDecimal_73 : decode cX5_subtractDecimal 73 = .ok (.iconst 1, 1) := by decide +kernel
theorem dX5_subtractDecimal_74 : decode cX5_subtractDecimal 74 = .ok (.iadd, 1) := by decide +kernel
theorem dX5_subtractDecimal_75 : decode cX5_subtractDecimal 75 = .ok (.putfield 57, 3) := by decide +kernel
theorem dX5_subtractDecimal_78 : decode cX5_subtractDecimal 78 = .ok (.return_, 1) := by decide +kernel
theorem dX5_changesSign_0 : decode cX5_changesSign 0 = .ok (.aload_n 0, 1) := by decide +kernel
theorem dX5_changesSign_1 : decode cX5_changesSign 1 = .ok (.getfield 161, 3) := by decide +kernel
theorem dX5_changesSign_4 : decode cX5_changesSign 4 = .ok (.iload_n 2, 1) := by decide +kernel
theorem dX5_changesSign_5 : decode cX5_changesSign 5 = .ok (.ixor, 1) := by decide +kernel
theorem dX5_changesSign_6 : decode cX5_changesSign 6 = .ok (.iload_n 1, 1) := by decide +kernel
theorem dX5_changesSign_7 : decode cX5_changesSign 7 = .ok (.iload_n 2, 1) := by decide +kernel
theorem dX5_changesSign_8 : decode cX5_changesSign 8 = .ok (.ixor, 1) := by decide +kernel
theorem dX5_changesSign_9 : decode cX5_changesSign 9 = .ok (.iand, 1) := by decide +kernel
theorem dX5_changesSign_10 : decode cX5_changesSign 10 = .ok (.sipush 128, 3) := by decide +kernel
theorem dX5_changesSign_13 : decode cX5_changesSign 13 = .ok (.iand, 1) := by decide +kernel
theorem dX5_changesSign_14 : decode cX5_changesSign 14 = .ok (.ifCond .eq 7, 3) := by decide +kernel
theorem dX5_changesSign_17 : decode cX5_changesSign 17 = .ok (.iconst 1, 1) := by decide +kernel
theorem dX5_changesSign_18 : decode cX5_changesSign 18 = .ok (.goto 4, 3) := by decide +kernel
theorem dX5_changesSign_21 : decode cX5_changesSign 21 = .ok (.iconst 0, 1) := by decide +kernel
theorem dX5_changesSign_22 : decode cX5_changesSign 22 = .ok (.ireturn, 1) := by decide +kernel
theorem dX5_compare_0 : decode cX5_compare 0 = .ok (.aload_n 0, 1) := by decide +kernel
theorem dX5_compare_1 : decode cX5_compare 1 = .ok (.iconst 1, 1) := by decide +kernel
theorem dX5_compare_2 : decode cX5_compare 2 = .ok (.iload_n 1, 1) := by decide +kernel
theorem dX5_compare_3 : decode cX5_compare 3 = .ok (.iload_n 2, 1) := by decide +kernel
theorem dX5_compare_4 : decode cX5_compare 4 = .ok (.if_icmp .lt 7, 3) := by decide +kernel
theorem dX5_compare_7 : decode cX5_compare 7 = .ok (.iconst 1, 1) := by decide +kernel
theorem dX5_compare_8 : decode cX5_compare 8 = .ok (.goto 4, 3) := by decide +kernel
theorem dX5_compare_11 : decode cX5_compare 11 = .ok (.iconst 0, 1) := by decide +kernel
theorem dX5_compare_12 : decode cX5_compare 12 = .ok (.invokevirtual 179, 3) := by decide +kernel
theorem dX5_compare_15 : decode cX5_compare 15 = .ok (.aload_n 0, 1) := by decide +kernel
theorem dX5_compare_16 : decode cX5_compare 16 = .ok (.iload_n 1, 1) := by decide +kernel
theorem dX5_compare_17 : decode cX5_compare 17 = .ok (.iload_n 2, 1) := by decide +kernel
theorem dX5_compare_18 : decode cX5_compare 18 = .ok (.isub, 1) := by decide +kernel
theorem dX5_compare_19 : decode cX5_compare 19 = .ok (.invokevirtual 164, 3) := by decide +kernel
theorem dX5_compare_22 : decode cX5_compare 22 = .ok (.pop, 1) := by decide +kernel
theorem dX5_compare_23 : decode cX5_compare 23 = .ok (.return_, 1) := by decide +kernel
theorem dX5_stored_0 : decode cX5_stored 0 = .ok (.iload_n 1, 1) := by decide +kernel
theorem dX5_stored_1 : decode cX5_stored 1 = .ok (.tableswitch 48 16 18 #[27, 34, 41], 27) := by decide +kernel
theorem dX5_stored_28 : decode cX5_stored 28 = .ok (.aload_n 0, 1) := by decide +kernel
theorem dX5_stored_29 : decode cX5_stored 29 = .ok (.getfield 161, 3) := by decide +kernel
theorem dX5_stored_32 : decode cX5_stored 32 = .ok (.goto 18, 3) := by decide +kernel
theorem dX5_stored_35 : decode cX5_stored 35 = .ok (.aload_n 0, 1) := by decide +kernel
theorem dX5_stored_36 : decode cX5_stored 36 = .ok (.getfield 149, 3) := by decide +kernel
theorem dX5_stored_39 : decode cX5_stored 39 = .ok (.goto 11, 3) := by decide +kernel
theorem dX5_stored_42 : decode cX5_stored 42 = .ok (.aload_n 0, 1) := by decide +kernel
theorem dX5_stored_43 : decode cX5_stored 43 = .ok (.getfield 152, 3) := by decide +kernel
theorem dX5_stored_46 : decode cX5_stored 46 = .ok (.goto 4, 3) := by decide +kernel
theorem dX5_stored_49 : decode cX5_stored 49 = .ok (.iconst 0, 1) := by decide +kernel
theorem dX5_stored_50 : decode cX5_stored 50 = .ok (.ireturn, 1) := by decide +kernel
theorem dX5_change_0 : decode cX5_change 0 = .ok (.iload_n 3, 1) := by decide +kernel
theorem dX5_change_1 : decode cX5_change 1 = .ok (.iconst 1, 1) := by decide +kernel
theorem dX5_change_2 : decode cX5_change 2 = .ok (.if_icmp .ne 20, 3) := by decide +kernel
theorem dX5_change_5 : decode cX5_change 5 = .ok (.aload_n 0, 1) := by decide +kernel
theorem dX5_change_6 : decode cX5_change 6 = .ok (.aload_n 0, 1) := by decide +kernel
theorem dX5_change_7 : decode cX5_change 7 = .ok (.iload_n 1, 1) := by decide +kernel
theorem dX5_change_8 : decode cX5_change 8 = .ok (.iload_n 2, 1) := by decide +kernel
theorem dX5_change_9 : decode cX5_change 9 = .ok (.aload_n 0, 1) := by decide +kernel
theorem dX5_change_10 : decode cX5_change 10 = .ok (.getfield 161, 3) := by decide +kernel
theorem dX5_change_13 : decode cX5_change 13 = .ok (.invokevirtual 187, 3) := by decide +kernel
theorem dX5_change_16 : decode cX5_change 16 = .ok (.putfield 161, 3) := by decide +kernel
theorem dX5_change_19 : decode cX5_change 19 = .ok (.goto 27, 3) := by decide +kernel
theorem dX5_change_22 : decode cX5_change 22 = .ok (.aload_n 0, 1) := by decide +kernel
theorem dX5_change_23 : decode cX5_change 23 = .ok (.getfield 20, 3) := by decide +kernel
theorem dX5_change_26 : decode cX5_change 26 = .ok (.iload 4, 2) := by decide +kernel
theorem dX5_change_28 : decode cX5_change 28 = .ok (.aload_n 0, 1) := by decide +kernel
theorem dX5_change_29 : decode cX5_change 29 = .ok (.iload_n 1, 1) := by decide +kernel
theorem dX5_change_30 : decode cX5_change 30 = .ok (.iload_n 2, 1) := by decide +kernel
theorem dX5_change_31 : decode cX5_change 31 = .ok (.aload_n 0, 1) := by decide +kernel
theorem dX5_change_32 : decode cX5_change 32 = .ok (.getfield 20, 3) := by decide +kernel
theorem dX5_change_35 : decode cX5_change 35 = .ok (.iload 4, 2) := by decide +kernel
theorem dX5_change_37 : decode cX5_change 37 = .ok (.invokevirtual 86, 3) := by decide +kernel
theorem dX5_change_40 : decode cX5_change 40 = .ok (.invokevirtual 187, 3) := by decide +kernel
theorem dX5_change_43 : decode cX5_change 43 = .ok (.invokevirtual 125, 3) := by decide +kernel
theorem dX5_change_46 : decode cX5_change 46 = .ok (.return_, 1) := by decide +kernel
theorem dX5_changed_0 : decode cX5_changed 0 = .ok (.iload_n 1, 1) := by decide +kernel
theorem dX5_changed_1 : decode cX5_changed 1 = .ok (.tableswitch 192 32 40 #[51, 63, 82, 93, 114, 122, 130, 156, 184], 51) := by decide +kernel
theorem dX5_changed_52 : decode cX5_changed 52 = .ok (.aload_n 0, 1) := by decide +kernel
theorem dX5_changed_53 : decode cX5_changed 53 = .ok (.iload_n 3, 1) := by decide +kernel
theorem dX5_changed_54 : decode cX5_changed 54 = .ok (.iconst 1, 1) := by decide +kernel
theorem dX5_changed_55 : decode cX5_changed 55 = .ok (.ishl, 1) := by decide +kernel
theorem dX5_changed_56 : decode cX5_changed 56 = .ok (.iload_n 3, 1) := by decide +kernel
theorem dX5_changed_57 : decode cX5_changed 57 = .ok (.bipush 7, 2) := by decide +kernel
theorem dX5_changed_59 : decode cX5_changed 59 = .ok (.ishr, 1) := by decide +kernel
theorem dX5_changed_60 : decode cX5_changed 60 = .ok (.invokevirtual 191, 3) := by decide +kernel
theorem dX5_changed_63 : decode cX5_changed 63 = .ok (.ireturn, 1) := by decide +kernel
theorem dX5_changed_64 : decode cX5_changed 64 = .ok (.aload_n 0, 1) := by decide +kernel
theorem dX5_changed_65 : decode cX5_changed 65 = .ok (.iload_n 3, 1) := by decide +kernel
theorem dX5_changed_66 : decode cX5_changed 66 = .ok (.iconst 1, 1) := by decide +kernel
theorem dX5_changed_67 : decode cX5_changed 67 = .ok (.ishl, 1) := by decide +kernel
theorem dX5_changed_68 : decode cX5_changed 68 = .ok (.aload_n 0, 1) := by decide +kernel
theorem dX5_changed_69 : decode cX5_changed 69 = .ok (.getfield 9, 3) := by decide +kernel
theorem dX5_changed_72 : decode cX5_changed 72 = .ok (.iconst 1, 1) := by decide +kernel
theorem dX5_changed_73 : decode cX5_changed 73 = .ok (.iand, 1) := by decide +kernel
theorem dX5_changed_74 : decode cX5_changed 74 = .ok (.ior, 1) := by decide +kernel
theorem dX5_changed_75 : decode cX5_changed 75 = .ok (.iload_n 3, 1) := by decide +kernel
theorem dX5_changed_76 : decode cX5_changed 76 = .ok (.bipush 7, 2) := by decide +kernel
theorem dX5_changed_78 : decode cX5_changed 78 = .ok (.ishr, 1) := by decide +kernel
theorem dX5_changed_79 : decode cX5_changed 79 = .ok (.invokevirtual 191, 3) := by decide +kernel
theorem dX5_changed_82 : decode cX5_changed 82 = .ok (.ireturn, 1) := by decide +kernel
theorem dX5_changed_83 : decode cX5_changed 83 = .ok (.aload_n 0, 1) := by decide +kernel
theorem dX5_changed_84 : decode cX5_changed 84 = .ok (.iload_n 3, 1) := by decide +kernel
theorem dX5_changed_85 : decode cX5_changed 85 = .ok (.iconst 1, 1) := by decide +kernel
theorem dX5_changed_86 : decode cX5_changed 86 = .ok (.ishr, 1) := by decide +kernel
theorem dX5_changed_87 : decode cX5_changed 87 = .ok (.iload_n 3, 1) := by decide +kernel
theorem dX5_changed_88 : decode cX5_changed 88 = .ok (.iconst 1, 1) := by decide +kernel
theorem dX5_changed_89 : decode cX5_changed 89 = .ok (.iand, 1) := by decide +kernel
theorem dX5_changed_90 : decode cX5_changed 90 = .ok (.invokevirtual 191, 3) := by decide +kernel
theorem dX5_changed_93 : decode cX5_changed 93 = .ok (.ireturn, 1) := by decide +kernel
theorem dX5_changed_94 : decode cX5_changed 94 = .ok (.aload_n 0, 1) := by decide +kernel
theorem dX5_changed_95 : decode cX5_changed 95 = .ok (.iload_n 3, 1) := by decide +kernel
theorem dX5_changed_96 : decode cX5_changed 96 = .ok (.iconst 1, 1) := by decide +kernel
theorem dX5_changed_97 : decode cX5_changed 97 = .ok (.ishr, 1) := by decide +kernel
theorem dX5_changed_98 : decode cX5_changed 98 = .ok (.aload_n 0, 1) := by decide +kernel
theorem dX5_changed_99 : decode cX5_changed 99 = .ok (.getfield 9, 3) := by decide +kernel
theorem dX5_changed_102 : decode cX5_changed 102 = .ok (.iconst 1, 1) := by decide +kernel
theorem dX5_changed_103 : decode cX5_changed 103 = .ok (.iand, 1) := by decide +kernel
theorem dX5_changed_104 : decode cX5_changed 104 = .ok (.bipush 7, 2) := by decide +kernel
theorem dX5_changed_106 : decode cX5_changed 106 = .ok (.ishl, 1) := by decide +kernel
theorem dX5_changed_107 : decode cX5_changed 107 = .ok (.ior, 1) := by decide +kernel
theorem dX5_changed_108 : decode cX5_changed 108 = .ok (.iload_n 3, 1) := by decide +kernel
theorem dX5_changed_109 : decode cX5_changed 109 = .ok (.iconst 1, 1) := by decide +kernel
theorem dX5_changed_110 : decode cX5_changed 110 = .ok (.iand, 1) := by decide +kernel
theorem dX5_changed_111 : decode cX5_changed 111 = .ok (.invokevirtual 191, 3) := by decide +kernel
theorem dX5_changed_114 : decode cX5_changed 114 = .ok (.ireturn, 1) := by decide +kernel
theorem dX5_changed_115 : decode cX5_changed 115 = .ok (.aload_n 0, 1) := by decide +kernel
theorem dX5_changed_116 : decode cX5_changed 116 = .ok (.iload_n 3, 1) := by decide +kernel
theorem dX5_changed_117 : decode cX5_changed 117 = .ok (.iconst 1, 1) := by decide +kernel
theorem dX5_changed_118 : decode cX5_changed 118 = .ok (.iadd, 1) := by decide +kernel
theorem dX5_changed_119 : decode cX5_changed 119 = .ok (.invokevirtual 164, 3) := by decide +kernel
theorem dX5_changed_122 : decode cX5_changed 122 = .ok (.ireturn, 1) := by decide +kernel
theorem dX5_changed_123 : decode cX5_changed 123 = .ok (.aload_n 0, 1) := by decide +kernel
theorem dX5_changed_124 : decode cX5_changed 124 = .ok (.iload_n 3, 1) := by decide +kernel
theorem dX5_changed_125 : decode cX5_changed 125 = .ok (.iconst 1, 1) := by decide +kernel
theorem dX5_changed_126 : decode cX5_changed 126 = .ok (.isub, 1) := by decide +kernel
theorem dX5_changed_127 : decode cX5_changed 127 = .ok (.invokevirtual 164, 3) := by decide +kernel
theorem dX5_changed_130 : decode cX5_changed 130 = .ok (.ireturn, 1) := by decide +kernel
theorem dX5_changed_131 : decode cX5_changed 131 = .ok (.aload_n 0, 1) := by decide +kernel
theorem dX5_changed_132 : decode cX5_changed 132 = .ok (.iconst 2, 1) := by decide +kernel
theorem dX5_changed_133 : decode cX5_changed 133 = .ok (.aload_n 0, 1) := by decide +kernel
theorem dX5_changed_134 : decode cX5_changed 134 = .ok (.getfield 161, 3) := by decide +kernel
theorem dX5_changed_137 : decode cX5_changed 137 = .ok (.iload_n 3, 1) := by decide +kernel
theorem dX5_changed_138 : decode cX5_changed 138 = .ok (.iand, 1) := by decide +kernel
theorem dX5_changed_139 : decode cX5_changed 139 = .ok (.ifCond .ne 7, 3) := by decide +kernel
theorem dX5_changed_142 : decode cX5_changed 142 = .ok (.iconst 1, 1) := by decide +kernel
theorem dX5_changed_143 : decode cX5_changed 143 = .ok (.goto 4, 3) := by decide +kernel
theorem dX5_changed_146 : decode cX5_changed 146 = .ok (.iconst 0, 1) := by decide +kernel
theorem dX5_changed_147 : decode cX5_changed 147 = .ok (.invokevirtual 179, 3) := by decide +kernel
theorem dX5_changed_150 : decode cX5_changed 150 = .ok (.iload_n 3, 1) := by decide +kernel
theorem dX5_changed_151 : decode cX5_changed 151 = .ok (.aload_n 0, 1) := by decide +kernel
theorem dX5_changed_152 : decode cX5_changed 152 = .ok (.getfield 161, 3) := by decide +kernel
theorem dX5_changed_155 : decode cX5_changed 155 = .ok (.ior, 1) := by decide +kernel
theorem dX5_changed_156 : decode cX5_changed 156 = .ok (.ireturn, 1) := by decide +kernel
theorem dX5_changed_157 : decode cX5_changed 157 = .ok (.aload_n 0, 1) := by decide +kernel
theorem dX5_changed_158 : decode cX5_changed 158 = .ok (.iconst 2, 1) := by decide +kernel
theorem dX5_changed_159 : decode cX5_changed 159 = .ok (.aload_n 0, 1) := by decide +kernel
theorem dX5_changed_160 : decode cX5_changed 160 = .ok (.getfield 161, 3) := by decide +kernel
theorem dX5_changed_163 : decode cX5_changed 163 = .ok (.iload_n 3, 1) := by decide +kernel
theorem dX5_changed_164 : decode cX5_changed 164 = .ok (.iand, 1) := by decide +kernel
theorem dX5_changed_165 : decode cX5_changed 165 = .ok (.ifCond .ne 7, 3) := by decide +kernel
theorem dX5_changed_168 : decode cX5_changed 168 = .ok (.iconst 1, 1) := by decide +kernel
theorem dX5_changed_169 : decode cX5_changed 169 = .ok (.goto 4, 3) := by decide +kernel
theorem dX5_changed_172 : decode cX5_changed 172 = .ok (.iconst 0, 1) := by decide +kernel
theorem dX5_changed_173 : decode cX5_changed 173 = .ok (.invokevirtual 179, 3) := by decide +kernel
theorem dX5_changed_176 : decode cX5_changed 176 = .ok (.iload_n 3, 1) := by decide +kernel
theorem dX5_changed_177 : decode cX5_changed 177 = .ok (.aload_n 0, 1) := by decide +kernel
theorem dX5_changed_178 : decode cX5_changed 178 = .ok (.getfield 161, 3) := by decide +kernel
theorem dX5_changed_181 : decode cX5_changed 181 = .ok (.iconst (-1), 1) := by decide +kernel
theorem dX5_changed_182 : decode cX5_changed 182 = .ok (.ixor, 1) := by decide +kernel
theorem dX5_changed_183 : decode cX5_changed 183 = .ok (.iand, 1) := by decide +kernel
theorem dX5_changed_184 : decode cX5_changed 184 = .ok (.ireturn, 1) := by decide +kernel
theorem dX5_changed_185 : decode cX5_changed 185 = .ok (.iload_n 3, 1) := by decide +kernel
theorem dX5_changed_186 : decode cX5_changed 186 = .ok (.iconst 1, 1) := by decide +kernel
theorem dX5_changed_187 : decode cX5_changed 187 = .ok (.iload_n 2, 1) := by decide +kernel
theorem dX5_changed_188 : decode cX5_changed 188 = .ok (.ishl, 1) := by decide +kernel
theorem dX5_changed_189 : decode cX5_changed 189 = .ok (.iconst (-1), 1) := by decide +kernel
theorem dX5_changed_190 : decode cX5_changed 190 = .ok (.ixor, 1) := by decide +kernel
theorem dX5_changed_191 : decode cX5_changed 191 = .ok (.iand, 1) := by decide +kernel
theorem dX5_changed_192 : decode cX5_changed 192 = .ok (.ireturn, 1) := by decide +kernel
theorem dX5_changed_193 : decode cX5_changed 193 = .ok (.iload_n 3, 1) := by decide +kernel
theorem dX5_changed_194 : decode cX5_changed 194 = .ok (.iconst 1, 1) := by decide +kernel
theorem dX5_changed_195 : decode cX5_changed 195 = .ok (.iload_n 2, 1) := by decide +kernel
theorem dX5_changed_196 : decode cX5_changed 196 = .ok (.ishl, 1) := by decide +kernel
theorem dX5_changed_197 : decode cX5_changed 197 = .ok (.ior, 1) := by decide +kernel
theorem dX5_changed_198 : decode cX5_changed 198 = .ok (.ireturn, 1) := by decide +kernel
theorem dX5_shifted_0 : decode cX5_shifted 0 = .ok (.aload_n 0, 1) := by decide +kernel
theorem dX5_shifted_1 : decode cX5_shifted 1 = .ok (.iconst 1, 1) := by decide +kernel
theorem dX5_shifted_2 : decode cX5_shifted 2 = .ok (.iload_n 2, 1) := by decide +kernel
theorem dX5_shifted_3 : decode cX5_shifted 3 = .ok (.ifCond .eq 7, 3) := by decide +kernel
theorem dX5_shifted_6 : decode cX5_shifted 6 = .ok (.iconst 1, 1) := by decide +kernel
theorem dX5_shifted_7 : decode cX5_shifted 7 = .ok (.goto 4, 3) := by decide +kernel
theorem dX5_shifted_10 : decode cX5_shifted 10 = .ok (.iconst 0, 1) := by decide +kernel
theorem dX5_shifted_11 : decode cX5_shifted 11 = .ok (.invokevirtual 179, 3) := by decide +kernel
theorem dX5_shifted_14 : decode cX5_shifted 14 = .ok (.aload_n 0, 1) := by decide +kernel
theorem dX5_shifted_15 : decode cX5_shifted 15 = .ok (.iload_n 1, 1) := by decide +kernel
theorem dX5_shifted_16 : decode cX5_shifted 16 = .ok (.invokevirtual 164, 3) := by decide +kernel
theorem dX5_shifted_19 : decode cX5_shifted 19 = .ok (.ireturn, 1) := by decide +kernel
theorem dX5_move_0 : decode cX5_move 0 = .ok (.iload_n 1, 1) := by decide +kernel
theorem dX5_move_1 : decode cX5_move 1 = .ok (.tableswitch 194 48 56 #[51, 68, 85, 102, 119, 134, 149, 164, 179], 51) := by decide +kernel
theorem dX5_move_52 : decode cX5_move 52 = .ok (.aload_n 0, 1) := by decide +kernel
theorem dX5_move_53 : decode cX5_move 53 = .ok (.aload_n 0, 1) := by decide +kernel
theorem dX5_move_54 : decode cX5_move 54 = .ok (.aload_n 0, 1) := by decide +kernel
theorem dX5_move_55 : decode cX5_move 55 = .ok (.getfield 149, 3) := by decide +kernel
theorem dX5_move_58 : decode cX5_move 58 = .ok (.iconst 1, 1) := by decide +kernel
theorem dX5_move_59 : decode cX5_move 59 = .ok (.iadd, 1) := by decide +kernel
theorem dX5_move_60 : decode cX5_move 60 = .ok (.invokevirtual 164, 3) := by decide +kernel
theorem dX5_move_63 : decode cX5_move 63 = .ok (.putfield 149, 3) := by decide +kernel
theorem dX5_move_66 : decode cX5_move 66 = .ok (.goto 137, 3) := by decide +kernel
theorem dX5_move_69 : decode cX5_move 69 = .ok (.aload_n 0, 1) := by decide +kernel
theorem dX5_move_70 : decode cX5_move 70 = .ok (.aload_n 0, 1) := by decide +kernel
theorem dX5_move_71 : decode cX5_move 71 = .ok (.aload_n 0, 1) := by decide +kernel
theorem dX5_move_72 : decode cX5_move 72 = .ok (.getfield 152, 3) := by decide +kernel
theorem dX5_move_75 : decode cX5_move 75 = .ok (.iconst 1, 1) := by decide +kernel
theorem dX5_move_76 : decode cX5_move 76 = .ok (.iadd, 1) := by decide +kernel
theorem dX5_move_77 : decode cX5_move 77 = .ok (.invokevirtual 164, 3) := by decide +kernel
theorem dX5_move_80 : decode cX5_move 80 = .ok (.putfield 152, 3) := by decide +kernel
theorem dX5_move_83 : decode cX5_move 83 = .ok (.goto 120, 3) := by decide +kernel
theorem dX5_move_86 : decode cX5_move 86 = .ok (.aload_n 0, 1) := by decide +kernel
theorem dX5_move_87 : decode cX5_move 87 = .ok (.aload_n 0, 1) := by decide +kernel
theorem dX5_move_88 : decode cX5_move 88 = .ok (.aload_n 0, 1) := by decide +kernel
theorem dX5_move_89 : decode cX5_move 89 = .ok (.getfield 149, 3) := by decide +kernel
theorem dX5_move_92 : decode cX5_move 92 = .ok (.iconst 1, 1) := by decide +kernel
theorem dX5_move_93 : decode cX5_move 93 = .ok (.isub, 1) := by decide +kernel
theorem dX5_move_94 : decode cX5_move 94 = .ok (.invokevirtual 164, 3) := by decide +kernel
theorem dX5_move_97 : decode cX5_move 97 = .ok (.putfield 149, 3) := by decide +kernel
theorem dX5_move_100 : decode cX5_move 100 = .ok (.goto 103, 3) := by decide +kernel
theorem dX5_move_103 : decode cX5_move 103 = .ok (.aload_n 0, 1) := by decide +kernel
theorem dX5_move_104 : decode cX5_move 104 = .ok (.aload_n 0, 1) := by decide +kernel
theorem dX5_move_105 : decode cX5_move 105 = .ok (.aload_n 0, 1) := by decide +kernel
theorem dX5_move_106 : decode cX5_move 106 = .ok (.getfield 152, 3) := by decide +kernel
theorem dX5_move_109 : decode cX5_move 109 = .ok (.iconst 1, 1) := by decide +kernel
theorem dX5_move_110 : decode cX5_move 110 = .ok (.isub, 1) := by decide +kernel
theorem dX5_move_111 : decode cX5_move 111 = .ok (.invokevirtual 164, 3) := by decide +kernel
theorem dX5_move_114 : decode cX5_move 114 = .ok (.putfield 152, 3) := by decide +kernel
theorem dX5_move_117 : decode cX5_move 117 = .ok (.goto 86, 3) := by decide +kernel
theorem dX5_move_120 : decode cX5_move 120 = .ok (.aload_n 0, 1) := by decide +kernel
theorem dX5_move_121 : decode cX5_move 121 = .ok (.aload_n 0, 1) := by decide +kernel
theorem dX5_move_122 : decode cX5_move 122 = .ok (.aload_n 0, 1) := by decide +kernel
theorem dX5_move_123 : decode cX5_move 123 = .ok (.getfield 161, 3) := by decide +kernel
theorem dX5_move_126 : decode cX5_move 126 = .ok (.invokevirtual 164, 3) := by decide +kernel
theorem dX5_move_129 : decode cX5_move 129 = .ok (.putfield 149, 3) := by decide +kernel
theorem dX5_move_132 : decode cX5_move 132 = .ok (.goto 71, 3) := by decide +kernel
theorem dX5_move_135 : decode cX5_move 135 = .ok (.aload_n 0, 1) := by decide +kernel
theorem dX5_move_136 : decode cX5_move 136 = .ok (.aload_n 0, 1) := by decide +kernel
theorem dX5_move_137 : decode cX5_move 137 = .ok (.aload_n 0, 1) := by decide +kernel
theorem dX5_move_138 : decode cX5_move 138 = .ok (.getfield 161, 3) := by decide +kernel
theorem dX5_move_141 : decode cX5_move 141 = .ok (.invokevirtual 164, 3) := by decide +kernel
theorem dX5_move_144 : decode cX5_move 144 = .ok (.putfield 152, 3) := by decide +kernel
theorem dX5_move_147 : decode cX5_move 147 = .ok (.goto 56, 3) := by decide +kernel
theorem dX5_move_150 : decode cX5_move 150 = .ok (.aload_n 0, 1) := by decide +kernel
theorem dX5_move_151 : decode cX5_move 151 = .ok (.aload_n 0, 1) := by decide +kernel
theorem dX5_move_152 : decode cX5_move 152 = .ok (.aload_n 0, 1) := by decide +kernel
theorem dX5_move_153 : decode cX5_move 153 = .ok (.getfield 149, 3) := by decide +kernel
theorem dX5_move_156 : decode cX5_move 156 = .ok (.invokevirtual 164, 3) := by decide +kernel
theorem dX5_move_159 : decode cX5_move 159 = .ok (.putfield 161, 3) := by decide +kernel
theorem dX5_move_162 : decode cX5_move 162 = .ok (.goto 41, 3) := by decide +kernel
theorem dX5_move_165 : decode cX5_move 165 = .ok (.aload_n 0, 1) := by decide +kernel
theorem dX5_move_166 : decode cX5_move 166 = .ok (.aload_n 0, 1) := by decide +kernel
theorem dX5_move_167 : decode cX5_move 167 = .ok (.aload_n 0, 1) := by decide +kernel
theorem dX5_move_168 : decode cX5_move 168 = .ok (.getfield 152, 3) := by decide +kernel
theorem dX5_move_171 : decode cX5_move 171 = .ok (.invokevirtual 164, 3) := by decide +kernel
theorem dX5_move_174 : decode cX5_move 174 = .ok (.putfield 161, 3) := by decide +kernel
theorem dX5_move_177 : decode cX5_move 177 = .ok (.goto 26, 3) := by decide +kernel
theorem dX5_move_180 : decode cX5_move 180 = .ok (.aload_n 0, 1) := by decide +kernel
theorem dX5_move_181 : decode cX5_move 181 = .ok (.aload_n 0, 1) := by decide +kernel
theorem dX5_move_182 : decode cX5_move 182 = .ok (.aload_n 0, 1) := by decide +kernel
theorem dX5_move_183 : decode cX5_move 183 = .ok (.getfield 24, 3) := by decide +kernel
theorem dX5_move_186 : decode cX5_move 186 = .ok (.invokevirtual 164, 3) := by decide +kernel
theorem dX5_move_189 : decode cX5_move 189 = .ok (.putfield 149, 3) := by decide +kernel
theorem dX5_move_192 : decode cX5_move 192 = .ok (.goto 11, 3) := by decide +kernel
theorem dX5_move_195 : decode cX5_move 195 = .ok (.aload_n 0, 1) := by decide +kernel
theorem dX5_move_196 : decode cX5_move 196 = .ok (.aload_n 0, 1) := by decide +kernel
theorem dX5_move_197 : decode cX5_move 197 = .ok (.getfield 149, 3) := by decide +kernel
theorem dX5_move_200 : decode cX5_move 200 = .ok (.putfield 24, 3) := by decide +kernel
theorem dX5_move_203 : decode cX5_move 203 = .ok (.return_, 1) := by decide +kernel
theorem dX5_changeState_0 : decode cX5_changeState 0 = .ok (.iload_n 1, 1) := by decide +kernel
theorem dX5_changeState_1 : decode cX5_changeState 1 = .ok (.tableswitch 137 64 73 #[55, 64, 73, 82, 91, 101, 111, 137, 121, 129], 55) := by decide +kernel
theorem dX5_changeState_56 : decode cX5_changeState 56 = .ok (.aload_n 0, 1) := by decide +kernel
theorem dX5_changeState_57 : decode cX5_changeState 57 = .ok (.iconst 1, 1) := by decide +kernel
theorem dX5_changeState_58 : decode cX5_changeState 58 = .ok (.iconst 0, 1) := by decide +kernel
theorem dX5_changeState_59 : decode cX5_changeState 59 = .ok (.invokevirtual 179, 3) := by decide +kernel
theorem dX5_changeState_62 : decode cX5_changeState 62 = .ok (.goto 76, 3) := by decide +kernel
theorem dX5_changeState_65 : decode cX5_changeState 65 = .ok (.aload_n 0, 1) := by decide +kernel
theorem dX5_changeState_66 : decode cX5_changeState 66 = .ok (.iconst 1, 1) := by decide +kernel
theorem dX5_changeState_67 : decode cX5_changeState 67 = .ok (.iconst 1, 1) := by decide +kernel
theorem dX5_changeState_68 : decode cX5_changeState 68 = .ok (.invokevirtual 179, 3) := by decide +kernel
theorem dX5_changeState_71 : decode cX5_changeState 71 = .ok (.goto 67, 3) := by decide +kernel
theorem dX5_changeState_74 : decode cX5_changeState 74 = .ok (.aload_n 0, 1) := by decide +kernel
theorem dX5_changeState_75 : decode cX5_changeState 75 = .ok (.iconst 4, 1) := by decide +kernel
theorem dX5_changeState_76 : decode cX5_changeState 76 = .ok (.iconst 0, 1) := by decide +kernel
theorem dX5_changeState_77 : decode cX5_changeState 77 = .ok (.invokevirtual 179, 3) := by decide +kernel
theorem dX5_changeState_80 : decode cX5_changeState 80 = .ok (.goto 58, 3) := by decide +kernel
theorem dX5_changeState_83 : decode cX5_changeState 83 = .ok (.aload_n 0, 1) := by decide +kernel
theorem dX5_changeState_84 : decode cX5_changeState 84 = .ok (.iconst 4, 1) := by decide +kernel
theorem dX5_changeState_85 : decode cX5_changeState 85 = .ok (.iconst 1, 1) := by decide +kernel
theorem dX5_changeState_86 : decode cX5_changeState 86 = .ok (.invokevirtual 179, 3) := by decide +kernel
theorem dX5_changeState_89 : decode cX5_changeState 89 = .ok (.goto 49, 3) := by decide +kernel
theorem dX5_changeState_92 : decode cX5_changeState 92 = .ok (.aload_n 0, 1) := by decide +kernel
theorem dX5_changeState_93 : decode cX5_changeState 93 = .ok (.bipush 64, 2) := by decide +kernel
theorem dX5_changeState_95 : decode cX5_changeState 95 = .ok (.iconst 0, 1) := by decide +kernel
theorem dX5_changeState_96 : decode cX5_changeState 96 = .ok (.invokevirtual 179, 3) := by decide +kernel
theorem dX5_changeState_99 : decode cX5_changeState 99 = .ok (.goto 39, 3) := by decide +kernel
theorem dX5_changeState_102 : decode cX5_changeState 102 = .ok (.aload_n 0, 1) := by decide +kernel
theorem dX5_changeState_103 : decode cX5_changeState 103 = .ok (.bipush 8, 2) := by decide +kernel
theorem dX5_changeState_105 : decode cX5_changeState 105 = .ok (.iconst 0, 1) := by decide +kernel
theorem dX5_changeState_106 : decode cX5_changeState 106 = .ok (.invokevirtual 179, 3) := by decide +kernel
theorem dX5_changeState_109 : decode cX5_changeState 109 = .ok (.goto 29, 3) := by decide +kernel
theorem dX5_changeState_112 : decode cX5_changeState 112 = .ok (.aload_n 0, 1) := by decide +kernel
theorem dX5_changeState_113 : decode cX5_changeState 113 = .ok (.bipush 8, 2) := by decide +kernel
theorem dX5_changeState_115 : decode cX5_changeState 115 = .ok (.iconst 1, 1) := by decide +kernel
theorem dX5_changeState_116 : decode cX5_changeState 116 = .ok (.invokevirtual 179, 3) := by decide +kernel
theorem dX5_changeState_119 : decode cX5_changeState 119 = .ok (.goto 19, 3) := by decide +kernel
theorem dX5_changeState_122 : decode cX5_changeState 122 = .ok (.aload_n 0, 1) := by decide +kernel
theorem dX5_changeState_123 : decode cX5_changeState 123 = .ok (.iconst 1, 1) := by decide +kernel
theorem dX5_changeState_124 : decode cX5_changeState 124 = .ok (.putfield 35, 3) := by decide +kernel
theorem dX5_changeState_127 : decode cX5_changeState 127 = .ok (.goto 11, 3) := by decide +kernel
theorem dX5_changeState_130 : decode cX5_changeState 130 = .ok (.aload_n 0, 1) := by decide +kernel
theorem dX5_changeState_131 : decode cX5_changeState 131 = .ok (.iconst 1, 1) := by decide +kernel
theorem dX5_changeState_132 : decode cX5_changeState 132 = .ok (.putfield 39, 3) := by decide +kernel
theorem dX5_changeState_135 : decode cX5_changeState 135 = .ok (.goto 3, 3) := by decide +kernel
theorem dX5_changeState_138 : decode cX5_changeState 138 = .ok (.return_, 1) := by decide +kernel
theorem dX5_pushOrPull_0 : decode cX5_pushOrPull 0 = .ok (.iload_n 1, 1) := by decide +kernel
theorem dX5_pushOrPull_1 : decode cX5_pushOrPull 1 = .ok (.tableswitch 132 80 86 #[43, 54, 65, 76, 87, 102, 117], 43) := by decide +kernel
theorem dX5_pushOrPull_44 : decode cX5_pushOrPull 44 = .ok (.aload_n 0, 1) := by decide +kernel
theorem dX5_pushOrPull_45 : decode cX5_pushOrPull 45 = .ok (.aload_n 0, 1) := by decide +kernel
theorem dX5_pushOrPull_46 : decode cX5_pushOrPull 46 = .ok (.getfield 161, 3) := by decide +kernel
theorem dX5_pushOrPull_49 : decode cX5_pushOrPull 49 = .ok (.invokevirtual 83, 3) := by decide +kernel
theorem dX5_pushOrPull_52 : decode cX5_pushOrPull 52 = .ok (.goto 92, 3) := by decide +kernel
theorem dX5_pushOrPull_55 : decode cX5_pushOrPull 55 = .ok (.aload_n 0, 1) := by decide +kernel
theorem dX5_pushOrPull_56 : decode cX5_pushOrPull 56 = .ok (.aload_n 0, 1) := by decide +kernel
theorem dX5_pushOrPull_57 : decode cX5_pushOrPull 57 = .ok (.getfield 149, 3) := by decide +kernel
theorem dX5_pushOrPull_60 : decode cX5_pushOrPull 60 = .ok (.invokevirtual 83, 3) := by decide +kernel
theorem dX5_pushOrPull_63 : decode cX5_pushOrPull 63 = .ok (.goto 81, 3) := by decide +kernel
theorem dX5_pushOrPull_66 : decode cX5_pushOrPull 66 = .ok (.aload_n 0, 1) := by decide +kernel
theorem dX5_pushOrPull_67 : decode cX5_pushOrPull 67 = .ok (.aload_n 0, 1) := by decide +kernel
theorem dX5_pushOrPull_68 : decode cX5_pushOrPull 68 = .ok (.getfield 152, 3) := by decide +kernel
theorem dX5_pushOrPull_71 : decode cX5_pushOrPull 71 = .ok (.invokevirtual 83, 3) := by decide +kernel
theorem dX5_pushOrPull_74 : decode cX5_pushOrPull 74 = .ok (.goto 70, 3) := by decide +kernel
theorem dX5_pushOrPull_77 : decode cX5_pushOrPull 77 = .ok (.aload_n 0, 1) := by decide +kernel
theorem dX5_pushOrPull_78 : decode cX5_pushOrPull 78 = .ok (.aload_n 0, 1) := by decide +kernel
theorem dX5_pushOrPull_79 : decode cX5_pushOrPull 79 = .ok (.getfield 9, 3) := by decide +kernel
theorem dX5_pushOrPull_82 : decode cX5_pushOrPull 82 = .ok (.invokevirtual 83, 3) := by decide +kernel
theorem dX5_pushOrPull_85 : decode cX5_pushOrPull 85 = .ok (.goto 59, 3) := by decide +kernel
theorem dX5_pushOrPull_88 : decode cX5_pushOrPull 88 = .ok (.aload_n 0, 1) := by decide +kernel
theorem dX5_pushOrPull_89 : decode cX5_pushOrPull 89 = .ok (.aload_n 0, 1) := by decide +kernel
theorem dX5_pushOrPull_90 : decode cX5_pushOrPull 90 = .ok (.aload_n 0, 1) := by decide +kernel
theorem dX5_pushOrPull_91 : decode cX5_pushOrPull 91 = .ok (.invokevirtual 194, 3) := by decide +kernel
theorem dX5_pushOrPull_94 : decode cX5_pushOrPull 94 = .ok (.invokevirtual 164, 3) := by decide +kernel
theorem dX5_pushOrPull_97 : decode cX5_pushOrPull 97 = .ok (.putfield 161, 3) := by decide +kernel
theorem dX5_pushOrPull_100 : decode cX5_pushOrPull 100 = .ok (.goto 44, 3) := by decide +kernel
theorem dX5_pushOrPull_103 : decode cX5_pushOrPull 103 = .ok (.aload_n 0, 1) := by decide +kernel
theorem dX5_pushOrPull_104 : decode cX5_pushOrPull 104 = .ok (.aload_n 0, 1) := by decide +kernel
theorem dX5_pushOrPull_105 : decode cX5_pushOrPull 105 = .ok (.aload_n 0, 1) := by decide +kernel
theorem dX5_pushOrPull_106 : decode cX5_pushOrPull 106 = .ok (.invokevirtual 194, 3) := by decide +kernel
theorem dX5_pushOrPull_109 : decode cX5_pushOrPull 109 = .ok (.invokevirtual 164, 3) := by decide +kernel
theorem dX5_pushOrPull_112 : decode cX5_pushOrPull 112 = .ok (.putfield 149, 3) := by decide +kernel
theorem dX5_pushOrPull_115 : decode cX5_pushOrPull 115 = .ok (.goto 29, 3) := by decide +kernel
theorem dX5_pushOrPull_118 : decode cX5_pushOrPull 118 = .ok (.aload_n 0, 1) := by decide +kernel
theorem dX5_pushOrPull_119 : decode cX5_pushOrPull 119 = .ok (.aload_n 0, 1) := by decide +kernel
theorem dX5_pushOrPull_120 : decode cX5_pushOrPull 120 = .ok (.aload_n 0, 1) := by decide +kernel
theorem dX5_pushOrPull_121 : decode cX5_pushOrPull 121 = .ok (.invokevirtual 194, 3) := by decide +kernel
theorem dX5_pushOrPull_124 : decode cX5_pushOrPull 124 = .ok (.invokevirtual 164, 3) := by decide +kernel
theorem dX5_pushOrPull_127 : decode cX5_pushOrPull 127 = .ok (.putfield 152, 3) := by decide +kernel
theorem dX5_pushOrPull_130 : decode cX5_pushOrPull 130 = .ok (.goto 14, 3) := by decide +kernel
theorem dX5_pushOrPull_133 : decode cX5_pushOrPull 133 = .ok (.aload_n 0, 1) := by decide +kernel
theorem dX5_pushOrPull_134 : decode cX5_pushOrPull 134 = .ok (.aload_n 0, 1) := by decide +kernel
theorem dX5_pushOrPull_135 : decode cX5_pushOrPull 135 = .ok (.invokevirtual 194, 3) := by decide +kernel
theorem dX5_pushOrPull_138 : decode cX5_pushOrPull 138 = .ok (.bipush 48, 2) := by decide +kernel
theorem dX5_pushOrPull_140 : decode cX5_pushOrPull 140 = .ok (.ior, 1) := by decide +kernel
theorem dX5_pushOrPull_141 : decode cX5_pushOrPull 141 = .ok (.putfield 9, 3) := by decide +kernel
theorem dX5_pushOrPull_144 : decode cX5_pushOrPull 144 = .ok (.return_, 1) := by decide +kernel
theorem dX5_branch_0 : decode cX5_branch 0 = .ok (.iload_n 1, 1) := by decide +kernel
theorem dX5_branch_1 : decode cX5_branch 1 = .ok (.tableswitch 311 96 106 #[59, 83, 107, 130, 153, 175, 197, 219, 311, 241, 276], 59) := by decide +kernel
theorem dX5_branch_60 : decode cX5_branch 60 = .ok (.aload_n 0, 1) := by decide +kernel
theorem dX5_branch_61 : decode cX5_branch 61 = .ok (.aload_n 0, 1) := by decide +kernel
theorem dX5_branch_62 : decode cX5_branch 62 = .ok (.getfield 9, 3) := by decide +kernel
theorem dX5_branch_65 : decode cX5_branch 65 = .ok (.sipush 128, 3) := by decide +kernel
theorem dX5_branch_68 : decode cX5_branch 68 = .ok (.iand, 1) := by decide +kernel
theorem dX5_branch_69 : decode cX5_branch 69 = .ok (.ifCond .ne 7, 3) := by decide +kernel
theorem dX5_branch_72 : decode cX5_branch 72 = .ok (.iconst 1, 1) := by decide +kernel
theorem dX5_branch_73 : decode cX5_branch 73 = .ok (.goto 4, 3) := by decide +kernel
theorem dX5_branch_76 : decode cX5_branch 76 = .ok (.iconst 0, 1) := by decide +kernel
theorem dX5_branch_77 : decode cX5_branch 77 = .ok (.iload_n 3, 1) := by decide +kernel
theorem dX5_branch_78 : decode cX5_branch 78 = .ok (.invokevirtual 197, 3) := by decide +kernel
theorem dX5_branch_81 : decode cX5_branch 81 = .ok (.goto 237, 3) := by decide +kernel
theorem dX5_branch_84 : decode cX5_branch 84 = .ok (.aload_n 0, 1) := by decide +kernel
theorem dX5_branch_85 : decode cX5_branch 85 = .ok (.aload_n 0, 1) := by decide +kernel
theorem dX5_branch_86 : decode cX5_branch 86 = .ok (.getfield 9, 3) := by decide +kernel
theorem dX5_branch_89 : decode cX5_branch 89 = .ok (.sipush 128, 3) := by decide +kernel
theorem dX5_branch_92 : decode cX5_branch 92 = .ok (.iand, 1) := by decide +kernel
theorem dX5_branch_93 : decode cX5_branch 93 = .ok (.ifCond .eq 7, 3) := by decide +kernel
theorem dX5_branch_96 : decode cX5_branch 96 = .ok (.iconst 1, 1) := by decide +kernel
theorem dX5_branch_97 : decode cX5_branch 97 = .ok (.goto 4, 3) := by decide +kernel
theorem dX5_branch_100 : decode cX5_branch 100 = .ok (.iconst 0, 1) := by decide +kernel
theorem dX5_branch_101 : decode cX5_branch 101 = .ok (.iload_n 3, 1) := by decide +kernel
theorem dX5_branch_102 : decode cX5_branch 102 = .ok (.invokevirtual 197, 3) := by decide +kernel
theorem dX5_branch_105 : decode cX5_branch 105 = .ok (.goto 213, 3) := by decide +kernel
theorem dX5_branch_108 : decode cX5_branch 108 = .ok (.aload_n 0, 1) := by decide +kernel
