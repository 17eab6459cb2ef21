theorem dL_cell_0 : decode cL_cell 0 = .ok (.iload_n 1, 1) := by decide +kernel
theorem dL_cell_1 : decode cL_cell 1 = .ok (.aload_n 0, 1) := by decide +kernel
theorem dL_cell_2 : decode cL_cell 2 = .ok (.arraylength, 1) := by decide +kernel
theorem dL_cell_3 : decode cL_cell 3 = .ok (.if_icmp .ge 9, 3) := by decide +kernel
theorem dL_cell_6 : decode cL_cell 6 = .ok (.aload_n 0, 1) := by decide +kernel
theorem dL_cell_7 : decode cL_cell 7 = .ok (.iload_n 1, 1) := by decide +kernel
theorem dL_cell_8 : decode cL_cell 8 = .ok (.iaload, 1) := by decide +kernel
theorem dL_cell_9 : decode cL_cell 9 = .ok (.goto 11, 3) := by decide +kernel
theorem dL_cell_12 : decode cL_cell 12 = .ok (.ldc 7, 2) := by decide +kernel
theorem dL_cell_14 : decode cL_cell 14 = .ok (.iload_n 1, 1) := by decide +kernel
theorem dL_cell_15 : decode cL_cell 15 = .ok (.sipush 151, 3) := by decide +kernel
theorem dL_cell_18 : decode cL_cell 18 = .ok (.iadd, 1) := by decide +kernel
theorem dL_cell_19 : decode cL_cell 19 = .ok (.imul, 1) := by decide +kernel
theorem dL_cell_20 : decode cL_cell 20 = .ok (.ireturn, 1) := by decide +kernel
theorem dL_at_0 : decode cL_at 0 = .ok (.iload_n 0, 1) := by decide +kernel
theorem dL_at_1 : decode cL_at 1 = .ok (.iconst 1, 1) := by decide +kernel
theorem dL_at_2 : decode cL_at 2 = .ok (.iushr, 1) := by decide +kernel
theorem dL_at_3 : decode cL_at 3 = .ok (.iload_n 1, 1) := by decide +kernel
theorem dL_at_4 : decode cL_at 4 = .ok (.irem, 1) := by decide +kernel
theorem dL_at_5 : decode cL_at 5 = .ok (.ireturn, 1) := by decide +kernel
theorem dL_ones_0 : decode cL_ones 0 = .ok (.iconst 0, 1) := by decide +kernel
theorem dL_ones_1 : decode cL_ones 1 = .ok (.istore_n 1, 1) := by decide +kernel
theorem dL_ones_2 : decode cL_ones 2 = .ok (.iload_n 0, 1) := by decide +kernel
theorem dL_ones_3 : decode cL_ones 3 = .ok (.ifCond .eq 15, 3) := by decide +kernel
theorem dL_ones_6 : decode cL_ones 6 = .ok (.iload_n 0, 1) := by decide +kernel
theorem dL_ones_7 : decode cL_ones 7 = .ok (.iload_n 0, 1) := by decide +kernel
theorem dL_ones_8 : decode cL_ones 8 = .ok (.iconst 1, 1) := by decide +kernel
theorem dL_ones_9 : decode cL_ones 9 = .ok (.isub, 1) := by decide +kernel
theorem dL_ones_10 : decode cL_ones 10 = .ok (.iand, 1) := by decide +kernel
theorem dL_ones_11 : decode cL_ones 11 = .ok (.istore_n 0, 1) := by decide +kernel
theorem dL_ones_12 : decode cL_ones 12 = .ok (.iinc 1 1, 3) := by decide +kernel
theorem dL_ones_15 : decode cL_ones 15 = .ok (.goto (-13), 3) := by decide +kernel
theorem dL_ones_18 : decode cL_ones 18 = .ok (.iload_n 1, 1) := by decide +kernel
theorem dL_ones_19 : decode cL_ones 19 = .ok (.ireturn, 1) := by decide +kernel
theorem dL_decided_0 : decode cL_decided 0 = .ok (.iconst 0, 1) := by decide +kernel
theorem dL_decided_1 : decode cL_decided 1 = .ok (.istore 5, 2) := by decide +kernel
theorem dL_decided_3 : decode cL_decided 3 = .ok (.iconst 0, 1) := by decide +kernel
theorem dL_decided_4 : decode cL_decided 4 = .ok (.istore 6, 2) := by decide +kernel
theorem dL_decided_6 : decode cL_decided 6 = .ok (.iload 6, 2) := by decide +kernel
theorem dL_decided_8 : decode cL_decided 8 = .ok (.iconst 1, 1) := by decide +kernel
theorem dL_decided_9 : decode cL_decided 9 = .ok (.aload_n 0, 1) := by decide +kernel
theorem dL_decided_10 : decode cL_decided 10 = .ok (.iconst 0, 1) := by decide +kernel
theorem dL_decided_11 : decode cL_decided 11 = .ok (.iaload, 1) := by decide +kernel
theorem dL_decided_12 : decode cL_decided 12 = .ok (.ishl, 1) := by decide +kernel
theorem dL_decided_13 : decode cL_decided 13 = .ok (.if_icmp .ge 35, 3) := by decide +kernel
theorem dL_decided_16 : decode cL_decided 16 = .ok (.iload 6, 2) := by decide +kernel
theorem dL_decided_18 : decode cL_decided 18 = .ok (.iload_n 3, 1) := by decide +kernel
theorem dL_decided_19 : decode cL_decided 19 = .ok (.ixor, 1) := by decide +kernel
theorem dL_decided_20 : decode cL_decided 20 = .ok (.iload 4, 2) := by decide +kernel
theorem dL_decided_22 : decode cL_decided 22 = .ok (.iand, 1) := by decide +kernel
theorem dL_decided_23 : decode cL_decided 23 = .ok (.ifCond .ne 19, 3) := by decide +kernel
theorem dL_decided_26 : decode cL_decided 26 = .ok (.iload 5, 2) := by decide +kernel
theorem dL_decided_28 : decode cL_decided 28 = .ok (.iconst 1, 1) := by decide +kernel
theorem dL_decided_29 : decode cL_decided 29 = .ok (.aload_n 1, 1) := by decide +kernel
theorem dL_decided_30 : decode cL_decided 30 = .ok (.bipush 16, 2) := by decide +kernel
theorem dL_decided_32 : decode cL_decided 32 = .ok (.iload_n 2, 1) := by decide +kernel
theorem dL_decided_33 : decode cL_decided 33 = .ok (.imul, 1) := by decide +kernel
theorem dL_decided_34 : decode cL_decided 34 = .ok (.iload 6, 2) := by decide +kernel
theorem dL_decided_36 : decode cL_decided 36 = .ok (.iadd, 1) := by decide +kernel
theorem dL_decided_37 : decode cL_decided 37 = .ok (.iaload, 1) := by decide +kernel
theorem dL_decided_38 : decode cL_decided 38 = .ok (.ishl, 1) := by decide +kernel
theorem dL_decided_39 : decode cL_decided 39 = .ok (.ior, 1) := by decide +kernel
theorem dL_decided_40 : decode cL_decided 40 = .ok (.istore 5, 2) := by decide +kernel
theorem dL_decided_42 : decode cL_decided 42 = .ok (.iinc 6 1, 3) := by decide +kernel
theorem dL_decided_45 : decode cL_decided 45 = .ok (.goto (-39), 3) := by decide +kernel
theorem dL_decided_48 : decode cL_decided 48 = .ok (.iload 5, 2) := by decide +kernel
theorem dL_decided_50 : decode cL_decided 50 = .ok (.iconst 3, 1) := by decide +kernel
theorem dL_decided_51 : decode cL_decided 51 = .ok (.iand, 1) := by decide +kernel
theorem dL_decided_52 : decode cL_decided 52 = .ok (.iconst 3, 1) := by decide +kernel
theorem dL_decided_53 : decode cL_decided 53 = .ok (.if_icmp .ne 7, 3) := by decide +kernel
theorem dL_decided_56 : decode cL_decided 56 = .ok (.iconst 3, 1) := by decide +kernel
theorem dL_decided_57 : decode cL_decided 57 = .ok (.goto 28, 3) := by decide +kernel
theorem dL_decided_60 : decode cL_decided 60 = .ok (.iload 5, 2) := by decide +kernel
theorem dL_decided_62 : decode cL_decided 62 = .ok (.iconst 1, 1) := by decide +kernel
theorem dL_decided_63 : decode cL_decided 63 = .ok (.iand, 1) := by decide +kernel
theorem dL_decided_64 : decode cL_decided 64 = .ok (.iconst 1, 1) := by decide +kernel
theorem dL_decided_65 : decode cL_decided 65 = .ok (.if_icmp .ne 7, 3) := by decide +kernel
theorem dL_decided_68 : decode cL_decided 68 = .ok (.iconst 0, 1) := by decide +kernel
theorem dL_decided_69 : decode cL_decided 69 = .ok (.goto 16, 3) := by decide +kernel
theorem dL_decided_72 : decode cL_decided 72 = .ok (.iload 5, 2) := by decide +kernel
theorem dL_decided_74 : decode cL_decided 74 = .ok (.iconst 2, 1) := by decide +kernel
theorem dL_decided_75 : decode cL_decided 75 = .ok (.iand, 1) := by decide +kernel
theorem dL_decided_76 : decode cL_decided 76 = .ok (.iconst 2, 1) := by decide +kernel
theorem dL_decided_77 : decode cL_decided 77 = .ok (.if_icmp .ne 7, 3) := by decide +kernel
theorem dL_decided_80 : decode cL_decided 80 = .ok (.iconst 1, 1) := by decide +kernel
theorem dL_decided_81 : decode cL_decided 81 = .ok (.goto 4, 3) := by decide +kernel
theorem dL_decided_84 : decode cL_decided 84 = .ok (.iconst 2, 1) := by decide +kernel
theorem dL_decided_85 : decode cL_decided 85 = .ok (.ireturn, 1) := by decide +kernel
theorem dL_undecided_0 : decode cL_undecided 0 = .ok (.iconst 0, 1) := by decide +kernel
theorem dL_undecided_1 : decode cL_undecided 1 = .ok (.istore_n 3, 1) := by decide +kernel
theorem dL_undecided_2 : decode cL_undecided 2 = .ok (.iconst 0, 1) := by decide +kernel
theorem dL_undecided_3 : decode cL_undecided 3 = .ok (.istore 4, 2) := by decide +kernel
theorem dL_undecided_5 : decode cL_undecided 5 = .ok (.iload 4, 2) := by decide +kernel
theorem dL_undecided_7 : decode cL_undecided 7 = .ok (.iconst 4, 1) := by decide +kernel
theorem dL_undecided_8 : decode cL_undecided 8 = .ok (.if_icmp .ge 45, 3) := by decide +kernel
theorem dL_undecided_11 : decode cL_undecided 11 = .ok (.iconst 0, 1) := by decide +kernel
theorem dL_undecided_12 : decode cL_undecided 12 = .ok (.istore 5, 2) := by decide +kernel
theorem dL_undecided_14 : decode cL_undecided 14 = .ok (.iload 5, 2) := by decide +kernel
theorem dL_undecided_16 : decode cL_undecided 16 = .ok (.iconst 1, 1) := by decide +kernel
theorem dL_undecided_17 : decode cL_undecided 17 = .ok (.aload_n 0, 1) := by decide +kernel
theorem dL_undecided_18 : decode cL_undecided 18 = .ok (.iconst 0, 1) := by decide +kernel
theorem dL_undecided_19 : decode cL_undecided 19 = .ok (.iaload, 1) := by decide +kernel
theorem dL_undecided_20 : decode cL_undecided 20 = .ok (.ishl, 1) := by decide +kernel
theorem dL_undecided_21 : decode cL_undecided 21 = .ok (.if_icmp .ge 26, 3) := by decide +kernel
theorem dL_undecided_24 : decode cL_undecided 24 = .ok (.aload_n 0, 1) := by decide +kernel
theorem dL_undecided_25 : decode cL_undecided 25 = .ok (.aload_n 1, 1) := by decide +kernel
theorem dL_undecided_26 : decode cL_undecided 26 = .ok (.iload 4, 2) := by decide +kernel
theorem dL_undecided_28 : decode cL_undecided 28 = .ok (.iload 5, 2) := by decide +kernel
theorem dL_undecided_30 : decode cL_undecided 30 = .ok (.iload_n 2, 1) := by decide +kernel
theorem dL_undecided_31 : decode cL_undecided 31 = .ok (.invokestatic 8, 3) := by decide +kernel
theorem dL_undecided_34 : decode cL_undecided 34 = .ok (.iconst 3, 1) := by decide +kernel
theorem dL_undecided_35 : decode cL_undecided 35 = .ok (.if_icmp .ne 6, 3) := by decide +kernel
theorem dL_undecided_38 : decode cL_undecided 38 = .ok (.iinc 3 1, 3) := by decide +kernel
theorem dL_undecided_41 : decode cL_undecided 41 = .ok (.iinc 5 1, 3) := by decide +kernel
theorem dL_undecided_44 : decode cL_undecided 44 = .ok (.goto (-30), 3) := by decide +kernel
theorem dL_undecided_47 : decode cL_undecided 47 = .ok (.iinc 4 1, 3) := by decide +kernel
theorem dL_undecided_50 : decode cL_undecided 50 = .ok (.goto (-45), 3) := by decide +kernel
theorem dL_undecided_53 : decode cL_undecided 53 = .ok (.iload_n 3, 1) := by decide +kernel
theorem dL_undecided_54 : decode cL_undecided 54 = .ok (.ireturn, 1) := by decide +kernel
theorem dL_rows_0 : decode cL_rows 0 = .ok (.iconst 0, 1) := by decide +kernel
theorem dL_rows_1 : decode cL_rows 1 = .ok (.istore_n 3, 1) := by decide +kernel
theorem dL_rows_2 : decode cL_rows 2 = .ok (.iconst 0, 1) := by decide +kernel
theorem dL_rows_3 : decode cL_rows 3 = .ok (.istore 4, 2) := by decide +kernel
theorem dL_rows_5 : decode cL_rows 5 = .ok (.iload 4, 2) := by decide +kernel
theorem dL_rows_7 : decode cL_rows 7 = .ok (.iconst 1, 1) := by decide +kernel
theorem dL_rows_8 : decode cL_rows 8 = .ok (.aload_n 0, 1) := by decide +kernel
theorem dL_rows_9 : decode cL_rows 9 = .ok (.iconst 0, 1) := by decide +kernel
theorem dL_rows_10 : decode cL_rows 10 = .ok (.iaload, 1) := by decide +kernel
theorem dL_rows_11 : decode cL_rows 11 = .ok (.ishl, 1) := by decide +kernel
theorem dL_rows_12 : decode cL_rows 12 = .ok (.if_icmp .ge 24, 3) := by decide +kernel
theorem dL_rows_15 : decode cL_rows 15 = .ok (.iload 4, 2) := by decide +kernel
theorem dL_rows_17 : decode cL_rows 17 = .ok (.iload_n 1, 1) := by decide +kernel
theorem dL_rows_18 : decode cL_rows 18 = .ok (.iand, 1) := by decide +kernel
theorem dL_rows_19 : decode cL_rows 19 = .ok (.iload_n 2, 1) := by decide +kernel
theorem dL_rows_20 : decode cL_rows 20 = .ok (.if_icmp .ne 10, 3) := by decide +kernel
theorem dL_rows_23 : decode cL_rows 23 = .ok (.iload_n 3, 1) := by decide +kernel
theorem dL_rows_24 : decode cL_rows 24 = .ok (.iconst 1, 1) := by decide +kernel
theorem dL_rows_25 : decode cL_rows 25 = .ok (.iload 4, 2) := by decide +kernel
theorem dL_rows_27 : decode cL_rows 27 = .ok (.ishl, 1) := by decide +kernel
theorem dL_rows_28 : decode cL_rows 28 = .ok (.ior, 1) := by decide +kernel
theorem dL_rows_29 : decode cL_rows 29 = .ok (.istore_n 3, 1) := by decide +kernel
theorem dL_rows_30 : decode cL_rows 30 = .ok (.iinc 4 1, 3) := by decide +kernel
theorem dL_rows_33 : decode cL_rows 33 = .ok (.goto (-28), 3) := by decide +kernel
theorem dL_rows_36 : decode cL_rows 36 = .ok (.iload_n 3, 1) := by decide +kernel
theorem dL_rows_37 : decode cL_rows 37 = .ok (.ireturn, 1) := by decide +kernel
theorem dL_those_0 : decode cL_those 0 = .ok (.iconst 0, 1) := by decide +kernel
theorem dL_those_1 : decode cL_those 1 = .ok (.istore 4, 2) := by decide +kernel
theorem dL_those_3 : decode cL_those 3 = .ok (.iconst 0, 1) := by decide +kernel
theorem dL_those_4 : decode cL_those 4 = .ok (.istore 5, 2) := by decide +kernel
theorem dL_those_6 : decode cL_those 6 = .ok (.iload 5, 2) := by decide +kernel
theorem dL_those_8 : decode cL_those 8 = .ok (.iconst 1, 1) := by decide +kernel
theorem dL_those_9 : decode cL_those 9 = .ok (.aload_n 0, 1) := by decide +kernel
theorem dL_those_10 : decode cL_those 10 = .ok (.iconst 0, 1) := by decide +kernel
theorem dL_those_11 : decode cL_those 11 = .ok (.iaload, 1) := by decide +kernel
theorem dL_those_12 : decode cL_those 12 = .ok (.ishl, 1) := by decide +kernel
theorem dL_those_13 : decode cL_those 13 = .ok (.if_icmp .ge 33, 3) := by decide +kernel
theorem dL_those_16 : decode cL_those 16 = .ok (.aload_n 0, 1) := by decide +kernel
theorem dL_those_17 : decode cL_those 17 = .ok (.aload_n 1, 1) := by decide +kernel
theorem dL_those_18 : decode cL_those 18 = .ok (.iload_n 2, 1) := by decide +kernel
theorem dL_those_19 : decode cL_those 19 = .ok (.iload 5, 2) := by decide +kernel
theorem dL_those_21 : decode cL_those 21 = .ok (.aload_n 0, 1) := by decide +kernel
theorem dL_those_22 : decode cL_those 22 = .ok (.iconst 1, 1) := by decide +kernel
theorem dL_those_23 : decode cL_those 23 = .ok (.iaload, 1) := by decide +kernel
theorem dL_those_24 : decode cL_those 24 = .ok (.invokestatic 8, 3) := by decide +kernel
theorem dL_those_27 : decode cL_those 27 = .ok (.iload_n 3, 1) := by decide +kernel
theorem dL_those_28 : decode cL_those 28 = .ok (.if_icmp .ne 12, 3) := by decide +kernel
theorem dL_those_31 : decode cL_those 31 = .ok (.iload 4, 2) := by decide +kernel
theorem dL_those_33 : decode cL_those 33 = .ok (.iconst 1, 1) := by decide +kernel
theorem dL_those_34 : decode cL_those 34 = .ok (.iload 5, 2) := by decide +kernel
theorem dL_those_36 : decode cL_those 36 = .ok (.ishl, 1) := by decide +kernel
theorem dL_those_37 : decode cL_those 37 = .ok (.ior, 1) := by decide +kernel
theorem dL_those_38 : decode cL_those 38 = .ok (.istore 4, 2) := by decide +kernel
theorem dL_those_40 : decode cL_those 40 = .ok (.iinc 5 1, 3) := by decide +kernel
theorem dL_those_43 : decode cL_those 43 = .ok (.goto (-37), 3) := by decide +kernel
theorem dL_those_46 : decode cL_those 46 = .ok (.iload 4, 2) := by decide +kernel
theorem dL_those_48 : decode cL_those 48 = .ok (.ireturn, 1) := by decide +kernel
theorem dL_prime_0 : decode cL_prime 0 = .ok (.aload_n 0, 1) := by decide +kernel
theorem dL_prime_1 : decode cL_prime 1 = .ok (.iload_n 2, 1) := by decide +kernel
theorem dL_prime_2 : decode cL_prime 2 = .ok (.iload_n 3, 1) := by decide +kernel
theorem dL_prime_3 : decode cL_prime 3 = .ok (.invokestatic 14, 3) := by decide +kernel
theorem dL_prime_6 : decode cL_prime 6 = .ok (.iload_n 1, 1) := by decide +kernel
theorem dL_prime_7 : decode cL_prime 7 = .ok (.iand, 1) := by decide +kernel
theorem dL_prime_8 : decode cL_prime 8 = .ok (.ifCond .eq 5, 3) := by decide +kernel
theorem dL_prime_11 : decode cL_prime 11 = .ok (.iconst 0, 1) := by decide +kernel
theorem dL_prime_12 : decode cL_prime 12 = .ok (.ireturn, 1) := by decide +kernel
theorem dL_prime_13 : decode cL_prime 13 = .ok (.iconst 0, 1) := by decide +kernel
theorem dL_prime_14 : decode cL_prime 14 = .ok (.istore 4, 2) := by decide +kernel
theorem dL_prime_16 : decode cL_prime 16 = .ok (.iload 4, 2) := by decide +kernel
theorem dL_prime_18 : decode cL_prime 18 = .ok (.aload_n 0, 1) := by decide +kernel
theorem dL_prime_19 : decode cL_prime 19 = .ok (.iconst 0, 1) := by decide +kernel
theorem dL_prime_20 : decode cL_prime 20 = .ok (.iaload, 1) := by decide +kernel
theorem dL_prime_21 : decode cL_prime 21 = .ok (.if_icmp .ge 46, 3) := by decide +kernel
theorem dL_prime_24 : decode cL_prime 24 = .ok (.iload_n 2, 1) := by decide +kernel
theorem dL_prime_25 : decode cL_prime 25 = .ok (.iload 4, 2) := by decide +kernel
theorem dL_prime_27 : decode cL_prime 27 = .ok (.ishr, 1) := by decide +kernel
theorem dL_prime_28 : decode cL_prime 28 = .ok (.iconst 1, 1) := by decide +kernel
theorem dL_prime_29 : decode cL_prime 29 = .ok (.iand, 1) := by decide +kernel
theorem dL_prime_30 : decode cL_prime 30 = .ok (.iconst 1, 1) := by decide +kernel
theorem dL_prime_31 : decode cL_prime 31 = .ok (.if_icmp .ne 30, 3) := by decide +kernel
theorem dL_prime_34 : decode cL_prime 34 = .ok (.aload_n 0, 1) := by decide +kernel
theorem dL_prime_35 : decode cL_prime 35 = .ok (.iload_n 2, 1) := by decide +kernel
theorem dL_prime_36 : decode cL_prime 36 = .ok (.iconst 1, 1) := by decide +kernel
theorem dL_prime_37 : decode cL_prime 37 = .ok (.iload 4, 2) := by decide +kernel
theorem dL_prime_39 : decode cL_prime 39 = .ok (.ishl, 1) := by decide +kernel
theorem dL_prime_40 : decode cL_prime 40 = .ok (.iconst (-1), 1) := by decide +kernel
theorem dL_prime_41 : decode cL_prime 41 = .ok (.ixor, 1) := by decide +kernel
theorem dL_prime_42 : decode cL_prime 42 = .ok (.iand, 1) := by decide +kernel
theorem dL_prime_43 : decode cL_prime 43 = .ok (.iload_n 3, 1) := by decide +kernel
theorem dL_prime_44 : decode cL_prime 44 = .ok (.iconst 1, 1) := by decide +kernel
theorem dL_prime_45 : decode cL_prime 45 = .ok (.iload 4, 2) := by decide +kernel
theorem dL_prime_47 : decode cL_prime 47 = .ok (.ishl, 1) := by decide +kernel
theorem dL_prime_48 : decode cL_prime 48 = .ok (.iconst (-1), 1) := by decide +kernel
theorem dL_prime_49 : decode cL_prime 49 = .ok (.ixor, 1) := by decide +kernel
theorem dL_prime_50 : decode cL_prime 50 = .ok (.iand, 1) := by decide +kernel
theorem dL_prime_51 : decode cL_prime 51 = .ok (.invokestatic 14, 3) := by decide +kernel
theorem dL_prime_54 : decode cL_prime 54 = .ok (.iload_n 1, 1) := by decide +kernel
theorem dL_prime_55 : decode cL_prime 55 = .ok (.iand, 1) := by decide +kernel
theorem dL_prime_56 : decode cL_prime 56 = .ok (.ifCond .ne 5, 3) := by decide +kernel
theorem dL_prime_59 : decode cL_prime 59 = .ok (.iconst 0, 1) := by decide +kernel
theorem dL_prime_60 : decode cL_prime 60 = .ok (.ireturn, 1) := by decide +kernel
