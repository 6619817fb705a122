theorem dX0_init_0 : decode cX0_init 0 = .ok (.aload_n 0, 1) := by decide +kernel
theorem dX0_init_1 : decode cX0_init 1 = .ok (.invokespecial 3, 3) := by decide +kernel
theorem dX0_init_4 : decode cX0_init 4 = .ok (.aload_n 0, 1) := by decide +kernel
theorem dX0_init_5 : decode cX0_init 5 = .ok (.bipush 8, 2) := by decide +kernel
theorem dX0_init_7 : decode cX0_init 7 = .ok (.newarray .int, 2) := by decide +kernel
theorem dX0_init_9 : decode cX0_init 9 = .ok (.putfield 9, 3) := by decide +kernel
theorem dX0_init_12 : decode cX0_init 12 = .ok (.aload_n 0, 1) := by decide +kernel
theorem dX0_init_13 : decode cX0_init 13 = .ok (.bipush 8, 2) := by decide +kernel
theorem dX0_init_15 : decode cX0_init 15 = .ok (.newarray .int, 2) := by decide +kernel
theorem dX0_init_17 : decode cX0_init 17 = .ok (.putfield 15, 3) := by decide +kernel
theorem dX0_init_20 : decode cX0_init 20 = .ok (.aload_n 0, 1) := by decide +kernel
theorem dX0_init_21 : decode cX0_init 21 = .ok (.new 18, 3) := by decide +kernel
theorem dX0_init_24 : decode cX0_init 24 = .ok (.dup, 1) := by decide +kernel
theorem dX0_init_25 : decode cX0_init 25 = .ok (.invokespecial 20, 3) := by decide +kernel
theorem dX0_init_28 : decode cX0_init 28 = .ok (.putfield 21, 3) := by decide +kernel
theorem dX0_init_31 : decode cX0_init 31 = .ok (.aload_n 0, 1) := by decide +kernel
theorem dX0_init_32 : decode cX0_init 32 = .ok (.bipush 8, 2) := by decide +kernel
theorem dX0_init_34 : decode cX0_init 34 = .ok (.newarray .int, 2) := by decide +kernel
theorem dX0_init_36 : decode cX0_init 36 = .ok (.putfield 25, 3) := by decide +kernel
theorem dX0_init_39 : decode cX0_init 39 = .ok (.aload_n 0, 1) := by decide +kernel
theorem dX0_init_40 : decode cX0_init 40 = .ok (.iconst (-1), 1) := by decide +kernel
theorem dX0_init_41 : decode cX0_init 41 = .ok (.putfield 28, 3) := by decide +kernel
theorem dX0_init_44 : decode cX0_init 44 = .ok (.aload_n 0, 1) := by decide +kernel
theorem dX0_init_45 : decode cX0_init 45 = .ok (.iconst (-1), 1) := by decide +kernel
theorem dX0_init_46 : decode cX0_init 46 = .ok (.putfield 32, 3) := by decide +kernel
theorem dX0_init_49 : decode cX0_init 49 = .ok (.return_, 1) := by decide +kernel
theorem dX0_clear_0 : decode cX0_clear 0 = .ok (.iconst 0, 1) := by decide +kernel
theorem dX0_clear_1 : decode cX0_clear 1 = .ok (.istore_n 1, 1) := by decide +kernel
theorem dX0_clear_2 : decode cX0_clear 2 = .ok (.iload_n 1, 1) := by decide +kernel
theorem dX0_clear_3 : decode cX0_clear 3 = .ok (.bipush 8, 2) := by decide +kernel
theorem dX0_clear_5 : decode cX0_clear 5 = .ok (.if_icmp .ge 23, 3) := by decide +kernel
theorem dX0_clear_8 : decode cX0_clear 8 = .ok (.aload_n 0, 1) := by decide +kernel
theorem dX0_clear_9 : decode cX0_clear 9 = .ok (.getfield 9, 3) := by decide +kernel
theorem dX0_clear_12 : decode cX0_clear 12 = .ok (.iload_n 1, 1) := by decide +kernel
theorem dX0_clear_13 : decode cX0_clear 13 = .ok (.iconst 0, 1) := by decide +kernel
theorem dX0_clear_14 : decode cX0_clear 14 = .ok (.iastore, 1) := by decide +kernel
theorem dX0_clear_15 : decode cX0_clear 15 = .ok (.aload_n 0, 1) := by decide +kernel
theorem dX0_clear_16 : decode cX0_clear 16 = .ok (.getfield 15, 3) := by decide +kernel
theorem dX0_clear_19 : decode cX0_clear 19 = .ok (.iload_n 1, 1) := by decide +kernel
theorem dX0_clear_20 : decode cX0_clear 20 = .ok (.iconst 0, 1) := by decide +kernel
theorem dX0_clear_21 : decode cX0_clear 21 = .ok (.iastore, 1) := by decide +kernel
theorem dX0_clear_22 : decode cX0_clear 22 = .ok (.iinc 1 1, 3) := by decide +kernel
theorem dX0_clear_25 : decode cX0_clear 25 = .ok (.goto (-23), 3) := by decide +kernel
theorem dX0_clear_28 : decode cX0_clear 28 = .ok (.aload_n 0, 1) := by decide +kernel
theorem dX0_clear_29 : decode cX0_clear 29 = .ok (.getfield 21, 3) := by decide +kernel
theorem dX0_clear_32 : decode cX0_clear 32 = .ok (.iconst 0, 1) := by decide +kernel
theorem dX0_clear_33 : decode cX0_clear 33 = .ok (.putfield 35, 3) := by decide +kernel
theorem dX0_clear_36 : decode cX0_clear 36 = .ok (.aload_n 0, 1) := by decide +kernel
theorem dX0_clear_37 : decode cX0_clear 37 = .ok (.iconst 0, 1) := by decide +kernel
theorem dX0_clear_38 : decode cX0_clear 38 = .ok (.putfield 38, 3) := by decide +kernel
theorem dX0_clear_41 : decode cX0_clear 41 = .ok (.aload_n 0, 1) := by decide +kernel
theorem dX0_clear_42 : decode cX0_clear 42 = .ok (.iconst 0, 1) := by decide +kernel
theorem dX0_clear_43 : decode cX0_clear 43 = .ok (.putfield 41, 3) := by decide +kernel
theorem dX0_clear_46 : decode cX0_clear 46 = .ok (.aload_n 0, 1) := by decide +kernel
theorem dX0_clear_47 : decode cX0_clear 47 = .ok (.invokevirtual 44, 3) := by decide +kernel
theorem dX0_clear_50 : decode cX0_clear 50 = .ok (.aload_n 0, 1) := by decide +kernel
theorem dX0_clear_51 : decode cX0_clear 51 = .ok (.iconst (-1), 1) := by decide +kernel
theorem dX0_clear_52 : decode cX0_clear 52 = .ok (.putfield 32, 3) := by decide +kernel
theorem dX0_clear_55 : decode cX0_clear 55 = .ok (.aload_n 0, 1) := by decide +kernel
theorem dX0_clear_56 : decode cX0_clear 56 = .ok (.iconst 0, 1) := by decide +kernel
theorem dX0_clear_57 : decode cX0_clear 57 = .ok (.putfield 47, 3) := by decide +kernel
theorem dX0_clear_60 : decode cX0_clear 60 = .ok (.aload_n 0, 1) := by decide +kernel
theorem dX0_clear_61 : decode cX0_clear 61 = .ok (.iconst 0, 1) := by decide +kernel
theorem dX0_clear_62 : decode cX0_clear 62 = .ok (.putfield 50, 3) := by decide +kernel
theorem dX0_clear_65 : decode cX0_clear 65 = .ok (.return_, 1) := by decide +kernel
theorem dX0_copyFrom_0 : decode cX0_copyFrom 0 = .ok (.aload_n 1, 1) := by decide +kernel
theorem dX0_copyFrom_1 : decode cX0_copyFrom 1 = .ok (.getfield 9, 3) := by decide +kernel
theorem dX0_copyFrom_4 : decode cX0_copyFrom 4 = .ok (.iconst 0, 1) := by decide +kernel
theorem dX0_copyFrom_5 : decode cX0_copyFrom 5 = .ok (.aload_n 0, 1) := by decide +kernel
theorem dX0_copyFrom_6 : decode cX0_copyFrom 6 = .ok (.getfield 9, 3) := by decide +kernel
theorem dX0_copyFrom_9 : decode cX0_copyFrom 9 = .ok (.iconst 0, 1) := by decide +kernel
theorem dX0_copyFrom_10 : decode cX0_copyFrom 10 = .ok (.bipush 8, 2) := by decide +kernel
theorem dX0_copyFrom_12 : decode cX0_copyFrom 12 = .ok (.invokestatic 53, 3) := by decide +kernel
theorem dX0_copyFrom_15 : decode cX0_copyFrom 15 = .ok (.aload_n 1, 1) := by decide +kernel
theorem dX0_copyFrom_16 : decode cX0_copyFrom 16 = .ok (.getfield 15, 3) := by decide +kernel
theorem dX0_copyFrom_19 : decode cX0_copyFrom 19 = .ok (.iconst 0, 1) := by decide +kernel
theorem dX0_copyFrom_20 : decode cX0_copyFrom 20 = .ok (.aload_n 0, 1) := by decide +kernel
theorem dX0_copyFrom_21 : decode cX0_copyFrom 21 = .ok (.getfield 15, 3) := by decide +kernel
theorem dX0_copyFrom_24 : decode cX0_copyFrom 24 = .ok (.iconst 0, 1) := by decide +kernel
theorem dX0_copyFrom_25 : decode cX0_copyFrom 25 = .ok (.bipush 8, 2) := by decide +kernel
theorem dX0_copyFrom_27 : decode cX0_copyFrom 27 = .ok (.invokestatic 53, 3) := by decide +kernel
theorem dX0_copyFrom_30 : decode cX0_copyFrom 30 = .ok (.aload_n 0, 1) := by decide +kernel
theorem dX0_copyFrom_31 : decode cX0_copyFrom 31 = .ok (.getfield 21, 3) := by decide +kernel
theorem dX0_copyFrom_34 : decode cX0_copyFrom 34 = .ok (.aload_n 1, 1) := by decide +kernel
theorem dX0_copyFrom_35 : decode cX0_copyFrom 35 = .ok (.getfield 21, 3) := by decide +kernel
theorem dX0_copyFrom_38 : decode cX0_copyFrom 38 = .ok (.invokevirtual 59, 3) := by decide +kernel
theorem dX0_copyFrom_41 : decode cX0_copyFrom 41 = .ok (.aload_n 0, 1) := by decide +kernel
theorem dX0_copyFrom_42 : decode cX0_copyFrom 42 = .ok (.aload_n 1, 1) := by decide +kernel
theorem dX0_copyFrom_43 : decode cX0_copyFrom 43 = .ok (.getfield 38, 3) := by decide +kernel
theorem dX0_copyFrom_46 : decode cX0_copyFrom 46 = .ok (.putfield 38, 3) := by decide +kernel
theorem dX0_copyFrom_49 : decode cX0_copyFrom 49 = .ok (.aload_n 0, 1) := by decide +kernel
theorem dX0_copyFrom_50 : decode cX0_copyFrom 50 = .ok (.aload_n 1, 1) := by decide +kernel
theorem dX0_copyFrom_51 : decode cX0_copyFrom 51 = .ok (.getfield 41, 3) := by decide +kernel
theorem dX0_copyFrom_54 : decode cX0_copyFrom 54 = .ok (.putfield 41, 3) := by decide +kernel
theorem dX0_copyFrom_57 : decode cX0_copyFrom 57 = .ok (.aload_n 0, 1) := by decide +kernel
theorem dX0_copyFrom_58 : decode cX0_copyFrom 58 = .ok (.aload_n 1, 1) := by decide +kernel
theorem dX0_copyFrom_59 : decode cX0_copyFrom 59 = .ok (.getfield 28, 3) := by decide +kernel
theorem dX0_copyFrom_62 : decode cX0_copyFrom 62 = .ok (.putfield 28, 3) := by decide +kernel
theorem dX0_copyFrom_65 : decode cX0_copyFrom 65 = .ok (.aload_n 0, 1) := by decide +kernel
theorem dX0_copyFrom_66 : decode cX0_copyFrom 66 = .ok (.aload_n 1, 1) := by decide +kernel
theorem dX0_copyFrom_67 : decode cX0_copyFrom 67 = .ok (.getfield 32, 3) := by decide +kernel
theorem dX0_copyFrom_70 : decode cX0_copyFrom 70 = .ok (.putfield 32, 3) := by decide +kernel
theorem dX0_copyFrom_73 : decode cX0_copyFrom 73 = .ok (.aload_n 0, 1) := by decide +kernel
theorem dX0_copyFrom_74 : decode cX0_copyFrom 74 = .ok (.aload_n 1, 1) := by decide +kernel
theorem dX0_copyFrom_75 : decode cX0_copyFrom 75 = .ok (.getfield 63, 3) := by decide +kernel
theorem dX0_copyFrom_78 : decode cX0_copyFrom 78 = .ok (.putfield 63, 3) := by decide +kernel
theorem dX0_copyFrom_81 : decode cX0_copyFrom 81 = .ok (.aload_n 0, 1) := by decide +kernel
theorem dX0_copyFrom_82 : decode cX0_copyFrom 82 = .ok (.aload_n 1, 1) := by decide +kernel
theorem dX0_copyFrom_83 : decode cX0_copyFrom 83 = .ok (.getfield 66, 3) := by decide +kernel
theorem dX0_copyFrom_86 : decode cX0_copyFrom 86 = .ok (.putfield 66, 3) := by decide +kernel
theorem dX0_copyFrom_89 : decode cX0_copyFrom 89 = .ok (.aload_n 0, 1) := by decide +kernel
theorem dX0_copyFrom_90 : decode cX0_copyFrom 90 = .ok (.aload_n 1, 1) := by decide +kernel
theorem dX0_copyFrom_91 : decode cX0_copyFrom 91 = .ok (.getfield 69, 3) := by decide +kernel
theorem dX0_copyFrom_94 : decode cX0_copyFrom 94 = .ok (.putfield 69, 3) := by decide +kernel
theorem dX0_copyFrom_97 : decode cX0_copyFrom 97 = .ok (.aload_n 0, 1) := by decide +kernel
theorem dX0_copyFrom_98 : decode cX0_copyFrom 98 = .ok (.aload_n 1, 1) := by decide +kernel
theorem dX0_copyFrom_99 : decode cX0_copyFrom 99 = .ok (.getfield 72, 3) := by decide +kernel
theorem dX0_copyFrom_102 : decode cX0_copyFrom 102 = .ok (.putfield 72, 3) := by decide +kernel
theorem dX0_copyFrom_105 : decode cX0_copyFrom 105 = .ok (.aload_n 0, 1) := by decide +kernel
theorem dX0_copyFrom_106 : decode cX0_copyFrom 106 = .ok (.aload_n 1, 1) := by decide +kernel
theorem dX0_copyFrom_107 : decode cX0_copyFrom 107 = .ok (.getfield 75, 3) := by decide +kernel
theorem dX0_copyFrom_110 : decode cX0_copyFrom 110 = .ok (.putfield 75, 3) := by decide +kernel
theorem dX0_copyFrom_113 : decode cX0_copyFrom 113 = .ok (.aload_n 1, 1) := by decide +kernel
theorem dX0_copyFrom_114 : decode cX0_copyFrom 114 = .ok (.getfield 25, 3) := by decide +kernel
theorem dX0_copyFrom_117 : decode cX0_copyFrom 117 = .ok (.iconst 0, 1) := by decide +kernel
theorem dX0_copyFrom_118 : decode cX0_copyFrom 118 = .ok (.aload_n 0, 1) := by decide +kernel
theorem dX0_copyFrom_119 : decode cX0_copyFrom 119 = .ok (.getfield 25, 3) := by decide +kernel
theorem dX0_copyFrom_122 : decode cX0_copyFrom 122 = .ok (.iconst 0, 1) := by decide +kernel
theorem dX0_copyFrom_123 : decode cX0_copyFrom 123 = .ok (.bipush 8, 2) := by decide +kernel
theorem dX0_copyFrom_125 : decode cX0_copyFrom 125 = .ok (.invokestatic 53, 3) := by decide +kernel
theorem dX0_copyFrom_128 : decode cX0_copyFrom 128 = .ok (.aload_n 0, 1) := by decide +kernel
theorem dX0_copyFrom_129 : decode cX0_copyFrom 129 = .ok (.aload_n 1, 1) := by decide +kernel
theorem dX0_copyFrom_130 : decode cX0_copyFrom 130 = .ok (.getfield 47, 3) := by decide +kernel
theorem dX0_copyFrom_133 : decode cX0_copyFrom 133 = .ok (.putfield 47, 3) := by decide +kernel
theorem dX0_copyFrom_136 : decode cX0_copyFrom 136 = .ok (.aload_n 0, 1) := by decide +kernel
theorem dX0_copyFrom_137 : decode cX0_copyFrom 137 = .ok (.aload_n 1, 1) := by decide +kernel
theorem dX0_copyFrom_138 : decode cX0_copyFrom 138 = .ok (.getfield 50, 3) := by decide +kernel
theorem dX0_copyFrom_141 : decode cX0_copyFrom 141 = .ok (.putfield 50, 3) := by decide +kernel
theorem dX0_copyFrom_144 : decode cX0_copyFrom 144 = .ok (.return_, 1) := by decide +kernel
theorem dX0_takeProgram_0 : decode cX0_takeProgram 0 = .ok (.aload_n 0, 1) := by decide +kernel
theorem dX0_takeProgram_1 : decode cX0_takeProgram 1 = .ok (.getfield 21, 3) := by decide +kernel
theorem dX0_takeProgram_4 : decode cX0_takeProgram 4 = .ok (.aload_n 1, 1) := by decide +kernel
theorem dX0_takeProgram_5 : decode cX0_takeProgram 5 = .ok (.invokevirtual 59, 3) := by decide +kernel
theorem dX0_takeProgram_8 : decode cX0_takeProgram 8 = .ok (.aload_n 0, 1) := by decide +kernel
theorem dX0_takeProgram_9 : decode cX0_takeProgram 9 = .ok (.iconst 0, 1) := by decide +kernel
theorem dX0_takeProgram_10 : decode cX0_takeProgram 10 = .ok (.putfield 38, 3) := by decide +kernel
theorem dX0_takeProgram_13 : decode cX0_takeProgram 13 = .ok (.aload_n 0, 1) := by decide +kernel
theorem dX0_takeProgram_14 : decode cX0_takeProgram 14 = .ok (.iconst 0, 1) := by decide +kernel
theorem dX0_takeProgram_15 : decode cX0_takeProgram 15 = .ok (.putfield 41, 3) := by decide +kernel
theorem dX0_takeProgram_18 : decode cX0_takeProgram 18 = .ok (.aload_n 0, 1) := by decide +kernel
theorem dX0_takeProgram_19 : decode cX0_takeProgram 19 = .ok (.iconst (-1), 1) := by decide +kernel
theorem dX0_takeProgram_20 : decode cX0_takeProgram 20 = .ok (.putfield 32, 3) := by decide +kernel
theorem dX0_takeProgram_23 : decode cX0_takeProgram 23 = .ok (.return_, 1) := by decide +kernel
theorem dX0_isFinished_0 : decode cX0_isFinished 0 = .ok (.aload_n 0, 1) := by decide +kernel
theorem dX0_isFinished_1 : decode cX0_isFinished 1 = .ok (.getfield 38, 3) := by decide +kernel
theorem dX0_isFinished_4 : decode cX0_isFinished 4 = .ok (.ifCond .lt 17, 3) := by decide +kernel
theorem dX0_isFinished_7 : decode cX0_isFinished 7 = .ok (.aload_n 0, 1) := by decide +kernel
theorem dX0_isFinished_8 : decode cX0_isFinished 8 = .ok (.getfield 38, 3) := by decide +kernel
theorem dX0_isFinished_11 : decode cX0_isFinished 11 = .ok (.aload_n 0, 1) := by decide +kernel
theorem dX0_isFinished_12 : decode cX0_isFinished 12 = .ok (.getfield 21, 3) := by decide +kernel
theorem dX0_isFinished_15 : decode cX0_isFinished 15 = .ok (.getfield 35, 3) := by decide +kernel
theorem dX0_isFinished_18 : decode cX0_isFinished 18 = .ok (.if_icmp .lt 7, 3) := by decide +kernel
theorem dX0_isFinished_21 : decode cX0_isFinished 21 = .ok (.iconst 1, 1) := by decide +kernel
theorem dX0_isFinished_22 : decode cX0_isFinished 22 = .ok (.goto 4, 3) := by decide +kernel
theorem dX0_isFinished_25 : decode cX0_isFinished 25 = .ok (.iconst 0, 1) := by decide +kernel
theorem dX0_isFinished_26 : decode cX0_isFinished 26 = .ok (.ireturn, 1) := by decide +kernel
theorem dX0_inTransaction_0 : decode cX0_inTransaction 0 = .ok (.aload_n 0, 1) := by decide +kernel
theorem dX0_inTransaction_1 : decode cX0_inTransaction 1 = .ok (.getfield 28, 3) := by decide +kernel
theorem dX0_inTransaction_4 : decode cX0_inTransaction 4 = .ok (.iconst (-1), 1) := by decide +kernel
theorem dX0_inTransaction_5 : decode cX0_inTransaction 5 = .ok (.if_icmp .eq 7, 3) := by decide +kernel
theorem dX0_inTransaction_8 : decode cX0_inTransaction 8 = .ok (.iconst 1, 1) := by decide +kernel
theorem dX0_inTransaction_9 : decode cX0_inTransaction 9 = .ok (.goto 4, 3) := by decide +kernel
theorem dX0_inTransaction_12 : decode cX0_inTransaction 12 = .ok (.iconst 0, 1) := by decide +kernel
theorem dX0_inTransaction_13 : decode cX0_inTransaction 13 = .ok (.ireturn, 1) := by decide +kernel
theorem dX0_beginTransaction_0 : decode cX0_beginTransaction 0 = .ok (.aload_n 0, 1) := by decide +kernel
theorem dX0_beginTransaction_1 : decode cX0_beginTransaction 1 = .ok (.iload_n 1, 1) := by decide +kernel
theorem dX0_beginTransaction_2 : decode cX0_beginTransaction 2 = .ok (.putfield 28, 3) := by decide +kernel
theorem dX0_beginTransaction_5 : decode cX0_beginTransaction 5 = .ok (.aload_n 0, 1) := by decide +kernel
theorem dX0_beginTransaction_6 : decode cX0_beginTransaction 6 = .ok (.iconst (-1), 1) := by decide +kernel
theorem dX0_beginTransaction_7 : decode cX0_beginTransaction 7 = .ok (.putfield 32, 3) := by decide +kernel
theorem dX0_beginTransaction_10 : decode cX0_beginTransaction 10 = .ok (.aload_n 0, 1) := by decide +kernel
theorem dX0_beginTransaction_11 : decode cX0_beginTransaction 11 = .ok (.aload_n 0, 1) := by decide +kernel
theorem dX0_beginTransaction_12 : decode cX0_beginTransaction 12 = .ok (.getfield 38, 3) := by decide +kernel
theorem dX0_beginTransaction_15 : decode cX0_beginTransaction 15 = .ok (.putfield 63, 3) := by decide +kernel
theorem dX0_beginTransaction_18 : decode cX0_beginTransaction 18 = .ok (.aload_n 0, 1) := by decide +kernel
theorem dX0_beginTransaction_19 : decode cX0_beginTransaction 19 = .ok (.aload_n 0, 1) := by decide +kernel
theorem dX0_beginTransaction_20 : decode cX0_beginTransaction 20 = .ok (.getfield 41, 3) := by decide +kernel
theorem dX0_beginTransaction_23 : decode cX0_beginTransaction 23 = .ok (.putfield 66, 3) := by decide +kernel
theorem dX0_beginTransaction_26 : decode cX0_beginTransaction 26 = .ok (.return_, 1) := by decide +kernel
theorem dX0_endTransaction_0 : decode cX0_endTransaction 0 = .ok (.aload_n 0, 1) := by decide +kernel
theorem dX0_endTransaction_1 : decode cX0_endTransaction 1 = .ok (.iconst (-1), 1) := by decide +kernel
theorem dX0_endTransaction_2 : decode cX0_endTransaction 2 = .ok (.putfield 28, 3) := by decide +kernel
theorem dX0_endTransaction_5 : decode cX0_endTransaction 5 = .ok (.aload_n 0, 1) := by decide +kernel
theorem dX0_endTransaction_6 : decode cX0_endTransaction 6 = .ok (.iconst 0, 1) := by decide +kernel
theorem dX0_endTransaction_7 : decode cX0_endTransaction 7 = .ok (.putfield 69, 3) := by decide +kernel
theorem dX0_endTransaction_10 : decode cX0_endTransaction 10 = .ok (.aload_n 0, 1) := by decide +kernel
theorem dX0_endTransaction_11 : decode cX0_endTransaction 11 = .ok (.iconst 0, 1) := by decide +kernel
theorem dX0_endTransaction_12 : decode cX0_endTransaction 12 = .ok (.putfield 72, 3) := by decide +kernel
theorem dX0_endTransaction_15 : decode cX0_endTransaction 15 = .ok (.aload_n 0, 1) := by decide +kernel
theorem dX0_endTransaction_16 : decode cX0_endTransaction 16 = .ok (.iconst 0, 1) := by decide +kernel
theorem dX0_endTransaction_17 : decode cX0_endTransaction 17 = .ok (.putfield 75, 3) := by decide +kernel
theorem dX0_endTransaction_20 : decode cX0_endTransaction 20 = .ok (.return_, 1) := by decide +kernel
theorem dX0_rollBack_0 : decode cX0_rollBack 0 = .ok (.iconst 0, 1) := by decide +kernel
theorem dX0_rollBack_1 : decode cX0_rollBack 1 = .ok (.istore_n 1, 1) := by decide +kernel
theorem dX0_rollBack_2 : decode cX0_rollBack 2 = .ok (.iload_n 1, 1) := by decide +kernel
theorem dX0_rollBack_3 : decode cX0_rollBack 3 = .ok (.bipush 8, 2) := by decide +kernel
theorem dX0_rollBack_5 : decode cX0_rollBack 5 = .ok (.if_icmp .ge 27, 3) := by decide +kernel
theorem dX0_rollBack_8 : decode cX0_rollBack 8 = .ok (.aload_n 0, 1) := by decide +kernel
theorem dX0_rollBack_9 : decode cX0_rollBack 9 = .ok (.getfield 72, 3) := by decide +kernel
theorem dX0_rollBack_12 : decode cX0_rollBack 12 = .ok (.iload_n 1, 1) := by decide +kernel
theorem dX0_rollBack_13 : decode cX0_rollBack 13 = .ok (.invokestatic 78, 3) := by decide +kernel
theorem dX0_rollBack_16 : decode cX0_rollBack 16 = .ok (.ifCond .eq 10, 3) := by decide +kernel
theorem dX0_rollBack_19 : decode cX0_rollBack 19 = .ok (.aload_n 0, 1) := by decide +kernel
theorem dX0_rollBack_20 : decode cX0_rollBack 20 = .ok (.getfield 9, 3) := by decide +kernel
theorem dX0_rollBack_23 : decode cX0_rollBack 23 = .ok (.iload_n 1, 1) := by decide +kernel
theorem dX0_rollBack_24 : decode cX0_rollBack 24 = .ok (.iconst 0, 1) := by decide +kernel
theorem dX0_rollBack_25 : decode cX0_rollBack 25 = .ok (.iastore, 1) := by decide +kernel
theorem dX0_rollBack_26 : decode cX0_rollBack 26 = .ok (.iinc 1 1, 3) := by decide +kernel
theorem dX0_rollBack_29 : decode cX0_rollBack 29 = .ok (.goto (-27), 3) := by decide +kernel
theorem dX0_rollBack_32 : decode cX0_rollBack 32 = .ok (.aload_n 0, 1) := by decide +kernel
theorem dX0_rollBack_33 : decode cX0_rollBack 33 = .ok (.aload_n 0, 1) := by decide +kernel
theorem dX0_rollBack_34 : decode cX0_rollBack 34 = .ok (.getfield 28, 3) := by decide +kernel
theorem dX0_rollBack_37 : decode cX0_rollBack 37 = .ok (.putfield 32, 3) := by decide +kernel
theorem dX0_rollBack_40 : decode cX0_rollBack 40 = .ok (.aload_n 0, 1) := by decide +kernel
theorem dX0_rollBack_41 : decode cX0_rollBack 41 = .ok (.invokevirtual 44, 3) := by decide +kernel
theorem dX0_rollBack_44 : decode cX0_rollBack 44 = .ok (.aload_n 0, 1) := by decide +kernel
theorem dX0_rollBack_45 : decode cX0_rollBack 45 = .ok (.aload_n 0, 1) := by decide +kernel
theorem dX0_rollBack_46 : decode cX0_rollBack 46 = .ok (.getfield 63, 3) := by decide +kernel
theorem dX0_rollBack_49 : decode cX0_rollBack 49 = .ok (.putfield 38, 3) := by decide +kernel
theorem dX0_rollBack_52 : decode cX0_rollBack 52 = .ok (.aload_n 0, 1) := by decide +kernel
theorem dX0_rollBack_53 : decode cX0_rollBack 53 = .ok (.aload_n 0, 1) := by decide +kernel
theorem dX0_rollBack_54 : decode cX0_rollBack 54 = .ok (.getfield 66, 3) := by decide +kernel
theorem dX0_rollBack_57 : decode cX0_rollBack 57 = .ok (.putfield 41, 3) := by decide +kernel
theorem dX0_rollBack_60 : decode cX0_rollBack 60 = .ok (.aload_n 0, 1) := by decide +kernel
theorem dX0_rollBack_61 : decode cX0_rollBack 61 = .ok (.dup, 1) := by decide +kernel
theorem dX0_rollBack_62 : decode cX0_rollBack 62 = .ok (.getfield 50, 3) := by decide +kernel
theorem dX0_rollBack_65 : decode cX0_rollBack 65 = .ok (.iconst 1, 1) := by decide +kernel
theorem dX0_rollBack_66 : decode cX0_rollBack 66 = .ok (.iadd, 1) := by decide +kernel
theorem dX0_rollBack_67 : decode cX0_rollBack 67 = .ok (.putfield 50, 3) := by decide +kernel
theorem dX0_rollBack_70 : decode cX0_rollBack 70 = .ok (.return_, 1) := by decide +kernel
theorem dX0_isHurtBy_0 : decode cX0_isHurtBy 0 = .ok (.iload_n 2, 1) := by decide +kernel
theorem dX0_isHurtBy_1 : decode cX0_isHurtBy 1 = .ok (.ifCond .eq 15, 3) := by decide +kernel
theorem dX0_isHurtBy_4 : decode cX0_isHurtBy 4 = .ok (.aload_n 0, 1) := by decide +kernel
theorem dX0_isHurtBy_5 : decode cX0_isHurtBy 5 = .ok (.getfield 69, 3) := by decide +kernel
theorem dX0_isHurtBy_8 : decode cX0_isHurtBy 8 = .ok (.aload_n 0, 1) := by decide +kernel
theorem dX0_isHurtBy_9 : decode cX0_isHurtBy 9 = .ok (.getfield 72, 3) := by decide +kernel
theorem dX0_isHurtBy_12 : decode cX0_isHurtBy 12 = .ok (.ior, 1) := by decide +kernel
theorem dX0_isHurtBy_13 : decode cX0_isHurtBy 13 = .ok (.goto 7, 3) := by decide +kernel
theorem dX0_isHurtBy_16 : decode cX0_isHurtBy 16 = .ok (.aload_n 0, 1) := by decide +kernel
theorem dX0_isHurtBy_17 : decode cX0_isHurtBy 17 = .ok (.getfield 72, 3) := by decide +kernel
theorem dX0_isHurtBy_20 : decode cX0_isHurtBy 20 = .ok (.iload_n 1, 1) := by decide +kernel
theorem dX0_isHurtBy_21 : decode cX0_isHurtBy 21 = .ok (.invokestatic 78, 3) := by decide +kernel
theorem dX0_isHurtBy_24 : decode cX0_isHurtBy 24 = .ok (.ireturn, 1) := by decide +kernel
theorem dX0_hasNoRoomFor_0 : decode cX0_hasNoRoomFor 0 = .ok (.aload_n 0, 1) := by decide +kernel
theorem dX0_hasNoRoomFor_1 : decode cX0_hasNoRoomFor 1 = .ok (.invokevirtual 82, 3) := by decide +kernel
theorem dX0_hasNoRoomFor_4 : decode cX0_hasNoRoomFor 4 = .ok (.ifCond .eq 29, 3) := by decide +kernel
theorem dX0_hasNoRoomFor_7 : decode cX0_hasNoRoomFor 7 = .ok (.aload_n 0, 1) := by decide +kernel
theorem dX0_hasNoRoomFor_8 : decode cX0_hasNoRoomFor 8 = .ok (.getfield 72, 3) := by decide +kernel
theorem dX0_hasNoRoomFor_11 : decode cX0_hasNoRoomFor 11 = .ok (.iload_n 1, 1) := by decide +kernel
theorem dX0_hasNoRoomFor_12 : decode cX0_hasNoRoomFor 12 = .ok (.invokestatic 78, 3) := by decide +kernel
theorem dX0_hasNoRoomFor_15 : decode cX0_hasNoRoomFor 15 = .ok (.ifCond .ne 18, 3) := by decide +kernel
theorem dX0_hasNoRoomFor_18 : decode cX0_hasNoRoomFor 18 = .ok (.aload_n 0, 1) := by decide +kernel
theorem dX0_hasNoRoomFor_19 : decode cX0_hasNoRoomFor 19 = .ok (.getfield 72, 3) := by decide +kernel
theorem dX0_hasNoRoomFor_22 : decode cX0_hasNoRoomFor 22 = .ok (.invokestatic 86, 3) := by decide +kernel
theorem dX0_hasNoRoomFor_25 : decode cX0_hasNoRoomFor 25 = .ok (.iload_n 2, 1) := by decide +kernel
theorem dX0_hasNoRoomFor_26 : decode cX0_hasNoRoomFor 26 = .ok (.if_icmp .lt 7, 3) := by decide +kernel
theorem dX0_hasNoRoomFor_29 : decode cX0_hasNoRoomFor 29 = .ok (.iconst 1, 1) := by decide +kernel
theorem dX0_hasNoRoomFor_30 : decode cX0_hasNoRoomFor 30 = .ok (.goto 4, 3) := by decide +kernel
theorem dX0_hasNoRoomFor_33 : decode cX0_hasNoRoomFor 33 = .ok (.iconst 0, 1) := by decide +kernel
theorem dX0_hasNoRoomFor_34 : decode cX0_hasNoRoomFor 34 = .ok (.ireturn, 1) := by decide +kernel
theorem dX0_noteRead_0 : decode cX0_noteRead 0 = .ok (.aload_n 0, 1) := by decide +kernel
theorem dX0_noteRead_1 : decode cX0_noteRead 1 = .ok (.invokevirtual 82, 3) := by decide +kernel
theorem dX0_noteRead_4 : decode cX0_noteRead 4 = .ok (.ifCond .ne 4, 3) := by decide +kernel
theorem dX0_noteRead_7 : decode cX0_noteRead 7 = .ok (.return_, 1) := by decide +kernel
theorem dX0_noteRead_8 : decode cX0_noteRead 8 = .ok (.aload_n 0, 1) := by decide +kernel
theorem dX0_noteRead_9 : decode cX0_noteRead 9 = .ok (.getfield 72, 3) := by decide +kernel
theorem dX0_noteRead_12 : decode cX0_noteRead 12 = .ok (.aload_n 0, 1) := by decide +kernel
theorem dX0_noteRead_13 : decode cX0_noteRead 13 = .ok (.getfield 75, 3) := by decide +kernel
theorem dX0_noteRead_16 : decode cX0_noteRead 16 = .ok (.ior, 1) := by decide +kernel
theorem dX0_noteRead_17 : decode cX0_noteRead 17 = .ok (.iload_n 1, 1) := by decide +kernel
theorem dX0_noteRead_18 : decode cX0_noteRead 18 = .ok (.invokestatic 78, 3) := by decide +kernel
theorem dX0_noteRead_21 : decode cX0_noteRead 21 = .ok (.ifCond .ne 27, 3) := by decide +kernel
theorem dX0_noteRead_24 : decode cX0_noteRead 24 = .ok (.aload_n 0, 1) := by decide +kernel
theorem dX0_noteRead_25 : decode cX0_noteRead 25 = .ok (.dup, 1) := by decide +kernel
theorem dX0_noteRead_26 : decode cX0_noteRead 26 = .ok (.getfield 75, 3) := by decide +kernel
theorem dX0_noteRead_29 : decode cX0_noteRead 29 = .ok (.iconst 1, 1) := by decide +kernel
theorem dX0_noteRead_30 : decode cX0_noteRead 30 = .ok (.iload_n 1, 1) := by decide +kernel
theorem dX0_noteRead_31 : decode cX0_noteRead 31 = .ok (.ishl, 1) := by decide +kernel
theorem dX0_noteRead_32 : decode cX0_noteRead 32 = .ok (.ior, 1) := by decide +kernel
theorem dX0_noteRead_33 : decode cX0_noteRead 33 = .ok (.putfield 75, 3) := by decide +kernel
theorem dX0_noteRead_36 : decode cX0_noteRead 36 = .ok (.aload_n 0, 1) := by decide +kernel
theorem dX0_noteRead_37 : decode cX0_noteRead 37 = .ok (.getfield 25, 3) := by decide +kernel
theorem dX0_noteRead_40 : decode cX0_noteRead 40 = .ok (.iload_n 1, 1) := by decide +kernel
theorem dX0_noteRead_41 : decode cX0_noteRead 41 = .ok (.aload_n 0, 1) := by decide +kernel
theorem dX0_noteRead_42 : decode cX0_noteRead 42 = .ok (.getfield 15, 3) := by decide +kernel
theorem dX0_noteRead_45 : decode cX0_noteRead 45 = .ok (.iload_n 1, 1) := by decide +kernel
theorem dX0_noteRead_46 : decode cX0_noteRead 46 = .ok (.iaload, 1) := by decide +kernel
theorem dX0_noteRead_47 : decode cX0_noteRead 47 = .ok (.iastore, 1) := by decide +kernel
theorem dX0_noteRead_48 : decode cX0_noteRead 48 = .ok (.aload_n 0, 1) := by decide +kernel
theorem dX0_noteRead_49 : decode cX0_noteRead 49 = .ok (.dup, 1) := by decide +kernel
theorem dX0_noteRead_50 : decode cX0_noteRead 50 = .ok (.getfield 69, 3) := by decide +kernel
theorem dX0_noteRead_53 : decode cX0_noteRead 53 = .ok (.iconst 1, 1) := by decide +kernel
theorem dX0_noteRead_54 : decode cX0_noteRead 54 = .ok (.iload_n 1, 1) := by decide +kernel
theorem dX0_noteRead_55 : decode cX0_noteRead 55 = .ok (.ishl, 1) := by decide +kernel
theorem dX0_noteRead_56 : decode cX0_noteRead 56 = .ok (.ior, 1) := by decide +kernel
theorem dX0_noteRead_57 : decode cX0_noteRead 57 = .ok (.putfield 69, 3) := by decide +kernel
theorem dX0_noteRead_60 : decode cX0_noteRead 60 = .ok (.return_, 1) := by decide +kernel
theorem dX0_fact_0 : decode cX0_fact 0 = .ok (.iload_n 1, 1) := by decide +kernel
theorem dX0_fact_1 : decode cX0_fact 1 = .ok (.tableswitch 63 0 4 #[35, 40, 45, 53, 58], 35) := by decide +kernel
theorem dX0_fact_36 : decode cX0_fact 36 = .ok (.aload_n 0, 1) := by decide +kernel
theorem dX0_fact_37 : decode cX0_fact 37 = .ok (.getfield 41, 3) := by decide +kernel
theorem dX0_fact_40 : decode cX0_fact 40 = .ok (.ireturn, 1) := by decide +kernel
theorem dX0_fact_41 : decode cX0_fact 41 = .ok (.aload_n 0, 1) := by decide +kernel
theorem dX0_fact_42 : decode cX0_fact 42 = .ok (.getfield 38, 3) := by decide +kernel
theorem dX0_fact_45 : decode cX0_fact 45 = .ok (.ireturn, 1) := by decide +kernel
theorem dX0_fact_46 : decode cX0_fact 46 = .ok (.aload_n 0, 1) := by decide +kernel
theorem dX0_fact_47 : decode cX0_fact 47 = .ok (.getfield 21, 3) := by decide +kernel
theorem dX0_fact_50 : decode cX0_fact 50 = .ok (.getfield 35, 3) := by decide +kernel
theorem dX0_fact_53 : decode cX0_fact 53 = .ok (.ireturn, 1) := by decide +kernel
theorem dX0_fact_54 : decode cX0_fact 54 = .ok (.aload_n 0, 1) := by decide +kernel
theorem dX0_fact_55 : decode cX0_fact 55 = .ok (.getfield 28, 3) := by decide +kernel
theorem dX0_fact_58 : decode cX0_fact 58 = .ok (.ireturn, 1) := by decide +kernel
theorem dX0_fact_59 : decode cX0_fact 59 = .ok (.aload_n 0, 1) := by decide +kernel
theorem dX0_fact_60 : decode cX0_fact 60 = .ok (.getfield 47, 3) := by decide +kernel
theorem dX0_fact_63 : decode cX0_fact 63 = .ok (.ireturn, 1) := by decide +kernel
theorem dX0_fact_64 : decode cX0_fact 64 = .ok (.aload_n 0, 1) := by decide +kernel
theorem dX0_fact_65 : decode cX0_fact 65 = .ok (.getfield 50, 3) := by decide +kernel
theorem dX0_fact_68 : decode cX0_fact 68 = .ok (.ireturn, 1) := by decide +kernel
theorem dX1_init_0 : decode cX1_init 0 = .ok (.aload_n 0, 1) := by decide +kernel
theorem dX1_init_1 : decode cX1_init 1 = .ok (.invokespecial 3, 3) := by decide +kernel
theorem dX1_init_4 : decode cX1_init 4 = .ok (.aload_n 0, 1) := by decide +kernel
theorem dX1_init_5 : decode cX1_init 5 = .ok (.iload_n 1, 1) := by decide +kernel
theorem dX1_init_6 : decode cX1_init 6 = .ok (.ifCond .ge 7, 3) := by decide +kernel
theorem dX1_init_9 : decode cX1_init 9 = .ok (.iconst 0, 1) := by decide +kernel
theorem dX1_init_10 : decode cX1_init 10 = .ok (.goto 4, 3) := by decide +kernel
theorem dX1_init_13 : decode cX1_init 13 = .ok (.iload_n 1, 1) := by decide +kernel
theorem dX1_init_14 : decode cX1_init 14 = .ok (.putfield 9, 3) := by decide +kernel
theorem dX1_init_17 : decode cX1_init 17 = .ok (.aload_n 0, 1) := by decide +kernel
theorem dX1_init_18 : decode cX1_init 18 = .ok (.aload_n 0, 1) := by decide +kernel
theorem dX1_init_19 : decode cX1_init 19 = .ok (.getfield 9, 3) := by decide +kernel
theorem dX1_init_22 : decode cX1_init 22 = .ok (.newarray .int, 2) := by decide +kernel
theorem dX1_init_24 : decode cX1_init 24 = .ok (.putfield 15, 3) := by decide +kernel
theorem dX1_init_27 : decode cX1_init 27 = .ok (.aload_n 0, 1) := by decide +kernel
theorem dX1_init_28 : decode cX1_init 28 = .ok (.aload_n 0, 1) := by decide +kernel
theorem dX1_init_29 : decode cX1_init 29 = .ok (.getfield 9, 3) := by decide +kernel
theorem dX1_init_32 : decode cX1_init 32 = .ok (.newarray .int, 2) := by decide +kernel
theorem dX1_init_34 : decode cX1_init 34 = .ok (.putfield 19, 3) := by decide +kernel
theorem dX1_init_37 : decode cX1_init 37 = .ok (.aload_n 0, 1) := by decide +kernel
theorem dX1_init_38 : decode cX1_init 38 = .ok (.aload_n 0, 1) := by decide +kernel
theorem dX1_init_39 : decode cX1_init 39 = .ok (.getfield 9, 3) := by decide +kernel
theorem dX1_init_42 : decode cX1_init 42 = .ok (.newarray .int, 2) := by decide +kernel
theorem dX1_init_44 : decode cX1_init 44 = .ok (.putfield 22, 3) := by decide +kernel
theorem dX1_init_47 : decode cX1_init 47 = .ok (.aload_n 0, 1) := by decide +kernel
theorem dX1_init_48 : decode cX1_init 48 = .ok (.aload_n 0, 1) := by decide +kernel
theorem dX1_init_49 : decode cX1_init 49 = .ok (.getfield 9, 3) := by decide +kernel
theorem dX1_init_52 : decode cX1_init 52 = .ok (.newarray .int, 2) := by decide +kernel
theorem dX1_init_54 : decode cX1_init 54 = .ok (.putfield 25, 3) := by decide +kernel
theorem dX1_init_57 : decode cX1_init 57 = .ok (.aload_n 0, 1) := by decide +kernel
theorem dX1_init_58 : decode cX1_init 58 = .ok (.aload_n 0, 1) := by decide +kernel
theorem dX1_init_59 : decode cX1_init 59 = .ok (.getfield 9, 3) := by decide +kernel
theorem dX1_init_62 : decode cX1_init 62 = .ok (.bipush 8, 2) := by decide +kernel
theorem dX1_init_64 : decode cX1_init 64 = .ok (.imul, 1) := by decide +kernel
theorem dX1_init_65 : decode cX1_init 65 = .ok (.newarray .int, 2) := by decide +kernel
theorem dX1_init_67 : decode cX1_init 67 = .ok (.putfield 28, 3) := by decide +kernel
theorem dX1_init_70 : decode cX1_init 70 = .ok (.aload_n 0, 1) := by decide +kernel
theorem dX1_init_71 : decode cX1_init 71 = .ok (.aload_n 0, 1) := by decide +kernel
theorem dX1_init_72 : decode cX1_init 72 = .ok (.getfield 9, 3) := by decide +kernel
theorem dX1_init_75 : decode cX1_init 75 = .ok (.bipush 8, 2) := by decide +kernel
theorem dX1_init_77 : decode cX1_init 77 = .ok (.imul, 1) := by decide +kernel
theorem dX1_init_78 : decode cX1_init 78 = .ok (.newarray .int, 2) := by decide +kernel
theorem dX1_init_80 : decode cX1_init 80 = .ok (.putfield 31, 3) := by decide +kernel
theorem dX1_init_83 : decode cX1_init 83 = .ok (.aload_n 0, 1) := by decide +kernel
theorem dX1_init_84 : decode cX1_init 84 = .ok (.iconst 0, 1) := by decide +kernel
theorem dX1_init_85 : decode cX1_init 85 = .ok (.putfield 34, 3) := by decide +kernel
theorem dX1_init_88 : decode cX1_init 88 = .ok (.return_, 1) := by decide +kernel
theorem dX1_hasEntry_0 : decode cX1_hasEntry 0 = .ok (.iload_n 1, 1) := by decide +kernel
theorem dX1_hasEntry_1 : decode cX1_hasEntry 1 = .ok (.ifCond .lt 23, 3) := by decide +kernel
theorem dX1_hasEntry_4 : decode cX1_hasEntry 4 = .ok (.iload_n 1, 1) := by decide +kernel
theorem dX1_hasEntry_5 : decode cX1_hasEntry 5 = .ok (.aload_n 0, 1) := by decide +kernel
theorem dX1_hasEntry_6 : decode cX1_hasEntry 6 = .ok (.getfield 34, 3) := by decide +kernel
theorem dX1_hasEntry_9 : decode cX1_hasEntry 9 = .ok (.if_icmp .ge 15, 3) := by decide +kernel
theorem dX1_hasEntry_12 : decode cX1_hasEntry 12 = .ok (.iload_n 1, 1) := by decide +kernel
theorem dX1_hasEntry_13 : decode cX1_hasEntry 13 = .ok (.aload_n 0, 1) := by decide +kernel
theorem dX1_hasEntry_14 : decode cX1_hasEntry 14 = .ok (.getfield 9, 3) := by decide +kernel
theorem dX1_hasEntry_17 : decode cX1_hasEntry 17 = .ok (.if_icmp .ge 7, 3) := by decide +kernel
theorem dX1_hasEntry_20 : decode cX1_hasEntry 20 = .ok (.iconst 1, 1) := by decide +kernel
theorem dX1_hasEntry_21 : decode cX1_hasEntry 21 = .ok (.goto 4, 3) := by decide +kernel
theorem dX1_hasEntry_24 : decode cX1_hasEntry 24 = .ok (.iconst 0, 1) := by decide +kernel
theorem dX1_hasEntry_25 : decode cX1_hasEntry 25 = .ok (.ireturn, 1) := by decide +kernel
theorem dX1_addTransaction_0 : decode cX1_addTransaction 0 = .ok (.aload_n 0, 1) := by decide +kernel
theorem dX1_addTransaction_1 : decode cX1_addTransaction 1 = .ok (.iload_n 1, 1) := by decide +kernel
theorem dX1_addTransaction_2 : decode cX1_addTransaction 2 = .ok (.aload_n 2, 1) := by decide +kernel
theorem dX1_addTransaction_3 : decode cX1_addTransaction 3 = .ok (.getfield 37, 3) := by decide +kernel
theorem dX1_addTransaction_6 : decode cX1_addTransaction 6 = .ok (.aload_n 2, 1) := by decide +kernel
theorem dX1_addTransaction_7 : decode cX1_addTransaction 7 = .ok (.getfield 42, 3) := by decide +kernel
theorem dX1_addTransaction_10 : decode cX1_addTransaction 10 = .ok (.aload_n 2, 1) := by decide +kernel
theorem dX1_addTransaction_11 : decode cX1_addTransaction 11 = .ok (.getfield 45, 3) := by decide +kernel
theorem dX1_addTransaction_14 : decode cX1_addTransaction 14 = .ok (.aload_n 2, 1) := by decide +kernel
theorem dX1_addTransaction_15 : decode cX1_addTransaction 15 = .ok (.getfield 48, 3) := by decide +kernel
theorem dX1_addTransaction_18 : decode cX1_addTransaction 18 = .ok (.aload_n 2, 1) := by decide +kernel
theorem dX1_addTransaction_19 : decode cX1_addTransaction 19 = .ok (.getfield 51, 3) := by decide +kernel
theorem dX1_addTransaction_22 : decode cX1_addTransaction 22 = .ok (.invokevirtual 54, 3) := by decide +kernel
theorem dX1_addTransaction_25 : decode cX1_addTransaction 25 = .ok (.return_, 1) := by decide +kernel
theorem dX1_addWrite_0 : decode cX1_addWrite 0 = .ok (.aload_n 0, 1) := by decide +kernel
theorem dX1_addWrite_1 : decode cX1_addWrite 1 = .ok (.iload_n 1, 1) := by decide +kernel
theorem dX1_addWrite_2 : decode cX1_addWrite 2 = .ok (.iconst (-1), 1) := by decide +kernel
theorem dX1_addWrite_3 : decode cX1_addWrite 3 = .ok (.iconst 0, 1) := by decide +kernel
theorem dX1_addWrite_4 : decode cX1_addWrite 4 = .ok (.aload_n 3, 1) := by decide +kernel
theorem dX1_addWrite_5 : decode cX1_addWrite 5 = .ok (.iconst 1, 1) := by decide +kernel
theorem dX1_addWrite_6 : decode cX1_addWrite 6 = .ok (.iload_n 2, 1) := by decide +kernel
theorem dX1_addWrite_7 : decode cX1_addWrite 7 = .ok (.ishl, 1) := by decide +kernel
theorem dX1_addWrite_8 : decode cX1_addWrite 8 = .ok (.aload_n 3, 1) := by decide +kernel
theorem dX1_addWrite_9 : decode cX1_addWrite 9 = .ok (.invokevirtual 54, 3) := by decide +kernel
theorem dX1_addWrite_12 : decode cX1_addWrite 12 = .ok (.return_, 1) := by decide +kernel
theorem dX1_addEntry_0 : decode cX1_addEntry 0 = .ok (.aload_n 0, 1) := by decide +kernel
theorem dX1_addEntry_1 : decode cX1_addEntry 1 = .ok (.getfield 34, 3) := by decide +kernel
theorem dX1_addEntry_4 : decode cX1_addEntry 4 = .ok (.ifCond .lt 14, 3) := by decide +kernel
theorem dX1_addEntry_7 : decode cX1_addEntry 7 = .ok (.aload_n 0, 1) := by decide +kernel
theorem dX1_addEntry_8 : decode cX1_addEntry 8 = .ok (.getfield 34, 3) := by decide +kernel
theorem dX1_addEntry_11 : decode cX1_addEntry 11 = .ok (.aload_n 0, 1) := by decide +kernel
theorem dX1_addEntry_12 : decode cX1_addEntry 12 = .ok (.getfield 9, 3) := by decide +kernel
theorem dX1_addEntry_15 : decode cX1_addEntry 15 = .ok (.if_icmp .lt 4, 3) := by decide +kernel
theorem dX1_addEntry_18 : decode cX1_addEntry 18 = .ok (.return_, 1) := by decide +kernel
theorem dX1_addEntry_19 : decode cX1_addEntry 19 = .ok (.aload_n 0, 1) := by decide +kernel
theorem dX1_addEntry_20 : decode cX1_addEntry 20 = .ok (.getfield 15, 3) := by decide +kernel
theorem dX1_addEntry_23 : decode cX1_addEntry 23 = .ok (.aload_n 0, 1) := by decide +kernel
theorem dX1_addEntry_24 : decode cX1_addEntry 24 = .ok (.getfield 34, 3) := by decide +kernel
theorem dX1_addEntry_27 : decode cX1_addEntry 27 = .ok (.iload_n 1, 1) := by decide +kernel
theorem dX1_addEntry_28 : decode cX1_addEntry 28 = .ok (.iastore, 1) := by decide +kernel
theorem dX1_addEntry_29 : decode cX1_addEntry 29 = .ok (.aload_n 0, 1) := by decide +kernel
theorem dX1_addEntry_30 : decode cX1_addEntry 30 = .ok (.getfield 19, 3) := by decide +kernel
theorem dX1_addEntry_33 : decode cX1_addEntry 33 = .ok (.aload_n 0, 1) := by decide +kernel
theorem dX1_addEntry_34 : decode cX1_addEntry 34 = .ok (.getfield 34, 3) := by decide +kernel
theorem dX1_addEntry_37 : decode cX1_addEntry 37 = .ok (.iload_n 2, 1) := by decide +kernel
theorem dX1_addEntry_38 : decode cX1_addEntry 38 = .ok (.iastore, 1) := by decide +kernel
theorem dX1_addEntry_39 : decode cX1_addEntry 39 = .ok (.aload_n 0, 1) := by decide +kernel
theorem dX1_addEntry_40 : decode cX1_addEntry 40 = .ok (.getfield 22, 3) := by decide +kernel
theorem dX1_addEntry_43 : decode cX1_addEntry 43 = .ok (.aload_n 0, 1) := by decide +kernel
theorem dX1_addEntry_44 : decode cX1_addEntry 44 = .ok (.getfield 34, 3) := by decide +kernel
theorem dX1_addEntry_47 : decode cX1_addEntry 47 = .ok (.iload_n 3, 1) := by decide +kernel
theorem dX1_addEntry_48 : decode cX1_addEntry 48 = .ok (.iastore, 1) := by decide +kernel
theorem dX1_addEntry_49 : decode cX1_addEntry 49 = .ok (.aload_n 0, 1) := by decide +kernel
theorem dX1_addEntry_50 : decode cX1_addEntry 50 = .ok (.getfield 25, 3) := by decide +kernel
theorem dX1_addEntry_53 : decode cX1_addEntry 53 = .ok (.aload_n 0, 1) := by decide +kernel
theorem dX1_addEntry_54 : decode cX1_addEntry 54 = .ok (.getfield 34, 3) := by decide +kernel
theorem dX1_addEntry_57 : decode cX1_addEntry 57 = .ok (.iload 5, 2) := by decide +kernel
theorem dX1_addEntry_59 : decode cX1_addEntry 59 = .ok (.iastore, 1) := by decide +kernel
theorem dX1_addEntry_60 : decode cX1_addEntry 60 = .ok (.iconst 0, 1) := by decide +kernel
theorem dX1_addEntry_61 : decode cX1_addEntry 61 = .ok (.istore 7, 2) := by decide +kernel
theorem dX1_addEntry_63 : decode cX1_addEntry 63 = .ok (.iload 7, 2) := by decide +kernel
theorem dX1_addEntry_65 : decode cX1_addEntry 65 = .ok (.bipush 8, 2) := by decide +kernel
theorem dX1_addEntry_67 : decode cX1_addEntry 67 = .ok (.if_icmp .ge 76, 3) := by decide +kernel
theorem dX1_addEntry_70 : decode cX1_addEntry 70 = .ok (.aload_n 0, 1) := by decide +kernel
theorem dX1_addEntry_71 : decode cX1_addEntry 71 = .ok (.getfield 28, 3) := by decide +kernel
theorem dX1_addEntry_74 : decode cX1_addEntry 74 = .ok (.aload_n 0, 1) := by decide +kernel
theorem dX1_addEntry_75 : decode cX1_addEntry 75 = .ok (.getfield 34, 3) := by decide +kernel
theorem dX1_addEntry_78 : decode cX1_addEntry 78 = .ok (.bipush 8, 2) := by decide +kernel
theorem dX1_addEntry_80 : decode cX1_addEntry 80 = .ok (.imul, 1) := by decide +kernel
theorem dX1_addEntry_81 : decode cX1_addEntry 81 = .ok (.iload 7, 2) := by decide +kernel
theorem dX1_addEntry_83 : decode cX1_addEntry 83 = .ok (.iadd, 1) := by decide +kernel
theorem dX1_addEntry_84 : decode cX1_addEntry 84 = .ok (.iload_n 3, 1) := by decide +kernel
theorem dX1_addEntry_85 : decode cX1_addEntry 85 = .ok (.iload 7, 2) := by decide +kernel
theorem dX1_addEntry_87 : decode cX1_addEntry 87 = .ok (.invokestatic 58, 3) := by decide +kernel
theorem dX1_addEntry_90 : decode cX1_addEntry 90 = .ok (.ifCond .eq 11, 3) := by decide +kernel
theorem dX1_addEntry_93 : decode cX1_addEntry 93 = .ok (.aload 4, 2) := by decide +kernel
theorem dX1_addEntry_95 : decode cX1_addEntry 95 = .ok (.iload 7, 2) := by decide +kernel
theorem dX1_addEntry_97 : decode cX1_addEntry 97 = .ok (.iaload, 1) := by decide +kernel
theorem dX1_addEntry_98 : decode cX1_addEntry 98 = .ok (.goto 4, 3) := by decide +kernel
theorem dX1_addEntry_101 : decode cX1_addEntry 101 = .ok (.iconst 0, 1) := by decide +kernel
theorem dX1_addEntry_102 : decode cX1_addEntry 102 = .ok (.iastore, 1) := by decide +kernel
theorem dX1_addEntry_103 : decode cX1_addEntry 103 = .ok (.aload_n 0, 1) := by decide +kernel
theorem dX1_addEntry_104 : decode cX1_addEntry 104 = .ok (.getfield 31, 3) := by decide +kernel
theorem dX1_addEntry_107 : decode cX1_addEntry 107 = .ok (.aload_n 0, 1) := by decide +kernel
theorem dX1_addEntry_108 : decode cX1_addEntry 108 = .ok (.getfield 34, 3) := by decide +kernel
theorem dX1_addEntry_111 : decode cX1_addEntry 111 = .ok (.bipush 8, 2) := by decide +kernel
theorem dX1_addEntry_113 : decode cX1_addEntry 113 = .ok (.imul, 1) := by decide +kernel
theorem dX1_addEntry_114 : decode cX1_addEntry 114 = .ok (.iload 7, 2) := by decide +kernel
theorem dX1_addEntry_116 : decode cX1_addEntry 116 = .ok (.iadd, 1) := by decide +kernel
theorem dX1_addEntry_117 : decode cX1_addEntry 117 = .ok (.iload 5, 2) := by decide +kernel
theorem dX1_addEntry_119 : decode cX1_addEntry 119 = .ok (.iload 7, 2) := by decide +kernel
theorem dX1_addEntry_121 : decode cX1_addEntry 121 = .ok (.invokestatic 58, 3) := by decide +kernel
theorem dX1_addEntry_124 : decode cX1_addEntry 124 = .ok (.ifCond .eq 11, 3) := by decide +kernel
theorem dX1_addEntry_127 : decode cX1_addEntry 127 = .ok (.aload 6, 2) := by decide +kernel
theorem dX1_addEntry_129 : decode cX1_addEntry 129 = .ok (.iload 7, 2) := by decide +kernel
theorem dX1_addEntry_131 : decode cX1_addEntry 131 = .ok (.iaload, 1) := by decide +kernel
theorem dX1_addEntry_132 : decode cX1_addEntry 132 = .ok (.goto 4, 3) := by decide +kernel
theorem dX1_addEntry_135 : decode cX1_addEntry 135 = .ok (.iconst 0, 1) := by decide +kernel
theorem dX1_addEntry_136 : decode cX1_addEntry 136 = .ok (.iastore, 1) := by decide +kernel
theorem dX1_addEntry_137 : decode cX1_addEntry 137 = .ok (.iinc 7 1, 3) := by decide +kernel
theorem dX1_addEntry_140 : decode cX1_addEntry 140 = .ok (.goto (-77), 3) := by decide +kernel
theorem dX1_addEntry_143 : decode cX1_addEntry 143 = .ok (.aload_n 0, 1) := by decide +kernel
theorem dX1_addEntry_144 : decode cX1_addEntry 144 = .ok (.dup, 1) := by decide +kernel
theorem dX1_addEntry_145 : decode cX1_addEntry 145 = .ok (.getfield 34, 3) := by decide +kernel
theorem dX1_addEntry_148 : decode cX1_addEntry 148 = .ok (.iconst 1, 1) := by decide +kernel
theorem dX1_addEntry_149 : decode cX1_addEntry 149 = .ok (.iadd, 1) := by decide +kernel
theorem dX1_addEntry_150 : decode cX1_addEntry 150 = .ok (.putfield 34, 3) := by decide +kernel
theorem dX1_addEntry_153 : decode cX1_addEntry 153 = .ok (.return_, 1) := by decide +kernel
theorem dX1_fact_0 : decode cX1_fact 0 = .ok (.iload_n 2, 1) := by decide +kernel
theorem dX1_fact_1 : decode cX1_fact 1 = .ok (.tableswitch 48 0 2 #[27, 34, 41], 27) := by decide +kernel
theorem dX1_fact_28 : decode cX1_fact 28 = .ok (.aload_n 0, 1) := by decide +kernel
theorem dX1_fact_29 : decode cX1_fact 29 = .ok (.getfield 15, 3) := by decide +kernel
theorem dX1_fact_32 : decode cX1_fact 32 = .ok (.iload_n 1, 1) := by decide +kernel
theorem dX1_fact_33 : decode cX1_fact 33 = .ok (.iaload, 1) := by decide +kernel
theorem dX1_fact_34 : decode cX1_fact 34 = .ok (.ireturn, 1) := by decide +kernel
theorem dX1_fact_35 : decode cX1_fact 35 = .ok (.aload_n 0, 1) := by decide +kernel
theorem dX1_fact_36 : decode cX1_fact 36 = .ok (.getfield 19, 3) := by decide +kernel
theorem dX1_fact_39 : decode cX1_fact 39 = .ok (.iload_n 1, 1) := by decide +kernel
theorem dX1_fact_40 : decode cX1_fact 40 = .ok (.iaload, 1) := by decide +kernel
theorem dX1_fact_41 : decode cX1_fact 41 = .ok (.ireturn, 1) := by decide +kernel
theorem dX1_fact_42 : decode cX1_fact 42 = .ok (.aload_n 0, 1) := by decide +kernel
theorem dX1_fact_43 : decode cX1_fact 43 = .ok (.getfield 22, 3) := by decide +kernel
theorem dX1_fact_46 : decode cX1_fact 46 = .ok (.iload_n 1, 1) := by decide +kernel
theorem dX1_fact_47 : decode cX1_fact 47 = .ok (.iaload, 1) := by decide +kernel
theorem dX1_fact_48 : decode cX1_fact 48 = .ok (.ireturn, 1) := by decide +kernel
theorem dX1_fact_49 : decode cX1_fact 49 = .ok (.aload_n 0, 1) := by decide +kernel
theorem dX1_fact_50 : decode cX1_fact 50 = .ok (.getfield 25, 3) := by decide +kernel
theorem dX1_fact_53 : decode cX1_fact 53 = .ok (.iload_n 1, 1) := by decide +kernel
theorem dX1_fact_54 : decode cX1_fact 54 = .ok (.iaload, 1) := by decide +kernel
theorem dX1_fact_55 : decode cX1_fact 55 = .ok (.ireturn, 1) := by decide +kernel
theorem dX1_lineValue_0 : decode cX1_lineValue 0 = .ok (.iload_n 3, 1) := by decide +kernel
theorem dX1_lineValue_1 : decode cX1_lineValue 1 = .ok (.ifCond .eq 17, 3) := by decide +kernel
theorem dX1_lineValue_4 : decode cX1_lineValue 4 = .ok (.aload_n 0, 1) := by decide +kernel
theorem dX1_lineValue_5 : decode cX1_lineValue 5 = .ok (.getfield 31, 3) := by decide +kernel
theorem dX1_lineValue_8 : decode cX1_lineValue 8 = .ok (.iload_n 1, 1) := by decide +kernel
theorem dX1_lineValue_9 : decode cX1_lineValue 9 = .ok (.bipush 8, 2) := by decide +kernel
theorem dX1_lineValue_11 : decode cX1_lineValue 11 = .ok (.imul, 1) := by decide +kernel
theorem dX1_lineValue_12 : decode cX1_lineValue 12 = .ok (.iload_n 2, 1) := by decide +kernel
theorem dX1_lineValue_13 : decode cX1_lineValue 13 = .ok (.iadd, 1) := by decide +kernel
theorem dX1_lineValue_14 : decode cX1_lineValue 14 = .ok (.iaload, 1) := by decide +kernel
theorem dX1_lineValue_15 : decode cX1_lineValue 15 = .ok (.goto 14, 3) := by decide +kernel
theorem dX1_lineValue_18 : decode cX1_lineValue 18 = .ok (.aload_n 0, 1) := by decide +kernel
theorem dX1_lineValue_19 : decode cX1_lineValue 19 = .ok (.getfield 28, 3) := by decide +kernel
theorem dX1_lineValue_22 : decode cX1_lineValue 22 = .ok (.iload_n 1, 1) := by decide +kernel
theorem dX1_lineValue_23 : decode cX1_lineValue 23 = .ok (.bipush 8, 2) := by decide +kernel
theorem dX1_lineValue_25 : decode cX1_lineValue 25 = .ok (.imul, 1) := by decide +kernel
theorem dX1_lineValue_26 : decode cX1_lineValue 26 = .ok (.iload_n 2, 1) := by decide +kernel
theorem dX1_lineValue_27 : decode cX1_lineValue 27 = .ok (.iadd, 1) := by decide +kernel
theorem dX1_lineValue_28 : decode cX1_lineValue 28 = .ok (.iaload, 1) := by decide +kernel
theorem dX1_lineValue_29 : decode cX1_lineValue 29 = .ok (.ireturn, 1) := by decide +kernel
theorem dX1_replaysOn_0 : decode cX1_replaysOn 0 = .ok (.iconst 0, 1) := by decide +kernel
theorem dX1_replaysOn_1 : decode cX1_replaysOn 1 = .ok (.istore_n 2, 1) := by decide +kernel
theorem dX1_replaysOn_2 : decode cX1_replaysOn 2 = .ok (.iload_n 2, 1) := by decide +kernel
theorem dX1_replaysOn_3 : decode cX1_replaysOn 3 = .ok (.bipush 8, 2) := by decide +kernel
theorem dX1_replaysOn_5 : decode cX1_replaysOn 5 = .ok (.if_icmp .ge 13, 3) := by decide +kernel
theorem dX1_replaysOn_8 : decode cX1_replaysOn 8 = .ok (.aload_n 1, 1) := by decide +kernel
theorem dX1_replaysOn_9 : decode cX1_replaysOn 9 = .ok (.iload_n 2, 1) := by decide +kernel
theorem dX1_replaysOn_10 : decode cX1_replaysOn 10 = .ok (.iconst 0, 1) := by decide +kernel
theorem dX1_replaysOn_11 : decode cX1_replaysOn 11 = .ok (.iastore, 1) := by decide +kernel
theorem dX1_replaysOn_12 : decode cX1_replaysOn 12 = .ok (.iinc 2 1, 3) := by decide +kernel
theorem dX1_replaysOn_15 : decode cX1_replaysOn 15 = .ok (.goto (-13), 3) := by decide +kernel
theorem dX1_replaysOn_18 : decode cX1_replaysOn 18 = .ok (.iconst 0, 1) := by decide +kernel
theorem dX1_replaysOn_19 : decode cX1_replaysOn 19 = .ok (.istore_n 2, 1) := by decide +kernel
theorem dX1_replaysOn_20 : decode cX1_replaysOn 20 = .ok (.iload_n 2, 1) := by decide +kernel
theorem dX1_replaysOn_21 : decode cX1_replaysOn 21 = .ok (.aload_n 0, 1) := by decide +kernel
theorem dX1_replaysOn_22 : decode cX1_replaysOn 22 = .ok (.getfield 34, 3) := by decide +kernel
theorem dX1_replaysOn_25 : decode cX1_replaysOn 25 = .ok (.if_icmp .ge 26, 3) := by decide +kernel
theorem dX1_replaysOn_28 : decode cX1_replaysOn 28 = .ok (.aload_n 0, 1) := by decide +kernel
theorem dX1_replaysOn_29 : decode cX1_replaysOn 29 = .ok (.iload_n 2, 1) := by decide +kernel
theorem dX1_replaysOn_30 : decode cX1_replaysOn 30 = .ok (.aload_n 1, 1) := by decide +kernel
theorem dX1_replaysOn_31 : decode cX1_replaysOn 31 = .ok (.invokevirtual 62, 3) := by decide +kernel
theorem dX1_replaysOn_34 : decode cX1_replaysOn 34 = .ok (.ifCond .ne 5, 3) := by decide +kernel
theorem dX1_replaysOn_37 : decode cX1_replaysOn 37 = .ok (.iconst 0, 1) := by decide +kernel
theorem dX1_replaysOn_38 : decode cX1_replaysOn 38 = .ok (.ireturn, 1) := by decide +kernel
theorem dX1_replaysOn_39 : decode cX1_replaysOn 39 = .ok (.aload_n 0, 1) := by decide +kernel
theorem dX1_replaysOn_40 : decode cX1_replaysOn 40 = .ok (.iload_n 2, 1) := by decide +kernel
theorem dX1_replaysOn_41 : decode cX1_replaysOn 41 = .ok (.aload_n 1, 1) := by decide +kernel
theorem dX1_replaysOn_42 : decode cX1_replaysOn 42 = .ok (.invokevirtual 66, 3) := by decide +kernel
theorem dX1_replaysOn_45 : decode cX1_replaysOn 45 = .ok (.iinc 2 1, 3) := by decide +kernel
theorem dX1_replaysOn_48 : decode cX1_replaysOn 48 = .ok (.goto (-28), 3) := by decide +kernel
theorem dX1_replaysOn_51 : decode cX1_replaysOn 51 = .ok (.iconst 1, 1) := by decide +kernel
theorem dX1_replaysOn_52 : decode cX1_replaysOn 52 = .ok (.ireturn, 1) := by decide +kernel
theorem dX1_readsMatch_0 : decode cX1_readsMatch 0 = .ok (.iconst 0, 1) := by decide +kernel
theorem dX1_readsMatch_1 : decode cX1_readsMatch 1 = .ok (.istore_n 3, 1) := by decide +kernel
theorem dX1_readsMatch_2 : decode cX1_readsMatch 2 = .ok (.iload_n 3, 1) := by decide +kernel
theorem dX1_readsMatch_3 : decode cX1_readsMatch 3 = .ok (.bipush 8, 2) := by decide +kernel
theorem dX1_readsMatch_5 : decode cX1_readsMatch 5 = .ok (.if_icmp .ge 37, 3) := by decide +kernel
theorem dX1_readsMatch_8 : decode cX1_readsMatch 8 = .ok (.aload_n 0, 1) := by decide +kernel
theorem dX1_readsMatch_9 : decode cX1_readsMatch 9 = .ok (.getfield 22, 3) := by decide +kernel
theorem dX1_readsMatch_12 : decode cX1_readsMatch 12 = .ok (.iload_n 1, 1) := by decide +kernel
theorem dX1_readsMatch_13 : decode cX1_readsMatch 13 = .ok (.iaload, 1) := by decide +kernel
theorem dX1_readsMatch_14 : decode cX1_readsMatch 14 = .ok (.iload_n 3, 1) := by decide +kernel
theorem dX1_readsMatch_15 : decode cX1_readsMatch 15 = .ok (.invokestatic 58, 3) := by decide +kernel
theorem dX1_readsMatch_18 : decode cX1_readsMatch 18 = .ok (.ifCond .eq 18, 3) := by decide +kernel
theorem dX1_readsMatch_21 : decode cX1_readsMatch 21 = .ok (.aload_n 0, 1) := by decide +kernel
theorem dX1_readsMatch_22 : decode cX1_readsMatch 22 = .ok (.iload_n 1, 1) := by decide +kernel
theorem dX1_readsMatch_23 : decode cX1_readsMatch 23 = .ok (.iload_n 3, 1) := by decide +kernel
theorem dX1_readsMatch_24 : decode cX1_readsMatch 24 = .ok (.iconst 0, 1) := by decide +kernel
theorem dX1_readsMatch_25 : decode cX1_readsMatch 25 = .ok (.invokevirtual 70, 3) := by decide +kernel
theorem dX1_readsMatch_28 : decode cX1_readsMatch 28 = .ok (.aload_n 2, 1) := by decide +kernel
theorem dX1_readsMatch_29 : decode cX1_readsMatch 29 = .ok (.iload_n 3, 1) := by decide +kernel
theorem dX1_readsMatch_30 : decode cX1_readsMatch 30 = .ok (.iaload, 1) := by decide +kernel
theorem dX1_readsMatch_31 : decode cX1_readsMatch 31 = .ok (.if_icmp .eq 5, 3) := by decide +kernel
theorem dX1_readsMatch_34 : decode cX1_readsMatch 34 = .ok (.iconst 0, 1) := by decide +kernel
theorem dX1_readsMatch_35 : decode cX1_readsMatch 35 = .ok (.ireturn, 1) := by decide +kernel
theorem dX1_readsMatch_36 : decode cX1_readsMatch 36 = .ok (.iinc 3 1, 3) := by decide +kernel
theorem dX1_readsMatch_39 : decode cX1_readsMatch 39 = .ok (.goto (-37), 3) := by decide +kernel
theorem dX1_readsMatch_42 : decode cX1_readsMatch 42 = .ok (.iconst 1, 1) := by decide +kernel
theorem dX1_readsMatch_43 : decode cX1_readsMatch 43 = .ok (.ireturn, 1) := by decide +kernel
theorem dX1_applyWrites_0 : decode cX1_applyWrites 0 = .ok (.iconst 0, 1) := by decide +kernel
theorem dX1_applyWrites_1 : decode cX1_applyWrites 1 = .ok (.istore_n 3, 1) := by decide +kernel
theorem dX1_applyWrites_2 : decode cX1_applyWrites 2 = .ok (.iload_n 3, 1) := by decide +kernel
theorem dX1_applyWrites_3 : decode cX1_applyWrites 3 = .ok (.bipush 8, 2) := by decide +kernel
theorem dX1_applyWrites_5 : decode cX1_applyWrites 5 = .ok (.if_icmp .ge 32, 3) := by decide +kernel
theorem dX1_applyWrites_8 : decode cX1_applyWrites 8 = .ok (.aload_n 0, 1) := by decide +kernel
theorem dX1_applyWrites_9 : decode cX1_applyWrites 9 = .ok (.getfield 25, 3) := by decide +kernel
theorem dX1_applyWrites_12 : decode cX1_applyWrites 12 = .ok (.iload_n 1, 1) := by decide +kernel
theorem dX1_applyWrites_13 : decode cX1_applyWrites 13 = .ok (.iaload, 1) := by decide +kernel
theorem dX1_applyWrites_14 : decode cX1_applyWrites 14 = .ok (.iload_n 3, 1) := by decide +kernel
theorem dX1_applyWrites_15 : decode cX1_applyWrites 15 = .ok (.invokestatic 58, 3) := by decide +kernel
theorem dX1_applyWrites_18 : decode cX1_applyWrites 18 = .ok (.ifCond .eq 13, 3) := by decide +kernel
theorem dX1_applyWrites_21 : decode cX1_applyWrites 21 = .ok (.aload_n 2, 1) := by decide +kernel
theorem dX1_applyWrites_22 : decode cX1_applyWrites 22 = .ok (.iload_n 3, 1) := by decide +kernel
theorem dX1_applyWrites_23 : decode cX1_applyWrites 23 = .ok (.aload_n 0, 1) := by decide +kernel
theorem dX1_applyWrites_24 : decode cX1_applyWrites 24 = .ok (.iload_n 1, 1) := by decide +kernel
theorem dX1_applyWrites_25 : decode cX1_applyWrites 25 = .ok (.iload_n 3, 1) := by decide +kernel
theorem dX1_applyWrites_26 : decode cX1_applyWrites 26 = .ok (.iconst 1, 1) := by decide +kernel
theorem dX1_applyWrites_27 : decode cX1_applyWrites 27 = .ok (.invokevirtual 70, 3) := by decide +kernel
theorem dX1_applyWrites_30 : decode cX1_applyWrites 30 = .ok (.iastore, 1) := by decide +kernel
theorem dX1_applyWrites_31 : decode cX1_applyWrites 31 = .ok (.iinc 3 1, 3) := by decide +kernel
theorem dX1_applyWrites_34 : decode cX1_applyWrites 34 = .ok (.goto (-32), 3) := by decide +kernel
theorem dX1_applyWrites_37 : decode cX1_applyWrites 37 = .ok (.return_, 1) := by decide +kernel
theorem dX1_copyFrom_0 : decode cX1_copyFrom 0 = .ok (.aload_n 1, 1) := by decide +kernel
theorem dX1_copyFrom_1 : decode cX1_copyFrom 1 = .ok (.getfield 34, 3) := by decide +kernel
theorem dX1_copyFrom_4 : decode cX1_copyFrom 4 = .ok (.aload_n 0, 1) := by decide +kernel
theorem dX1_copyFrom_5 : decode cX1_copyFrom 5 = .ok (.getfield 9, 3) := by decide +kernel
theorem dX1_copyFrom_8 : decode cX1_copyFrom 8 = .ok (.invokestatic 74, 3) := by decide +kernel
theorem dX1_copyFrom_11 : decode cX1_copyFrom 11 = .ok (.istore_n 2, 1) := by decide +kernel
theorem dX1_copyFrom_12 : decode cX1_copyFrom 12 = .ok (.aload_n 1, 1) := by decide +kernel
theorem dX1_copyFrom_13 : decode cX1_copyFrom 13 = .ok (.getfield 15, 3) := by decide +kernel
theorem dX1_copyFrom_16 : decode cX1_copyFrom 16 = .ok (.iconst 0, 1) := by decide +kernel
theorem dX1_copyFrom_17 : decode cX1_copyFrom 17 = .ok (.aload_n 0, 1) := by decide +kernel
theorem dX1_copyFrom_18 : decode cX1_copyFrom 18 = .ok (.getfield 15, 3) := by decide +kernel
theorem dX1_copyFrom_21 : decode cX1_copyFrom 21 = .ok (.iconst 0, 1) := by decide +kernel
theorem dX1_copyFrom_22 : decode cX1_copyFrom 22 = .ok (.iload_n 2, 1) := by decide +kernel
theorem dX1_copyFrom_23 : decode cX1_copyFrom 23 = .ok (.invokestatic 80, 3) := by decide +kernel
theorem dX1_copyFrom_26 : decode cX1_copyFrom 26 = .ok (.aload_n 1, 1) := by decide +kernel
theorem dX1_copyFrom_27 : decode cX1_copyFrom 27 = .ok (.getfield 19, 3) := by decide +kernel
theorem dX1_copyFrom_30 : decode cX1_copyFrom 30 = .ok (.iconst 0, 1) := by decide +kernel
theorem dX1_copyFrom_31 : decode cX1_copyFrom 31 = .ok (.aload_n 0, 1) := by decide +kernel
theorem dX1_copyFrom_32 : decode cX1_copyFrom 32 = .ok (.getfield 19, 3) := by decide +kernel
theorem dX1_copyFrom_35 : decode cX1_copyFrom 35 = .ok (.iconst 0, 1) := by decide +kernel
theorem dX1_copyFrom_36 : decode cX1_copyFrom 36 = .ok (.iload_n 2, 1) := by decide +kernel
theorem dX1_copyFrom_37 : decode cX1_copyFrom 37 = .ok (.invokestatic 80, 3) := by decide +kernel
theorem dX1_copyFrom_40 : decode cX1_copyFrom 40 = .ok (.aload_n 1, 1) := by decide +kernel
theorem dX1_copyFrom_41 : decode cX1_copyFrom 41 = .ok (.getfield 22, 3) := by decide +kernel
theorem dX1_copyFrom_44 : decode cX1_copyFrom 44 = .ok (.iconst 0, 1) := by decide +kernel
theorem dX1_copyFrom_45 : decode cX1_copyFrom 45 = .ok (.aload_n 0, 1) := by decide +kernel
theorem dX1_copyFrom_46 : decode cX1_copyFrom 46 = .ok (.getfield 22, 3) := by decide +kernel
theorem dX1_copyFrom_49 : decode cX1_copyFrom 49 = .ok (.iconst 0, 1) := by decide +kernel
theorem dX1_copyFrom_50 : decode cX1_copyFrom 50 = .ok (.iload_n 2, 1) := by decide +kernel
theorem dX1_copyFrom_51 : decode cX1_copyFrom 51 = .ok (.invokestatic 80, 3) := by decide +kernel
theorem dX1_copyFrom_54 : decode cX1_copyFrom 54 = .ok (.aload_n 1, 1) := by decide +kernel
theorem dX1_copyFrom_55 : decode cX1_copyFrom 55 = .ok (.getfield 25, 3) := by decide +kernel
theorem dX1_copyFrom_58 : decode cX1_copyFrom 58 = .ok (.iconst 0, 1) := by decide +kernel
theorem dX1_copyFrom_59 : decode cX1_copyFrom 59 = .ok (.aload_n 0, 1) := by decide +kernel
theorem dX1_copyFrom_60 : decode cX1_copyFrom 60 = .ok (.getfield 25, 3) := by decide +kernel
theorem dX1_copyFrom_63 : decode cX1_copyFrom 63 = .ok (.iconst 0, 1) := by decide +kernel
theorem dX1_copyFrom_64 : decode cX1_copyFrom 64 = .ok (.iload_n 2, 1) := by decide +kernel
theorem dX1_copyFrom_65 : decode cX1_copyFrom 65 = .ok (.invokestatic 80, 3) := by decide +kernel
theorem dX1_copyFrom_68 : decode cX1_copyFrom 68 = .ok (.aload_n 1, 1) := by decide +kernel
theorem dX1_copyFrom_69 : decode cX1_copyFrom 69 = .ok (.getfield 28, 3) := by decide +kernel
theorem dX1_copyFrom_72 : decode cX1_copyFrom 72 = .ok (.iconst 0, 1) := by decide +kernel
theorem dX1_copyFrom_73 : decode cX1_copyFrom 73 = .ok (.aload_n 0, 1) := by decide +kernel
theorem dX1_copyFrom_74 : decode cX1_copyFrom 74 = .ok (.getfield 28, 3) := by decide +kernel
theorem dX1_copyFrom_77 : decode cX1_copyFrom 77 = .ok (.iconst 0, 1) := by decide +kernel
theorem dX1_copyFrom_78 : decode cX1_copyFrom 78 = .ok (.iload_n 2, 1) := by decide +kernel
theorem dX1_copyFrom_79 : decode cX1_copyFrom 79 = .ok (.bipush 8, 2) := by decide +kernel
theorem dX1_copyFrom_81 : decode cX1_copyFrom 81 = .ok (.imul, 1) := by decide +kernel
theorem dX1_copyFrom_82 : decode cX1_copyFrom 82 = .ok (.invokestatic 80, 3) := by decide +kernel
theorem dX1_copyFrom_85 : decode cX1_copyFrom 85 = .ok (.aload_n 1, 1) := by decide +kernel
theorem dX1_copyFrom_86 : decode cX1_copyFrom 86 = .ok (.getfield 31, 3) := by decide +kernel
theorem dX1_copyFrom_89 : decode cX1_copyFrom 89 = .ok (.iconst 0, 1) := by decide +kernel
theorem dX1_copyFrom_90 : decode cX1_copyFrom 90 = .ok (.aload_n 0, 1) := by decide +kernel
theorem dX1_copyFrom_91 : decode cX1_copyFrom 91 = .ok (.getfield 31, 3) := by decide +kernel
theorem dX1_copyFrom_94 : decode cX1_copyFrom 94 = .ok (.iconst 0, 1) := by decide +kernel
theorem dX1_copyFrom_95 : decode cX1_copyFrom 95 = .ok (.iload_n 2, 1) := by decide +kernel
theorem dX1_copyFrom_96 : decode cX1_copyFrom 96 = .ok (.bipush 8, 2) := by decide +kernel
theorem dX1_copyFrom_98 : decode cX1_copyFrom 98 = .ok (.imul, 1) := by decide +kernel
theorem dX1_copyFrom_99 : decode cX1_copyFrom 99 = .ok (.invokestatic 80, 3) := by decide +kernel
theorem dX1_copyFrom_102 : decode cX1_copyFrom 102 = .ok (.aload_n 0, 1) := by decide +kernel
theorem dX1_copyFrom_103 : decode cX1_copyFrom 103 = .ok (.iload_n 2, 1) := by decide +kernel
theorem dX1_copyFrom_104 : decode cX1_copyFrom 104 = .ok (.putfield 34, 3) := by decide +kernel
theorem dX1_copyFrom_107 : decode cX1_copyFrom 107 = .ok (.return_, 1) := by decide +kernel
theorem dX2_init_0 : decode cX2_init 0 = .ok (.aload_n 0, 1) := by decide +kernel
theorem dX2_init_1 : decode cX2_init 1 = .ok (.invokespecial 3, 3) := by decide +kernel
theorem dX2_init_4 : decode cX2_init 4 = .ok (.aload_n 0, 1) := by decide +kernel
theorem dX2_init_5 : decode cX2_init 5 = .ok (.iconst 4, 1) := by decide +kernel
theorem dX2_init_6 : decode cX2_init 6 = .ok (.anewarray 9, 3) := by decide +kernel
theorem dX2_init_9 : decode cX2_init 9 = .ok (.putfield 11, 3) := by decide +kernel
theorem dX2_init_12 : decode cX2_init 12 = .ok (.iconst 0, 1) := by decide +kernel
theorem dX2_init_13 : decode cX2_init 13 = .ok (.istore_n 2, 1) := by decide +kernel
theorem dX2_init_14 : decode cX2_init 14 = .ok (.iload_n 2, 1) := by decide +kernel
theorem dX2_init_15 : decode cX2_init 15 = .ok (.iconst 4, 1) := by decide +kernel
theorem dX2_init_16 : decode cX2_init 16 = .ok (.if_icmp .ge 22, 3) := by decide +kernel
theorem dX2_init_19 : decode cX2_init 19 = .ok (.aload_n 0, 1) := by decide +kernel
theorem dX2_init_20 : decode cX2_init 20 = .ok (.getfield 11, 3) := by decide +kernel
theorem dX2_init_23 : decode cX2_init 23 = .ok (.iload_n 2, 1) := by decide +kernel
theorem dX2_init_24 : decode cX2_init 24 = .ok (.new 9, 3) := by decide +kernel
theorem dX2_init_27 : decode cX2_init 27 = .ok (.dup, 1) := by decide +kernel
theorem dX2_init_28 : decode cX2_init 28 = .ok (.invokespecial 17, 3) := by decide +kernel
theorem dX2_init_31 : decode cX2_init 31 = .ok (.aastore, 1) := by decide +kernel
theorem dX2_init_32 : decode cX2_init 32 = .ok (.iinc 2 1, 3) := by decide +kernel
theorem dX2_init_35 : decode cX2_init 35 = .ok (.goto (-21), 3) := by decide +kernel
theorem dX2_init_38 : decode cX2_init 38 = .ok (.aload_n 0, 1) := by decide +kernel
theorem dX2_init_39 : decode cX2_init 39 = .ok (.bipush 8, 2) := by decide +kernel
theorem dX2_init_41 : decode cX2_init 41 = .ok (.newarray .int, 2) := by decide +kernel
theorem dX2_init_43 : decode cX2_init 43 = .ok (.putfield 18, 3) := by decide +kernel
theorem dX2_init_46 : decode cX2_init 46 = .ok (.aload_n 0, 1) := by decide +kernel
theorem dX2_init_47 : decode cX2_init 47 = .ok (.bipush 8, 2) := by decide +kernel
theorem dX2_init_49 : decode cX2_init 49 = .ok (.newarray .int, 2) := by decide +kernel
theorem dX2_init_51 : decode cX2_init 51 = .ok (.putfield 22, 3) := by decide +kernel
theorem dX2_init_54 : decode cX2_init 54 = .ok (.aload_n 0, 1) := by decide +kernel
theorem dX2_init_55 : decode cX2_init 55 = .ok (.new 25, 3) := by decide +kernel
theorem dX2_init_58 : decode cX2_init 58 = .ok (.dup, 1) := by decide +kernel
theorem dX2_init_59 : decode cX2_init 59 = .ok (.iload_n 1, 1) := by decide +kernel
theorem dX2_init_60 : decode cX2_init 60 = .ok (.invokespecial 27, 3) := by decide +kernel
theorem dX2_init_63 : decode cX2_init 63 = .ok (.putfield 30, 3) := by decide +kernel
theorem dX2_init_66 : decode cX2_init 66 = .ok (.aload_n 0, 1) := by decide +kernel
theorem dX2_init_67 : decode cX2_init 67 = .ok (.iconst 2, 1) := by decide +kernel
theorem dX2_init_68 : decode cX2_init 68 = .ok (.putfield 34, 3) := by decide +kernel
theorem dX2_init_71 : decode cX2_init 71 = .ok (.aload_n 0, 1) := by decide +kernel
theorem dX2_init_72 : decode cX2_init 72 = .ok (.iconst 0, 1) := by decide +kernel
theorem dX2_init_73 : decode cX2_init 73 = .ok (.putfield 38, 3) := by decide +kernel
theorem dX2_init_76 : decode cX2_init 76 = .ok (.aload_n 0, 1) := by decide +kernel
theorem dX2_init_77 : decode cX2_init 77 = .ok (.iconst 4, 1) := by decide +kernel
theorem dX2_init_78 : decode cX2_init 78 = .ok (.putfield 41, 3) := by decide +kernel
theorem dX2_init_81 : decode cX2_init 81 = .ok (.aload_n 0, 1) := by decide +kernel
theorem dX2_init_82 : decode cX2_init 82 = .ok (.iconst 1, 1) := by decide +kernel
theorem dX2_init_83 : decode cX2_init 83 = .ok (.putfield 44, 3) := by decide +kernel
theorem dX2_init_86 : decode cX2_init 86 = .ok (.aload_n 0, 1) := by decide +kernel
theorem dX2_init_87 : decode cX2_init 87 = .ok (.iconst 0, 1) := by decide +kernel
theorem dX2_init_88 : decode cX2_init 88 = .ok (.putfield 47, 3) := by decide +kernel
theorem dX2_init_91 : decode cX2_init 91 = .ok (.return_, 1) := by decide +kernel
theorem dX2_startAnew_0 : decode cX2_startAnew 0 = .ok (.aload_n 0, 1) := by decide +kernel
theorem dX2_startAnew_1 : decode cX2_startAnew 1 = .ok (.iload_n 1, 1) := by decide +kernel
theorem dX2_startAnew_2 : decode cX2_startAnew 2 = .ok (.putfield 34, 3) := by decide +kernel
theorem dX2_startAnew_5 : decode cX2_startAnew 5 = .ok (.aload_n 0, 1) := by decide +kernel
theorem dX2_startAnew_6 : decode cX2_startAnew 6 = .ok (.iload_n 2, 1) := by decide +kernel
theorem dX2_startAnew_7 : decode cX2_startAnew 7 = .ok (.putfield 38, 3) := by decide +kernel
theorem dX2_startAnew_10 : decode cX2_startAnew 10 = .ok (.aload_n 0, 1) := by decide +kernel
theorem dX2_startAnew_11 : decode cX2_startAnew 11 = .ok (.iload_n 3, 1) := by decide +kernel
theorem dX2_startAnew_12 : decode cX2_startAnew 12 = .ok (.putfield 41, 3) := by decide +kernel
theorem dX2_startAnew_15 : decode cX2_startAnew 15 = .ok (.aload_n 0, 1) := by decide +kernel
theorem dX2_startAnew_16 : decode cX2_startAnew 16 = .ok (.iconst 0, 1) := by decide +kernel
theorem dX2_startAnew_17 : decode cX2_startAnew 17 = .ok (.putfield 47, 3) := by decide +kernel
theorem dX2_startAnew_20 : decode cX2_startAnew 20 = .ok (.aload_n 0, 1) := by decide +kernel
theorem dX2_startAnew_21 : decode cX2_startAnew 21 = .ok (.getfield 30, 3) := by decide +kernel
theorem dX2_startAnew_24 : decode cX2_startAnew 24 = .ok (.iconst 0, 1) := by decide +kernel
theorem dX2_startAnew_25 : decode cX2_startAnew 25 = .ok (.putfield 50, 3) := by decide +kernel
theorem dX2_startAnew_28 : decode cX2_startAnew 28 = .ok (.iconst 0, 1) := by decide +kernel
theorem dX2_startAnew_29 : decode cX2_startAnew 29 = .ok (.istore 4, 2) := by decide +kernel
theorem dX2_startAnew_31 : decode cX2_startAnew 31 = .ok (.iload 4, 2) := by decide +kernel
theorem dX2_startAnew_33 : decode cX2_startAnew 33 = .ok (.iconst 4, 1) := by decide +kernel
theorem dX2_startAnew_34 : decode cX2_startAnew 34 = .ok (.if_icmp .ge 19, 3) := by decide +kernel
theorem dX2_startAnew_37 : decode cX2_startAnew 37 = .ok (.aload_n 0, 1) := by decide +kernel
theorem dX2_startAnew_38 : decode cX2_startAnew 38 = .ok (.getfield 11, 3) := by decide +kernel
theorem dX2_startAnew_41 : decode cX2_startAnew 41 = .ok (.iload 4, 2) := by decide +kernel
theorem dX2_startAnew_43 : decode cX2_startAnew 43 = .ok (.aaload, 1) := by decide +kernel
theorem dX2_startAnew_44 : decode cX2_startAnew 44 = .ok (.invokevirtual 53, 3) := by decide +kernel
theorem dX2_startAnew_47 : decode cX2_startAnew 47 = .ok (.iinc 4 1, 3) := by decide +kernel
theorem dX2_startAnew_50 : decode cX2_startAnew 50 = .ok (.goto (-19), 3) := by decide +kernel
theorem dX2_startAnew_53 : decode cX2_startAnew 53 = .ok (.iconst 0, 1) := by decide +kernel
theorem dX2_startAnew_54 : decode cX2_startAnew 54 = .ok (.istore 4, 2) := by decide +kernel
theorem dX2_startAnew_56 : decode cX2_startAnew 56 = .ok (.iload 4, 2) := by decide +kernel
theorem dX2_startAnew_58 : decode cX2_startAnew 58 = .ok (.bipush 8, 2) := by decide +kernel
theorem dX2_startAnew_60 : decode cX2_startAnew 60 = .ok (.if_icmp .ge 17, 3) := by decide +kernel
theorem dX2_startAnew_63 : decode cX2_startAnew 63 = .ok (.aload_n 0, 1) := by decide +kernel
theorem dX2_startAnew_64 : decode cX2_startAnew 64 = .ok (.getfield 18, 3) := by decide +kernel
theorem dX2_startAnew_67 : decode cX2_startAnew 67 = .ok (.iload 4, 2) := by decide +kernel
theorem dX2_startAnew_69 : decode cX2_startAnew 69 = .ok (.iconst 0, 1) := by decide +kernel
theorem dX2_startAnew_70 : decode cX2_startAnew 70 = .ok (.iastore, 1) := by decide +kernel
theorem dX2_startAnew_71 : decode cX2_startAnew 71 = .ok (.iinc 4 1, 3) := by decide +kernel
theorem dX2_startAnew_74 : decode cX2_startAnew 74 = .ok (.goto (-18), 3) := by decide +kernel
theorem dX2_startAnew_77 : decode cX2_startAnew 77 = .ok (.iconst 0, 1) := by decide +kernel
theorem dX2_startAnew_78 : decode cX2_startAnew 78 = .ok (.istore 4, 2) := by decide +kernel
theorem dX2_startAnew_80 : decode cX2_startAnew 80 = .ok (.iload 4, 2) := by decide +kernel
theorem dX2_startAnew_82 : decode cX2_startAnew 82 = .ok (.bipush 8, 2) := by decide +kernel
theorem dX2_startAnew_84 : decode cX2_startAnew 84 = .ok (.if_icmp .ge 17, 3) := by decide +kernel
theorem dX2_startAnew_87 : decode cX2_startAnew 87 = .ok (.aload_n 0, 1) := by decide +kernel
theorem dX2_startAnew_88 : decode cX2_startAnew 88 = .ok (.getfield 22, 3) := by decide +kernel
theorem dX2_startAnew_91 : decode cX2_startAnew 91 = .ok (.iload 4, 2) := by decide +kernel
theorem dX2_startAnew_93 : decode cX2_startAnew 93 = .ok (.iconst 0, 1) := by decide +kernel
theorem dX2_startAnew_94 : decode cX2_startAnew 94 = .ok (.iastore, 1) := by decide +kernel
theorem dX2_startAnew_95 : decode cX2_startAnew 95 = .ok (.iinc 4 1, 3) := by decide +kernel
theorem dX2_startAnew_98 : decode cX2_startAnew 98 = .ok (.goto (-18), 3) := by decide +kernel
theorem dX2_startAnew_101 : decode cX2_startAnew 101 = .ok (.return_, 1) := by decide +kernel
theorem dX2_copyFrom_0 : decode cX2_copyFrom 0 = .ok (.iconst 0, 1) := by decide +kernel
theorem dX2_copyFrom_1 : decode cX2_copyFrom 1 = .ok (.istore_n 2, 1) := by decide +kernel
theorem dX2_copyFrom_2 : decode cX2_copyFrom 2 = .ok (.iload_n 2, 1) := by decide +kernel
theorem dX2_copyFrom_3 : decode cX2_copyFrom 3 = .ok (.iconst 4, 1) := by decide +kernel
theorem dX2_copyFrom_4 : decode cX2_copyFrom 4 = .ok (.if_icmp .ge 24, 3) := by decide +kernel
theorem dX2_copyFrom_7 : decode cX2_copyFrom 7 = .ok (.aload_n 0, 1) := by decide +kernel
theorem dX2_copyFrom_8 : decode cX2_copyFrom 8 = .ok (.getfield 11, 3) := by decide +kernel
theorem dX2_copyFrom_11 : decode cX2_copyFrom 11 = .ok (.iload_n 2, 1) := by decide +kernel
theorem dX2_copyFrom_12 : decode cX2_copyFrom 12 = .ok (.aaload, 1) := by decide +kernel
theorem dX2_copyFrom_13 : decode cX2_copyFrom 13 = .ok (.aload_n 1, 1) := by decide +kernel
theorem dX2_copyFrom_14 : decode cX2_copyFrom 14 = .ok (.getfield 11, 3) := by decide +kernel
theorem dX2_copyFrom_17 : decode cX2_copyFrom 17 = .ok (.iload_n 2, 1) := by decide +kernel
theorem dX2_copyFrom_18 : decode cX2_copyFrom 18 = .ok (.aaload, 1) := by decide +kernel
theorem dX2_copyFrom_19 : decode cX2_copyFrom 19 = .ok (.invokevirtual 56, 3) := by decide +kernel
theorem dX2_copyFrom_22 : decode cX2_copyFrom 22 = .ok (.iinc 2 1, 3) := by decide +kernel
theorem dX2_copyFrom_25 : decode cX2_copyFrom 25 = .ok (.goto (-23), 3) := by decide +kernel
theorem dX2_copyFrom_28 : decode cX2_copyFrom 28 = .ok (.aload_n 1, 1) := by decide +kernel
theorem dX2_copyFrom_29 : decode cX2_copyFrom 29 = .ok (.getfield 18, 3) := by decide +kernel
theorem dX2_copyFrom_32 : decode cX2_copyFrom 32 = .ok (.iconst 0, 1) := by decide +kernel
theorem dX2_copyFrom_33 : decode cX2_copyFrom 33 = .ok (.aload_n 0, 1) := by decide +kernel
theorem dX2_copyFrom_34 : decode cX2_copyFrom 34 = .ok (.getfield 18, 3) := by decide +kernel
theorem dX2_copyFrom_37 : decode cX2_copyFrom 37 = .ok (.iconst 0, 1) := by decide +kernel
theorem dX2_copyFrom_38 : decode cX2_copyFrom 38 = .ok (.bipush 8, 2) := by decide +kernel
theorem dX2_copyFrom_40 : decode cX2_copyFrom 40 = .ok (.invokestatic 60, 3) := by decide +kernel
theorem dX2_copyFrom_43 : decode cX2_copyFrom 43 = .ok (.aload_n 1, 1) := by decide +kernel
theorem dX2_copyFrom_44 : decode cX2_copyFrom 44 = .ok (.getfield 22, 3) := by decide +kernel
theorem dX2_copyFrom_47 : decode cX2_copyFrom 47 = .ok (.iconst 0, 1) := by decide +kernel
theorem dX2_copyFrom_48 : decode cX2_copyFrom 48 = .ok (.aload_n 0, 1) := by decide +kernel
theorem dX2_copyFrom_49 : decode cX2_copyFrom 49 = .ok (.getfield 22, 3) := by decide +kernel
theorem dX2_copyFrom_52 : decode cX2_copyFrom 52 = .ok (.iconst 0, 1) := by decide +kernel
theorem dX2_copyFrom_53 : decode cX2_copyFrom 53 = .ok (.bipush 8, 2) := by decide +kernel
theorem dX2_copyFrom_55 : decode cX2_copyFrom 55 = .ok (.invokestatic 60, 3) := by decide +kernel
theorem dX2_copyFrom_58 : decode cX2_copyFrom 58 = .ok (.aload_n 0, 1) := by decide +kernel
theorem dX2_copyFrom_59 : decode cX2_copyFrom 59 = .ok (.getfield 30, 3) := by decide +kernel
theorem dX2_copyFrom_62 : decode cX2_copyFrom 62 = .ok (.aload_n 1, 1) := by decide +kernel
theorem dX2_copyFrom_63 : decode cX2_copyFrom 63 = .ok (.getfield 30, 3) := by decide +kernel
theorem dX2_copyFrom_66 : decode cX2_copyFrom 66 = .ok (.invokevirtual 66, 3) := by decide +kernel
theorem dX2_copyFrom_69 : decode cX2_copyFrom 69 = .ok (.aload_n 0, 1) := by decide +kernel
theorem dX2_copyFrom_70 : decode cX2_copyFrom 70 = .ok (.aload_n 1, 1) := by decide +kernel
theorem dX2_copyFrom_71 : decode cX2_copyFrom 71 = .ok (.getfield 34, 3) := by decide +kernel
theorem dX2_copyFrom_74 : decode cX2_copyFrom 74 = .ok (.putfield 34, 3) := by decide +kernel
theorem dX2_copyFrom_77 : decode cX2_copyFrom 77 = .ok (.aload_n 0, 1) := by decide +kernel
theorem dX2_copyFrom_78 : decode cX2_copyFrom 78 = .ok (.aload_n 1, 1) := by decide +kernel
theorem dX2_copyFrom_79 : decode cX2_copyFrom 79 = .ok (.getfield 38, 3) := by decide +kernel
theorem dX2_copyFrom_82 : decode cX2_copyFrom 82 = .ok (.putfield 38, 3) := by decide +kernel
theorem dX2_copyFrom_85 : decode cX2_copyFrom 85 = .ok (.aload_n 0, 1) := by decide +kernel
theorem dX2_copyFrom_86 : decode cX2_copyFrom 86 = .ok (.aload_n 1, 1) := by decide +kernel
theorem dX2_copyFrom_87 : decode cX2_copyFrom 87 = .ok (.getfield 41, 3) := by decide +kernel
theorem dX2_copyFrom_90 : decode cX2_copyFrom 90 = .ok (.putfield 41, 3) := by decide +kernel
theorem dX2_copyFrom_93 : decode cX2_copyFrom 93 = .ok (.aload_n 0, 1) := by decide +kernel
theorem dX2_copyFrom_94 : decode cX2_copyFrom 94 = .ok (.aload_n 1, 1) := by decide +kernel
theorem dX2_copyFrom_95 : decode cX2_copyFrom 95 = .ok (.getfield 44, 3) := by decide +kernel
theorem dX2_copyFrom_98 : decode cX2_copyFrom 98 = .ok (.putfield 44, 3) := by decide +kernel
theorem dX2_copyFrom_101 : decode cX2_copyFrom 101 = .ok (.aload_n 0, 1) := by decide +kernel
theorem dX2_copyFrom_102 : decode cX2_copyFrom 102 = .ok (.aload_n 1, 1) := by decide +kernel
theorem dX2_copyFrom_103 : decode cX2_copyFrom 103 = .ok (.getfield 47, 3) := by decide +kernel
theorem dX2_copyFrom_106 : decode cX2_copyFrom 106 = .ok (.putfield 47, 3) := by decide +kernel
theorem dX2_copyFrom_109 : decode cX2_copyFrom 109 = .ok (.return_, 1) := by decide +kernel
theorem dX2_hasCore_0 : decode cX2_hasCore 0 = .ok (.iload_n 1, 1) := by decide +kernel
theorem dX2_hasCore_1 : decode cX2_hasCore 1 = .ok (.ifCond .lt 20, 3) := by decide +kernel
theorem dX2_hasCore_4 : decode cX2_hasCore 4 = .ok (.iload_n 1, 1) := by decide +kernel
theorem dX2_hasCore_5 : decode cX2_hasCore 5 = .ok (.aload_n 0, 1) := by decide +kernel
theorem dX2_hasCore_6 : decode cX2_hasCore 6 = .ok (.getfield 34, 3) := by decide +kernel
theorem dX2_hasCore_9 : decode cX2_hasCore 9 = .ok (.if_icmp .ge 12, 3) := by decide +kernel
theorem dX2_hasCore_12 : decode cX2_hasCore 12 = .ok (.iload_n 1, 1) := by decide +kernel
theorem dX2_hasCore_13 : decode cX2_hasCore 13 = .ok (.iconst 4, 1) := by decide +kernel
theorem dX2_hasCore_14 : decode cX2_hasCore 14 = .ok (.if_icmp .ge 7, 3) := by decide +kernel
theorem dX2_hasCore_17 : decode cX2_hasCore 17 = .ok (.iconst 1, 1) := by decide +kernel
theorem dX2_hasCore_18 : decode cX2_hasCore 18 = .ok (.goto 4, 3) := by decide +kernel
theorem dX2_hasCore_21 : decode cX2_hasCore 21 = .ok (.iconst 0, 1) := by decide +kernel
theorem dX2_hasCore_22 : decode cX2_hasCore 22 = .ok (.ireturn, 1) := by decide +kernel
theorem dX2_fact_0 : decode cX2_fact 0 = .ok (.iload_n 1, 1) := by decide +kernel
theorem dX2_fact_1 : decode cX2_fact 1 = .ok (.tableswitch 51 0 3 #[31, 36, 41, 46], 31) := by decide +kernel
theorem dX2_fact_32 : decode cX2_fact 32 = .ok (.aload_n 0, 1) := by decide +kernel
theorem dX2_fact_33 : decode cX2_fact 33 = .ok (.getfield 34, 3) := by decide +kernel
theorem dX2_fact_36 : decode cX2_fact 36 = .ok (.ireturn, 1) := by decide +kernel
theorem dX2_fact_37 : decode cX2_fact 37 = .ok (.aload_n 0, 1) := by decide +kernel
theorem dX2_fact_38 : decode cX2_fact 38 = .ok (.getfield 38, 3) := by decide +kernel
theorem dX2_fact_41 : decode cX2_fact 41 = .ok (.ireturn, 1) := by decide +kernel
theorem dX2_fact_42 : decode cX2_fact 42 = .ok (.aload_n 0, 1) := by decide +kernel
theorem dX2_fact_43 : decode cX2_fact 43 = .ok (.getfield 41, 3) := by decide +kernel
theorem dX2_fact_46 : decode cX2_fact 46 = .ok (.ireturn, 1) := by decide +kernel
theorem dX2_fact_47 : decode cX2_fact 47 = .ok (.aload_n 0, 1) := by decide +kernel
theorem dX2_fact_48 : decode cX2_fact 48 = .ok (.invokevirtual 69, 3) := by decide +kernel
theorem dX2_fact_51 : decode cX2_fact 51 = .ok (.ireturn, 1) := by decide +kernel
theorem dX2_fact_52 : decode cX2_fact 52 = .ok (.aload_n 0, 1) := by decide +kernel
theorem dX2_fact_53 : decode cX2_fact 53 = .ok (.getfield 47, 3) := by decide +kernel
theorem dX2_fact_56 : decode cX2_fact 56 = .ok (.ireturn, 1) := by decide +kernel
theorem dX2_finishedCores_0 : decode cX2_finishedCores 0 = .ok (.iconst 0, 1) := by decide +kernel
theorem dX2_finishedCores_1 : decode cX2_finishedCores 1 = .ok (.istore_n 1, 1) := by decide +kernel
theorem dX2_finishedCores_2 : decode cX2_finishedCores 2 = .ok (.iconst 0, 1) := by decide +kernel
theorem dX2_finishedCores_3 : decode cX2_finishedCores 3 = .ok (.istore_n 2, 1) := by decide +kernel
theorem dX2_finishedCores_4 : decode cX2_finishedCores 4 = .ok (.iload_n 2, 1) := by decide +kernel
theorem dX2_finishedCores_5 : decode cX2_finishedCores 5 = .ok (.aload_n 0, 1) := by decide +kernel
theorem dX2_finishedCores_6 : decode cX2_finishedCores 6 = .ok (.getfield 34, 3) := by decide +kernel
theorem dX2_finishedCores_9 : decode cX2_finishedCores 9 = .ok (.if_icmp .ge 24, 3) := by decide +kernel
theorem dX2_finishedCores_12 : decode cX2_finishedCores 12 = .ok (.aload_n 0, 1) := by decide +kernel
theorem dX2_finishedCores_13 : decode cX2_finishedCores 13 = .ok (.getfield 11, 3) := by decide +kernel
theorem dX2_finishedCores_16 : decode cX2_finishedCores 16 = .ok (.iload_n 2, 1) := by decide +kernel
theorem dX2_finishedCores_17 : decode cX2_finishedCores 17 = .ok (.aaload, 1) := by decide +kernel
theorem dX2_finishedCores_18 : decode cX2_finishedCores 18 = .ok (.invokevirtual 73, 3) := by decide +kernel
theorem dX2_finishedCores_21 : decode cX2_finishedCores 21 = .ok (.ifCond .eq 6, 3) := by decide +kernel
theorem dX2_finishedCores_24 : decode cX2_finishedCores 24 = .ok (.iinc 1 1, 3) := by decide +kernel
theorem dX2_finishedCores_27 : decode cX2_finishedCores 27 = .ok (.iinc 2 1, 3) := by decide +kernel
theorem dX2_finishedCores_30 : decode cX2_finishedCores 30 = .ok (.goto (-26), 3) := by decide +kernel
theorem dX2_finishedCores_33 : decode cX2_finishedCores 33 = .ok (.iload_n 1, 1) := by decide +kernel
theorem dX2_finishedCores_34 : decode cX2_finishedCores 34 = .ok (.ireturn, 1) := by decide +kernel
theorem dX2_abortsSoFar_0 : decode cX2_abortsSoFar 0 = .ok (.aload_n 0, 1) := by decide +kernel
theorem dX2_abortsSoFar_1 : decode cX2_abortsSoFar 1 = .ok (.getfield 22, 3) := by decide +kernel
theorem dX2_abortsSoFar_4 : decode cX2_abortsSoFar 4 = .ok (.iconst 5, 1) := by decide +kernel
theorem dX2_abortsSoFar_5 : decode cX2_abortsSoFar 5 = .ok (.iaload, 1) := by decide +kernel
theorem dX2_abortsSoFar_6 : decode cX2_abortsSoFar 6 = .ok (.aload_n 0, 1) := by decide +kernel
theorem dX2_abortsSoFar_7 : decode cX2_abortsSoFar 7 = .ok (.getfield 22, 3) := by decide +kernel
theorem dX2_abortsSoFar_10 : decode cX2_abortsSoFar 10 = .ok (.bipush 6, 2) := by decide +kernel
theorem dX2_abortsSoFar_12 : decode cX2_abortsSoFar 12 = .ok (.iaload, 1) := by decide +kernel
theorem dX2_abortsSoFar_13 : decode cX2_abortsSoFar 13 = .ok (.iadd, 1) := by decide +kernel
theorem dX2_abortsSoFar_14 : decode cX2_abortsSoFar 14 = .ok (.ireturn, 1) := by decide +kernel
theorem dX2_committedValue_0 : decode cX2_committedValue 0 = .ok (.iconst 0, 1) := by decide +kernel
theorem dX2_committedValue_1 : decode cX2_committedValue 1 = .ok (.istore_n 2, 1) := by decide +kernel
theorem dX2_committedValue_2 : decode cX2_committedValue 2 = .ok (.iload_n 2, 1) := by decide +kernel
theorem dX2_committedValue_3 : decode cX2_committedValue 3 = .ok (.aload_n 0, 1) := by decide +kernel
theorem dX2_committedValue_4 : decode cX2_committedValue 4 = .ok (.getfield 34, 3) := by decide +kernel
theorem dX2_committedValue_7 : decode cX2_committedValue 7 = .ok (.if_icmp .ge 44, 3) := by decide +kernel
theorem dX2_committedValue_10 : decode cX2_committedValue 10 = .ok (.aload_n 0, 1) := by decide +kernel
theorem dX2_committedValue_11 : decode cX2_committedValue 11 = .ok (.getfield 11, 3) := by decide +kernel
theorem dX2_committedValue_14 : decode cX2_committedValue 14 = .ok (.iload_n 2, 1) := by decide +kernel
theorem dX2_committedValue_15 : decode cX2_committedValue 15 = .ok (.aaload, 1) := by decide +kernel
theorem dX2_committedValue_16 : decode cX2_committedValue 16 = .ok (.astore_n 3, 1) := by decide +kernel
theorem dX2_committedValue_17 : decode cX2_committedValue 17 = .ok (.aload_n 3, 1) := by decide +kernel
theorem dX2_committedValue_18 : decode cX2_committedValue 18 = .ok (.getfield 77, 3) := by decide +kernel
theorem dX2_committedValue_21 : decode cX2_committedValue 21 = .ok (.iload_n 1, 1) := by decide +kernel
theorem dX2_committedValue_22 : decode cX2_committedValue 22 = .ok (.iaload, 1) := by decide +kernel
theorem dX2_committedValue_23 : decode cX2_committedValue 23 = .ok (.iconst 2, 1) := by decide +kernel
theorem dX2_committedValue_24 : decode cX2_committedValue 24 = .ok (.if_icmp .ne 21, 3) := by decide +kernel
theorem dX2_committedValue_27 : decode cX2_committedValue 27 = .ok (.aload_n 3, 1) := by decide +kernel
theorem dX2_committedValue_28 : decode cX2_committedValue 28 = .ok (.getfield 80, 3) := by decide +kernel
theorem dX2_committedValue_31 : decode cX2_committedValue 31 = .ok (.iload_n 1, 1) := by decide +kernel
theorem dX2_committedValue_32 : decode cX2_committedValue 32 = .ok (.invokestatic 83, 3) := by decide +kernel
theorem dX2_committedValue_35 : decode cX2_committedValue 35 = .ok (.ifCond .ne 10, 3) := by decide +kernel
theorem dX2_committedValue_38 : decode cX2_committedValue 38 = .ok (.aload_n 3, 1) := by decide +kernel
theorem dX2_committedValue_39 : decode cX2_committedValue 39 = .ok (.getfield 87, 3) := by decide +kernel
theorem dX2_committedValue_42 : decode cX2_committedValue 42 = .ok (.iload_n 1, 1) := by decide +kernel
theorem dX2_committedValue_43 : decode cX2_committedValue 43 = .ok (.iaload, 1) := by decide +kernel
theorem dX2_committedValue_44 : decode cX2_committedValue 44 = .ok (.ireturn, 1) := by decide +kernel
theorem dX2_committedValue_45 : decode cX2_committedValue 45 = .ok (.iinc 2 1, 3) := by decide +kernel
theorem dX2_committedValue_48 : decode cX2_committedValue 48 = .ok (.goto (-46), 3) := by decide +kernel
theorem dX2_committedValue_51 : decode cX2_committedValue 51 = .ok (.aload_n 0, 1) := by decide +kernel
theorem dX2_committedValue_52 : decode cX2_committedValue 52 = .ok (.getfield 18, 3) := by decide +kernel
theorem dX2_committedValue_55 : decode cX2_committedValue 55 = .ok (.iload_n 1, 1) := by decide +kernel
theorem dX2_committedValue_56 : decode cX2_committedValue 56 = .ok (.iaload, 1) := by decide +kernel
theorem dX2_committedValue_57 : decode cX2_committedValue 57 = .ok (.ireturn, 1) := by decide +kernel
theorem dX2_stepOften_0 : decode cX2_stepOften 0 = .ok (.iconst 0, 1) := by decide +kernel
theorem dX2_stepOften_1 : decode cX2_stepOften 1 = .ok (.istore_n 2, 1) := by decide +kernel
theorem dX2_stepOften_2 : decode cX2_stepOften 2 = .ok (.iload_n 2, 1) := by decide +kernel
theorem dX2_stepOften_3 : decode cX2_stepOften 3 = .ok (.iload_n 1, 1) := by decide +kernel
theorem dX2_stepOften_4 : decode cX2_stepOften 4 = .ok (.if_icmp .ge 26, 3) := by decide +kernel
theorem dX2_stepOften_7 : decode cX2_stepOften 7 = .ok (.aload_n 0, 1) := by decide +kernel
theorem dX2_stepOften_8 : decode cX2_stepOften 8 = .ok (.invokevirtual 90, 3) := by decide +kernel
theorem dX2_stepOften_11 : decode cX2_stepOften 11 = .ok (.istore_n 3, 1) := by decide +kernel
theorem dX2_stepOften_12 : decode cX2_stepOften 12 = .ok (.iload_n 3, 1) := by decide +kernel
theorem dX2_stepOften_13 : decode cX2_stepOften 13 = .ok (.iconst (-1), 1) := by decide +kernel
theorem dX2_stepOften_14 : decode cX2_stepOften 14 = .ok (.if_icmp .ne 4, 3) := by decide +kernel
theorem dX2_stepOften_17 : decode cX2_stepOften 17 = .ok (.return_, 1) := by decide +kernel
theorem dX2_stepOften_18 : decode cX2_stepOften 18 = .ok (.aload_n 0, 1) := by decide +kernel
theorem dX2_stepOften_19 : decode cX2_stepOften 19 = .ok (.iload_n 3, 1) := by decide +kernel
theorem dX2_stepOften_20 : decode cX2_stepOften 20 = .ok (.invokevirtual 93, 3) := by decide +kernel
theorem dX2_stepOften_23 : decode cX2_stepOften 23 = .ok (.pop, 1) := by decide +kernel
theorem dX2_stepOften_24 : decode cX2_stepOften 24 = .ok (.iinc 2 1, 3) := by decide +kernel
theorem dX2_stepOften_27 : decode cX2_stepOften 27 = .ok (.goto (-25), 3) := by decide +kernel
theorem dX2_stepOften_30 : decode cX2_stepOften 30 = .ok (.return_, 1) := by decide +kernel
theorem dX2_stepsUntilFinished_0 : decode cX2_stepsUntilFinished 0 = .ok (.iconst 0, 1) := by decide +kernel
theorem dX2_stepsUntilFinished_1 : decode cX2_stepsUntilFinished 1 = .ok (.istore_n 1, 1) := by decide +kernel
theorem dX2_stepsUntilFinished_2 : decode cX2_stepsUntilFinished 2 = .ok (.iload_n 1, 1) := by decide +kernel
theorem dX2_stepsUntilFinished_3 : decode cX2_stepsUntilFinished 3 = .ok (.sipush 2000, 3) := by decide +kernel
theorem dX2_stepsUntilFinished_6 : decode cX2_stepsUntilFinished 6 = .ok (.if_icmp .ge 27, 3) := by decide +kernel
theorem dX2_stepsUntilFinished_9 : decode cX2_stepsUntilFinished 9 = .ok (.aload_n 0, 1) := by decide +kernel
theorem dX2_stepsUntilFinished_10 : decode cX2_stepsUntilFinished 10 = .ok (.invokevirtual 90, 3) := by decide +kernel
theorem dX2_stepsUntilFinished_13 : decode cX2_stepsUntilFinished 13 = .ok (.istore_n 2, 1) := by decide +kernel
theorem dX2_stepsUntilFinished_14 : decode cX2_stepsUntilFinished 14 = .ok (.iload_n 2, 1) := by decide +kernel
theorem dX2_stepsUntilFinished_15 : decode cX2_stepsUntilFinished 15 = .ok (.iconst (-1), 1) := by decide +kernel
theorem dX2_stepsUntilFinished_16 : decode cX2_stepsUntilFinished 16 = .ok (.if_icmp .ne 5, 3) := by decide +kernel
theorem dX2_stepsUntilFinished_19 : decode cX2_stepsUntilFinished 19 = .ok (.iload_n 1, 1) := by decide +kernel
theorem dX2_stepsUntilFinished_20 : decode cX2_stepsUntilFinished 20 = .ok (.ireturn, 1) := by decide +kernel
theorem dX2_stepsUntilFinished_21 : decode cX2_stepsUntilFinished 21 = .ok (.aload_n 0, 1) := by decide +kernel
theorem dX2_stepsUntilFinished_22 : decode cX2_stepsUntilFinished 22 = .ok (.iload_n 2, 1) := by decide +kernel
theorem dX2_stepsUntilFinished_23 : decode cX2_stepsUntilFinished 23 = .ok (.invokevirtual 93, 3) := by decide +kernel
theorem dX2_stepsUntilFinished_26 : decode cX2_stepsUntilFinished 26 = .ok (.pop, 1) := by decide +kernel
theorem dX2_stepsUntilFinished_27 : decode cX2_stepsUntilFinished 27 = .ok (.iinc 1 1, 3) := by decide +kernel
theorem dX2_stepsUntilFinished_30 : decode cX2_stepsUntilFinished 30 = .ok (.goto (-28), 3) := by decide +kernel
theorem dX2_stepsUntilFinished_33 : decode cX2_stepsUntilFinished 33 = .ok (.aload_n 0, 1) := by decide +kernel
theorem dX2_stepsUntilFinished_34 : decode cX2_stepsUntilFinished 34 = .ok (.invokevirtual 69, 3) := by decide +kernel
theorem dX2_stepsUntilFinished_37 : decode cX2_stepsUntilFinished 37 = .ok (.aload_n 0, 1) := by decide +kernel
theorem dX2_stepsUntilFinished_38 : decode cX2_stepsUntilFinished 38 = .ok (.getfield 34, 3) := by decide +kernel
theorem dX2_stepsUntilFinished_41 : decode cX2_stepsUntilFinished 41 = .ok (.if_icmp .ne 9, 3) := by decide +kernel
theorem dX2_stepsUntilFinished_44 : decode cX2_stepsUntilFinished 44 = .ok (.sipush 2000, 3) := by decide +kernel
theorem dX2_stepsUntilFinished_47 : decode cX2_stepsUntilFinished 47 = .ok (.goto 4, 3) := by decide +kernel
theorem dX2_stepsUntilFinished_50 : decode cX2_stepsUntilFinished 50 = .ok (.iconst (-1), 1) := by decide +kernel
theorem dX2_stepsUntilFinished_51 : decode cX2_stepsUntilFinished 51 = .ok (.ireturn, 1) := by decide +kernel
theorem dX2_drawCore_0 : decode cX2_drawCore 0 = .ok (.aload_n 0, 1) := by decide +kernel
theorem dX2_drawCore_1 : decode cX2_drawCore 1 = .ok (.getfield 34, 3) := by decide +kernel
theorem dX2_drawCore_4 : decode cX2_drawCore 4 = .ok (.aload_n 0, 1) := by decide +kernel
theorem dX2_drawCore_5 : decode cX2_drawCore 5 = .ok (.invokevirtual 69, 3) := by decide +kernel
theorem dX2_drawCore_8 : decode cX2_drawCore 8 = .ok (.isub, 1) := by decide +kernel
theorem dX2_drawCore_9 : decode cX2_drawCore 9 = .ok (.istore_n 1, 1) := by decide +kernel
theorem dX2_drawCore_10 : decode cX2_drawCore 10 = .ok (.iload_n 1, 1) := by decide +kernel
theorem dX2_drawCore_11 : decode cX2_drawCore 11 = .ok (.ifCond .gt 5, 3) := by decide +kernel
theorem dX2_drawCore_14 : decode cX2_drawCore 14 = .ok (.iconst (-1), 1) := by decide +kernel
theorem dX2_drawCore_15 : decode cX2_drawCore 15 = .ok (.ireturn, 1) := by decide +kernel
theorem dX2_drawCore_16 : decode cX2_drawCore 16 = .ok (.aload_n 0, 1) := by decide +kernel
theorem dX2_drawCore_17 : decode cX2_drawCore 17 = .ok (.ldc2_w 97, 3) := by decide +kernel
theorem dX2_drawCore_20 : decode cX2_drawCore 20 = .ok (.aload_n 0, 1) := by decide +kernel
theorem dX2_drawCore_21 : decode cX2_drawCore 21 = .ok (.getfield 44, 3) := by decide +kernel
theorem dX2_drawCore_24 : decode cX2_drawCore 24 = .ok (.i2l, 1) := by decide +kernel
theorem dX2_drawCore_25 : decode cX2_drawCore 25 = .ok (.lmul, 1) := by decide +kernel
theorem dX2_drawCore_26 : decode cX2_drawCore 26 = .ok (.ldc2_w 99, 3) := by decide +kernel
theorem dX2_drawCore_29 : decode cX2_drawCore 29 = .ok (.ladd, 1) := by decide +kernel
theorem dX2_drawCore_30 : decode cX2_drawCore 30 = .ok (.ldc2_w 101, 3) := by decide +kernel
theorem dX2_drawCore_33 : decode cX2_drawCore 33 = .ok (.lrem, 1) := by decide +kernel
theorem dX2_drawCore_34 : decode cX2_drawCore 34 = .ok (.l2i, 1) := by decide +kernel
theorem dX2_drawCore_35 : decode cX2_drawCore 35 = .ok (.putfield 44, 3) := by decide +kernel
theorem dX2_drawCore_38 : decode cX2_drawCore 38 = .ok (.aload_n 0, 1) := by decide +kernel
theorem dX2_drawCore_39 : decode cX2_drawCore 39 = .ok (.getfield 44, 3) := by decide +kernel
theorem dX2_drawCore_42 : decode cX2_drawCore 42 = .ok (.ldc 103, 2) := by decide +kernel
theorem dX2_drawCore_44 : decode cX2_drawCore 44 = .ok (.idiv, 1) := by decide +kernel
theorem dX2_drawCore_45 : decode cX2_drawCore 45 = .ok (.iload_n 1, 1) := by decide +kernel
theorem dX2_drawCore_46 : decode cX2_drawCore 46 = .ok (.irem, 1) := by decide +kernel
theorem dX2_drawCore_47 : decode cX2_drawCore 47 = .ok (.istore_n 2, 1) := by decide +kernel
theorem dX2_drawCore_48 : decode cX2_drawCore 48 = .ok (.iconst 0, 1) := by decide +kernel
theorem dX2_drawCore_49 : decode cX2_drawCore 49 = .ok (.istore_n 3, 1) := by decide +kernel
theorem dX2_drawCore_50 : decode cX2_drawCore 50 = .ok (.iload_n 3, 1) := by decide +kernel
theorem dX2_drawCore_51 : decode cX2_drawCore 51 = .ok (.aload_n 0, 1) := by decide +kernel
theorem dX2_drawCore_52 : decode cX2_drawCore 52 = .ok (.getfield 34, 3) := by decide +kernel
theorem dX2_drawCore_55 : decode cX2_drawCore 55 = .ok (.if_icmp .ge 33, 3) := by decide +kernel
theorem dX2_drawCore_58 : decode cX2_drawCore 58 = .ok (.aload_n 0, 1) := by decide +kernel
theorem dX2_drawCore_59 : decode cX2_drawCore 59 = .ok (.getfield 11, 3) := by decide +kernel
theorem dX2_drawCore_62 : decode cX2_drawCore 62 = .ok (.iload_n 3, 1) := by decide +kernel
theorem dX2_drawCore_63 : decode cX2_drawCore 63 = .ok (.aaload, 1) := by decide +kernel
theorem dX2_drawCore_64 : decode cX2_drawCore 64 = .ok (.invokevirtual 73, 3) := by decide +kernel
theorem dX2_drawCore_67 : decode cX2_drawCore 67 = .ok (.ifCond .eq 6, 3) := by decide +kernel
theorem dX2_drawCore_70 : decode cX2_drawCore 70 = .ok (.goto 12, 3) := by decide +kernel
theorem dX2_drawCore_73 : decode cX2_drawCore 73 = .ok (.iload_n 2, 1) := by decide +kernel
theorem dX2_drawCore_74 : decode cX2_drawCore 74 = .ok (.ifCond .ne 5, 3) := by decide +kernel
theorem dX2_drawCore_77 : decode cX2_drawCore 77 = .ok (.iload_n 3, 1) := by decide +kernel
theorem dX2_drawCore_78 : decode cX2_drawCore 78 = .ok (.ireturn, 1) := by decide +kernel
theorem dX2_drawCore_79 : decode cX2_drawCore 79 = .ok (.iinc 2 (-1), 3) := by decide +kernel
theorem dX2_drawCore_82 : decode cX2_drawCore 82 = .ok (.iinc 3 1, 3) := by decide +kernel
theorem dX2_drawCore_85 : decode cX2_drawCore 85 = .ok (.goto (-35), 3) := by decide +kernel
theorem dX2_drawCore_88 : decode cX2_drawCore 88 = .ok (.iconst (-1), 1) := by decide +kernel
theorem dX2_drawCore_89 : decode cX2_drawCore 89 = .ok (.ireturn, 1) := by decide +kernel
theorem dX2_stepCore_0 : decode cX2_stepCore 0 = .ok (.aload_n 0, 1) := by decide +kernel
theorem dX2_stepCore_1 : decode cX2_stepCore 1 = .ok (.getfield 11, 3) := by decide +kernel
theorem dX2_stepCore_4 : decode cX2_stepCore 4 = .ok (.iload_n 1, 1) := by decide +kernel
theorem dX2_stepCore_5 : decode cX2_stepCore 5 = .ok (.aaload, 1) := by decide +kernel
theorem dX2_stepCore_6 : decode cX2_stepCore 6 = .ok (.astore_n 2, 1) := by decide +kernel
theorem dX2_stepCore_7 : decode cX2_stepCore 7 = .ok (.aload_n 2, 1) := by decide +kernel
theorem dX2_stepCore_8 : decode cX2_stepCore 8 = .ok (.invokevirtual 73, 3) := by decide +kernel
theorem dX2_stepCore_11 : decode cX2_stepCore 11 = .ok (.ifCond .eq 5, 3) := by decide +kernel
theorem dX2_stepCore_14 : decode cX2_stepCore 14 = .ok (.iconst 0, 1) := by decide +kernel
theorem dX2_stepCore_15 : decode cX2_stepCore 15 = .ok (.ireturn, 1) := by decide +kernel
theorem dX2_stepCore_16 : decode cX2_stepCore 16 = .ok (.aload_n 2, 1) := by decide +kernel
theorem dX2_stepCore_17 : decode cX2_stepCore 17 = .ok (.getfield 104, 3) := by decide +kernel
theorem dX2_stepCore_20 : decode cX2_stepCore 20 = .ok (.getfield 108, 3) := by decide +kernel
theorem dX2_stepCore_23 : decode cX2_stepCore 23 = .ok (.aload_n 2, 1) := by decide +kernel
theorem dX2_stepCore_24 : decode cX2_stepCore 24 = .ok (.getfield 113, 3) := by decide +kernel
theorem dX2_stepCore_27 : decode cX2_stepCore 27 = .ok (.iaload, 1) := by decide +kernel
theorem dX2_stepCore_28 : decode cX2_stepCore 28 = .ok (.istore_n 3, 1) := by decide +kernel
theorem dX2_stepCore_29 : decode cX2_stepCore 29 = .ok (.aload_n 0, 1) := by decide +kernel
theorem dX2_stepCore_30 : decode cX2_stepCore 30 = .ok (.invokevirtual 116, 3) := by decide +kernel
theorem dX2_stepCore_33 : decode cX2_stepCore 33 = .ok (.istore 4, 2) := by decide +kernel
theorem dX2_stepCore_35 : decode cX2_stepCore 35 = .ok (.aload_n 2, 1) := by decide +kernel
theorem dX2_stepCore_36 : decode cX2_stepCore 36 = .ok (.getfield 119, 3) := by decide +kernel
theorem dX2_stepCore_39 : decode cX2_stepCore 39 = .ok (.istore 5, 2) := by decide +kernel
theorem dX2_stepCore_41 : decode cX2_stepCore 41 = .ok (.aload_n 0, 1) := by decide +kernel
theorem dX2_stepCore_42 : decode cX2_stepCore 42 = .ok (.getfield 22, 3) := by decide +kernel
theorem dX2_stepCore_45 : decode cX2_stepCore 45 = .ok (.bipush 7, 2) := by decide +kernel
theorem dX2_stepCore_47 : decode cX2_stepCore 47 = .ok (.dup2, 1) := by decide +kernel
theorem dX2_stepCore_48 : decode cX2_stepCore 48 = .ok (.iaload, 1) := by decide +kernel
theorem dX2_stepCore_49 : decode cX2_stepCore 49 = .ok (.iconst 1, 1) := by decide +kernel
theorem dX2_stepCore_50 : decode cX2_stepCore 50 = .ok (.iadd, 1) := by decide +kernel
theorem dX2_stepCore_51 : decode cX2_stepCore 51 = .ok (.iastore, 1) := by decide +kernel
theorem dX2_stepCore_52 : decode cX2_stepCore 52 = .ok (.aload_n 2, 1) := by decide +kernel
theorem dX2_stepCore_53 : decode cX2_stepCore 53 = .ok (.getfield 104, 3) := by decide +kernel
theorem dX2_stepCore_56 : decode cX2_stepCore 56 = .ok (.getfield 122, 3) := by decide +kernel
theorem dX2_stepCore_59 : decode cX2_stepCore 59 = .ok (.aload_n 2, 1) := by decide +kernel
theorem dX2_stepCore_60 : decode cX2_stepCore 60 = .ok (.getfield 113, 3) := by decide +kernel
theorem dX2_stepCore_63 : decode cX2_stepCore 63 = .ok (.iaload, 1) := by decide +kernel
theorem dX2_stepCore_64 : decode cX2_stepCore 64 = .ok (.tableswitch 66 0 3 #[32, 40, 48, 57], 32) := by decide +kernel
theorem dX2_stepCore_96 : decode cX2_stepCore 96 = .ok (.aload_n 0, 1) := by decide +kernel
theorem dX2_stepCore_97 : decode cX2_stepCore 97 = .ok (.aload_n 2, 1) := by decide +kernel
theorem dX2_stepCore_98 : decode cX2_stepCore 98 = .ok (.invokevirtual 125, 3) := by decide +kernel
theorem dX2_stepCore_101 : decode cX2_stepCore 101 = .ok (.goto 39, 3) := by decide +kernel
theorem dX2_stepCore_104 : decode cX2_stepCore 104 = .ok (.aload_n 0, 1) := by decide +kernel
theorem dX2_stepCore_105 : decode cX2_stepCore 105 = .ok (.iload_n 1, 1) := by decide +kernel
theorem dX2_stepCore_106 : decode cX2_stepCore 106 = .ok (.invokevirtual 128, 3) := by decide +kernel
theorem dX2_stepCore_109 : decode cX2_stepCore 109 = .ok (.goto 31, 3) := by decide +kernel
theorem dX2_stepCore_112 : decode cX2_stepCore 112 = .ok (.aload_n 0, 1) := by decide +kernel
theorem dX2_stepCore_113 : decode cX2_stepCore 113 = .ok (.iload_n 1, 1) := by decide +kernel
theorem dX2_stepCore_114 : decode cX2_stepCore 114 = .ok (.iload_n 3, 1) := by decide +kernel
theorem dX2_stepCore_115 : decode cX2_stepCore 115 = .ok (.invokevirtual 131, 3) := by decide +kernel
theorem dX2_stepCore_118 : decode cX2_stepCore 118 = .ok (.goto 22, 3) := by decide +kernel
theorem dX2_stepCore_121 : decode cX2_stepCore 121 = .ok (.aload_n 0, 1) := by decide +kernel
theorem dX2_stepCore_122 : decode cX2_stepCore 122 = .ok (.iload_n 1, 1) := by decide +kernel
theorem dX2_stepCore_123 : decode cX2_stepCore 123 = .ok (.iload_n 3, 1) := by decide +kernel
theorem dX2_stepCore_124 : decode cX2_stepCore 124 = .ok (.invokevirtual 135, 3) := by decide +kernel
theorem dX2_stepCore_127 : decode cX2_stepCore 127 = .ok (.goto 13, 3) := by decide +kernel
theorem dX2_stepCore_130 : decode cX2_stepCore 130 = .ok (.aload_n 2, 1) := by decide +kernel
theorem dX2_stepCore_131 : decode cX2_stepCore 131 = .ok (.dup, 1) := by decide +kernel
theorem dX2_stepCore_132 : decode cX2_stepCore 132 = .ok (.getfield 138, 3) := by decide +kernel
theorem dX2_stepCore_135 : decode cX2_stepCore 135 = .ok (.iload_n 3, 1) := by decide +kernel
theorem dX2_stepCore_136 : decode cX2_stepCore 136 = .ok (.iadd, 1) := by decide +kernel
theorem dX2_stepCore_137 : decode cX2_stepCore 137 = .ok (.putfield 138, 3) := by decide +kernel
theorem dX2_stepCore_140 : decode cX2_stepCore 140 = .ok (.aload_n 0, 1) := by decide +kernel
theorem dX2_stepCore_141 : decode cX2_stepCore 141 = .ok (.invokevirtual 116, 3) := by decide +kernel
theorem dX2_stepCore_144 : decode cX2_stepCore 144 = .ok (.iload 4, 2) := by decide +kernel
theorem dX2_stepCore_146 : decode cX2_stepCore 146 = .ok (.isub, 1) := by decide +kernel
theorem dX2_stepCore_147 : decode cX2_stepCore 147 = .ok (.istore 6, 2) := by decide +kernel
theorem dX2_stepCore_149 : decode cX2_stepCore 149 = .ok (.aload_n 2, 1) := by decide +kernel
theorem dX2_stepCore_150 : decode cX2_stepCore 150 = .ok (.getfield 119, 3) := by decide +kernel
theorem dX2_stepCore_153 : decode cX2_stepCore 153 = .ok (.iload 5, 2) := by decide +kernel
theorem dX2_stepCore_155 : decode cX2_stepCore 155 = .ok (.if_icmp .eq 9, 3) := by decide +kernel
theorem dX2_stepCore_158 : decode cX2_stepCore 158 = .ok (.iload 6, 2) := by decide +kernel
theorem dX2_stepCore_160 : decode cX2_stepCore 160 = .ok (.bipush 8, 2) := by decide +kernel
theorem dX2_stepCore_162 : decode cX2_stepCore 162 = .ok (.iadd, 1) := by decide +kernel
theorem dX2_stepCore_163 : decode cX2_stepCore 163 = .ok (.ireturn, 1) := by decide +kernel
theorem dX2_stepCore_164 : decode cX2_stepCore 164 = .ok (.aload_n 2, 1) := by decide +kernel
theorem dX2_stepCore_165 : decode cX2_stepCore 165 = .ok (.dup, 1) := by decide +kernel
theorem dX2_stepCore_166 : decode cX2_stepCore 166 = .ok (.getfield 113, 3) := by decide +kernel
theorem dX2_stepCore_169 : decode cX2_stepCore 169 = .ok (.iconst 1, 1) := by decide +kernel
theorem dX2_stepCore_170 : decode cX2_stepCore 170 = .ok (.iadd, 1) := by decide +kernel
theorem dX2_stepCore_171 : decode cX2_stepCore 171 = .ok (.putfield 113, 3) := by decide +kernel
theorem dX2_stepCore_174 : decode cX2_stepCore 174 = .ok (.iload 6, 2) := by decide +kernel
theorem dX2_stepCore_176 : decode cX2_stepCore 176 = .ok (.ireturn, 1) := by decide +kernel
theorem dX2_beginIn_0 : decode cX2_beginIn 0 = .ok (.aload_n 1, 1) := by decide +kernel
theorem dX2_beginIn_1 : decode cX2_beginIn 1 = .ok (.invokevirtual 141, 3) := by decide +kernel
theorem dX2_beginIn_4 : decode cX2_beginIn 4 = .ok (.ifCond .eq 4, 3) := by decide +kernel
theorem dX2_beginIn_7 : decode cX2_beginIn 7 = .ok (.return_, 1) := by decide +kernel
theorem dX2_beginIn_8 : decode cX2_beginIn 8 = .ok (.aload_n 1, 1) := by decide +kernel
theorem dX2_beginIn_9 : decode cX2_beginIn 9 = .ok (.getfield 144, 3) := by decide +kernel
theorem dX2_beginIn_12 : decode cX2_beginIn 12 = .ok (.iconst (-1), 1) := by decide +kernel
theorem dX2_beginIn_13 : decode cX2_beginIn 13 = .ok (.if_icmp .eq 14, 3) := by decide +kernel
theorem dX2_beginIn_16 : decode cX2_beginIn 16 = .ok (.aload_n 1, 1) := by decide +kernel
theorem dX2_beginIn_17 : decode cX2_beginIn 17 = .ok (.aload_n 1, 1) := by decide +kernel
theorem dX2_beginIn_18 : decode cX2_beginIn 18 = .ok (.getfield 144, 3) := by decide +kernel
theorem dX2_beginIn_21 : decode cX2_beginIn 21 = .ok (.invokevirtual 147, 3) := by decide +kernel
theorem dX2_beginIn_24 : decode cX2_beginIn 24 = .ok (.goto 21, 3) := by decide +kernel
theorem dX2_beginIn_27 : decode cX2_beginIn 27 = .ok (.aload_n 1, 1) := by decide +kernel
theorem dX2_beginIn_28 : decode cX2_beginIn 28 = .ok (.aload_n 0, 1) := by decide +kernel
theorem dX2_beginIn_29 : decode cX2_beginIn 29 = .ok (.getfield 47, 3) := by decide +kernel
theorem dX2_beginIn_32 : decode cX2_beginIn 32 = .ok (.invokevirtual 147, 3) := by decide +kernel
theorem dX2_beginIn_35 : decode cX2_beginIn 35 = .ok (.aload_n 0, 1) := by decide +kernel
theorem dX2_beginIn_36 : decode cX2_beginIn 36 = .ok (.dup, 1) := by decide +kernel
theorem dX2_beginIn_37 : decode cX2_beginIn 37 = .ok (.getfield 47, 3) := by decide +kernel
theorem dX2_beginIn_40 : decode cX2_beginIn 40 = .ok (.iconst 1, 1) := by decide +kernel
theorem dX2_beginIn_41 : decode cX2_beginIn 41 = .ok (.iadd, 1) := by decide +kernel
theorem dX2_beginIn_42 : decode cX2_beginIn 42 = .ok (.putfield 47, 3) := by decide +kernel
theorem dX2_beginIn_45 : decode cX2_beginIn 45 = .ok (.return_, 1) := by decide +kernel
theorem dX2_commitIn_0 : decode cX2_commitIn 0 = .ok (.aload_n 0, 1) := by decide +kernel
theorem dX2_commitIn_1 : decode cX2_commitIn 1 = .ok (.getfield 11, 3) := by decide +kernel
theorem dX2_commitIn_4 : decode cX2_commitIn 4 = .ok (.iload_n 1, 1) := by decide +kernel
theorem dX2_commitIn_5 : decode cX2_commitIn 5 = .ok (.aaload, 1) := by decide +kernel
theorem dX2_commitIn_6 : decode cX2_commitIn 6 = .ok (.astore_n 2, 1) := by decide +kernel
theorem dX2_commitIn_7 : decode cX2_commitIn 7 = .ok (.aload_n 2, 1) := by decide +kernel
theorem dX2_commitIn_8 : decode cX2_commitIn 8 = .ok (.invokevirtual 141, 3) := by decide +kernel
theorem dX2_commitIn_11 : decode cX2_commitIn 11 = .ok (.ifCond .eq 26, 3) := by decide +kernel
theorem dX2_commitIn_14 : decode cX2_commitIn 14 = .ok (.aload_n 0, 1) := by decide +kernel
theorem dX2_commitIn_15 : decode cX2_commitIn 15 = .ok (.getfield 30, 3) := by decide +kernel
theorem dX2_commitIn_18 : decode cX2_commitIn 18 = .ok (.iload_n 1, 1) := by decide +kernel
theorem dX2_commitIn_19 : decode cX2_commitIn 19 = .ok (.aload_n 2, 1) := by decide +kernel
theorem dX2_commitIn_20 : decode cX2_commitIn 20 = .ok (.invokevirtual 150, 3) := by decide +kernel
theorem dX2_commitIn_23 : decode cX2_commitIn 23 = .ok (.aload_n 2, 1) := by decide +kernel
theorem dX2_commitIn_24 : decode cX2_commitIn 24 = .ok (.invokevirtual 154, 3) := by decide +kernel
theorem dX2_commitIn_27 : decode cX2_commitIn 27 = .ok (.aload_n 2, 1) := by decide +kernel
theorem dX2_commitIn_28 : decode cX2_commitIn 28 = .ok (.dup, 1) := by decide +kernel
theorem dX2_commitIn_29 : decode cX2_commitIn 29 = .ok (.getfield 157, 3) := by decide +kernel
theorem dX2_commitIn_32 : decode cX2_commitIn 32 = .ok (.iconst 1, 1) := by decide +kernel
theorem dX2_commitIn_33 : decode cX2_commitIn 33 = .ok (.iadd, 1) := by decide +kernel
theorem dX2_commitIn_34 : decode cX2_commitIn 34 = .ok (.putfield 157, 3) := by decide +kernel
theorem dX2_commitIn_37 : decode cX2_commitIn 37 = .ok (.return_, 1) := by decide +kernel
theorem dX2_readLine_0 : decode cX2_readLine 0 = .ok (.aload_n 0, 1) := by decide +kernel
theorem dX2_readLine_1 : decode cX2_readLine 1 = .ok (.getfield 11, 3) := by decide +kernel
theorem dX2_readLine_4 : decode cX2_readLine 4 = .ok (.iload_n 1, 1) := by decide +kernel
theorem dX2_readLine_5 : decode cX2_readLine 5 = .ok (.aaload, 1) := by decide +kernel
theorem dX2_readLine_6 : decode cX2_readLine 6 = .ok (.astore_n 3, 1) := by decide +kernel
theorem dX2_readLine_7 : decode cX2_readLine 7 = .ok (.iload_n 2, 1) := by decide +kernel
theorem dX2_readLine_8 : decode cX2_readLine 8 = .ok (.invokestatic 160, 3) := by decide +kernel
theorem dX2_readLine_11 : decode cX2_readLine 11 = .ok (.ifCond .eq 13, 3) := by decide +kernel
theorem dX2_readLine_14 : decode cX2_readLine 14 = .ok (.aload_n 0, 1) := by decide +kernel
theorem dX2_readLine_15 : decode cX2_readLine 15 = .ok (.iload_n 1, 1) := by decide +kernel
theorem dX2_readLine_16 : decode cX2_readLine 16 = .ok (.iload_n 2, 1) := by decide +kernel
theorem dX2_readLine_17 : decode cX2_readLine 17 = .ok (.iconst 0, 1) := by decide +kernel
theorem dX2_readLine_18 : decode cX2_readLine 18 = .ok (.invokevirtual 164, 3) := by decide +kernel
theorem dX2_readLine_21 : decode cX2_readLine 21 = .ok (.ifCond .ne 4, 3) := by decide +kernel
theorem dX2_readLine_24 : decode cX2_readLine 24 = .ok (.return_, 1) := by decide +kernel
theorem dX2_readLine_25 : decode cX2_readLine 25 = .ok (.aload_n 3, 1) := by decide +kernel
theorem dX2_readLine_26 : decode cX2_readLine 26 = .ok (.getfield 77, 3) := by decide +kernel
theorem dX2_readLine_29 : decode cX2_readLine 29 = .ok (.iload_n 2, 1) := by decide +kernel
theorem dX2_readLine_30 : decode cX2_readLine 30 = .ok (.iaload, 1) := by decide +kernel
theorem dX2_readLine_31 : decode cX2_readLine 31 = .ok (.ifCond .ne 38, 3) := by decide +kernel
theorem dX2_readLine_34 : decode cX2_readLine 34 = .ok (.aload_n 0, 1) := by decide +kernel
theorem dX2_readLine_35 : decode cX2_readLine 35 = .ok (.getfield 22, 3) := by decide +kernel
theorem dX2_readLine_38 : decode cX2_readLine 38 = .ok (.iconst 0, 1) := by decide +kernel
theorem dX2_readLine_39 : decode cX2_readLine 39 = .ok (.dup2, 1) := by decide +kernel
theorem dX2_readLine_40 : decode cX2_readLine 40 = .ok (.iaload, 1) := by decide +kernel
theorem dX2_readLine_41 : decode cX2_readLine 41 = .ok (.iconst 1, 1) := by decide +kernel
theorem dX2_readLine_42 : decode cX2_readLine 42 = .ok (.iadd, 1) := by decide +kernel
theorem dX2_readLine_43 : decode cX2_readLine 43 = .ok (.iastore, 1) := by decide +kernel
theorem dX2_readLine_44 : decode cX2_readLine 44 = .ok (.aload_n 0, 1) := by decide +kernel
theorem dX2_readLine_45 : decode cX2_readLine 45 = .ok (.iload_n 1, 1) := by decide +kernel
theorem dX2_readLine_46 : decode cX2_readLine 46 = .ok (.iload_n 2, 1) := by decide +kernel
theorem dX2_readLine_47 : decode cX2_readLine 47 = .ok (.invokevirtual 168, 3) := by decide +kernel
theorem dX2_readLine_50 : decode cX2_readLine 50 = .ok (.aload_n 3, 1) := by decide +kernel
theorem dX2_readLine_51 : decode cX2_readLine 51 = .ok (.getfield 77, 3) := by decide +kernel
theorem dX2_readLine_54 : decode cX2_readLine 54 = .ok (.iload_n 2, 1) := by decide +kernel
theorem dX2_readLine_55 : decode cX2_readLine 55 = .ok (.iconst 1, 1) := by decide +kernel
theorem dX2_readLine_56 : decode cX2_readLine 56 = .ok (.iastore, 1) := by decide +kernel
theorem dX2_readLine_57 : decode cX2_readLine 57 = .ok (.aload_n 3, 1) := by decide +kernel
theorem dX2_readLine_58 : decode cX2_readLine 58 = .ok (.getfield 87, 3) := by decide +kernel
theorem dX2_readLine_61 : decode cX2_readLine 61 = .ok (.iload_n 2, 1) := by decide +kernel
theorem dX2_readLine_62 : decode cX2_readLine 62 = .ok (.aload_n 0, 1) := by decide +kernel
theorem dX2_readLine_63 : decode cX2_readLine 63 = .ok (.getfield 18, 3) := by decide +kernel
theorem dX2_readLine_66 : decode cX2_readLine 66 = .ok (.iload_n 2, 1) := by decide +kernel
theorem dX2_readLine_67 : decode cX2_readLine 67 = .ok (.iaload, 1) := by decide +kernel
theorem dX2_readLine_68 : decode cX2_readLine 68 = .ok (.iastore, 1) := by decide +kernel
theorem dX2_readLine_69 : decode cX2_readLine 69 = .ok (.aload_n 3, 1) := by decide +kernel
theorem dX2_readLine_70 : decode cX2_readLine 70 = .ok (.iload_n 2, 1) := by decide +kernel
theorem dX2_readLine_71 : decode cX2_readLine 71 = .ok (.invokevirtual 171, 3) := by decide +kernel
theorem dX2_readLine_74 : decode cX2_readLine 74 = .ok (.aload_n 3, 1) := by decide +kernel
theorem dX2_readLine_75 : decode cX2_readLine 75 = .ok (.aload_n 3, 1) := by decide +kernel
theorem dX2_readLine_76 : decode cX2_readLine 76 = .ok (.getfield 87, 3) := by decide +kernel
theorem dX2_readLine_79 : decode cX2_readLine 79 = .ok (.iload_n 2, 1) := by decide +kernel
theorem dX2_readLine_80 : decode cX2_readLine 80 = .ok (.iaload, 1) := by decide +kernel
theorem dX2_readLine_81 : decode cX2_readLine 81 = .ok (.putfield 138, 3) := by decide +kernel
theorem dX2_readLine_84 : decode cX2_readLine 84 = .ok (.return_, 1) := by decide +kernel
theorem dX2_writeLine_0 : decode cX2_writeLine 0 = .ok (.aload_n 0, 1) := by decide +kernel
theorem dX2_writeLine_1 : decode cX2_writeLine 1 = .ok (.getfield 11, 3) := by decide +kernel
theorem dX2_writeLine_4 : decode cX2_writeLine 4 = .ok (.iload_n 1, 1) := by decide +kernel
theorem dX2_writeLine_5 : decode cX2_writeLine 5 = .ok (.aaload, 1) := by decide +kernel
theorem dX2_writeLine_6 : decode cX2_writeLine 6 = .ok (.astore_n 3, 1) := by decide +kernel
theorem dX2_writeLine_7 : decode cX2_writeLine 7 = .ok (.iload_n 2, 1) := by decide +kernel
theorem dX2_writeLine_8 : decode cX2_writeLine 8 = .ok (.invokestatic 160, 3) := by decide +kernel
theorem dX2_writeLine_11 : decode cX2_writeLine 11 = .ok (.ifCond .eq 13, 3) := by decide +kernel
theorem dX2_writeLine_14 : decode cX2_writeLine 14 = .ok (.aload_n 0, 1) := by decide +kernel
theorem dX2_writeLine_15 : decode cX2_writeLine 15 = .ok (.iload_n 1, 1) := by decide +kernel
theorem dX2_writeLine_16 : decode cX2_writeLine 16 = .ok (.iload_n 2, 1) := by decide +kernel
theorem dX2_writeLine_17 : decode cX2_writeLine 17 = .ok (.iconst 1, 1) := by decide +kernel
theorem dX2_writeLine_18 : decode cX2_writeLine 18 = .ok (.invokevirtual 164, 3) := by decide +kernel
theorem dX2_writeLine_21 : decode cX2_writeLine 21 = .ok (.ifCond .ne 4, 3) := by decide +kernel
theorem dX2_writeLine_24 : decode cX2_writeLine 24 = .ok (.return_, 1) := by decide +kernel
theorem dX2_writeLine_25 : decode cX2_writeLine 25 = .ok (.aload_n 3, 1) := by decide +kernel
theorem dX2_writeLine_26 : decode cX2_writeLine 26 = .ok (.iload_n 2, 1) := by decide +kernel
theorem dX2_writeLine_27 : decode cX2_writeLine 27 = .ok (.aload_n 0, 1) := by decide +kernel
theorem dX2_writeLine_28 : decode cX2_writeLine 28 = .ok (.getfield 41, 3) := by decide +kernel
theorem dX2_writeLine_31 : decode cX2_writeLine 31 = .ok (.invokevirtual 174, 3) := by decide +kernel
theorem dX2_writeLine_34 : decode cX2_writeLine 34 = .ok (.ifCond .eq 19, 3) := by decide +kernel
theorem dX2_writeLine_37 : decode cX2_writeLine 37 = .ok (.aload_n 3, 1) := by decide +kernel
theorem dX2_writeLine_38 : decode cX2_writeLine 38 = .ok (.invokevirtual 177, 3) := by decide +kernel
theorem dX2_writeLine_41 : decode cX2_writeLine 41 = .ok (.aload_n 0, 1) := by decide +kernel
theorem dX2_writeLine_42 : decode cX2_writeLine 42 = .ok (.getfield 22, 3) := by decide +kernel
theorem dX2_writeLine_45 : decode cX2_writeLine 45 = .ok (.bipush 6, 2) := by decide +kernel
theorem dX2_writeLine_47 : decode cX2_writeLine 47 = .ok (.dup2, 1) := by decide +kernel
theorem dX2_writeLine_48 : decode cX2_writeLine 48 = .ok (.iaload, 1) := by decide +kernel
theorem dX2_writeLine_49 : decode cX2_writeLine 49 = .ok (.iconst 1, 1) := by decide +kernel
theorem dX2_writeLine_50 : decode cX2_writeLine 50 = .ok (.iadd, 1) := by decide +kernel
theorem dX2_writeLine_51 : decode cX2_writeLine 51 = .ok (.iastore, 1) := by decide +kernel
theorem dX2_writeLine_52 : decode cX2_writeLine 52 = .ok (.return_, 1) := by decide +kernel
theorem dX2_writeLine_53 : decode cX2_writeLine 53 = .ok (.aload_n 3, 1) := by decide +kernel
theorem dX2_writeLine_54 : decode cX2_writeLine 54 = .ok (.getfield 77, 3) := by decide +kernel
theorem dX2_writeLine_57 : decode cX2_writeLine 57 = .ok (.iload_n 2, 1) := by decide +kernel
theorem dX2_writeLine_58 : decode cX2_writeLine 58 = .ok (.iaload, 1) := by decide +kernel
theorem dX2_writeLine_59 : decode cX2_writeLine 59 = .ok (.iconst 2, 1) := by decide +kernel
theorem dX2_writeLine_60 : decode cX2_writeLine 60 = .ok (.if_icmp .eq 12, 3) := by decide +kernel
theorem dX2_writeLine_63 : decode cX2_writeLine 63 = .ok (.aload_n 0, 1) := by decide +kernel
theorem dX2_writeLine_64 : decode cX2_writeLine 64 = .ok (.iload_n 1, 1) := by decide +kernel
theorem dX2_writeLine_65 : decode cX2_writeLine 65 = .ok (.iload_n 2, 1) := by decide +kernel
theorem dX2_writeLine_66 : decode cX2_writeLine 66 = .ok (.invokevirtual 180, 3) := by decide +kernel
theorem dX2_writeLine_69 : decode cX2_writeLine 69 = .ok (.goto 27, 3) := by decide +kernel
theorem dX2_writeLine_72 : decode cX2_writeLine 72 = .ok (.aload_n 3, 1) := by decide +kernel
theorem dX2_writeLine_73 : decode cX2_writeLine 73 = .ok (.invokevirtual 141, 3) := by decide +kernel
theorem dX2_writeLine_76 : decode cX2_writeLine 76 = .ok (.ifCond .eq 20, 3) := by decide +kernel
theorem dX2_writeLine_79 : decode cX2_writeLine 79 = .ok (.aload_n 3, 1) := by decide +kernel
theorem dX2_writeLine_80 : decode cX2_writeLine 80 = .ok (.getfield 80, 3) := by decide +kernel
theorem dX2_writeLine_83 : decode cX2_writeLine 83 = .ok (.iload_n 2, 1) := by decide +kernel
theorem dX2_writeLine_84 : decode cX2_writeLine 84 = .ok (.invokestatic 83, 3) := by decide +kernel
theorem dX2_writeLine_87 : decode cX2_writeLine 87 = .ok (.ifCond .ne 9, 3) := by decide +kernel
theorem dX2_writeLine_90 : decode cX2_writeLine 90 = .ok (.aload_n 0, 1) := by decide +kernel
theorem dX2_writeLine_91 : decode cX2_writeLine 91 = .ok (.aload_n 3, 1) := by decide +kernel
theorem dX2_writeLine_92 : decode cX2_writeLine 92 = .ok (.iload_n 2, 1) := by decide +kernel
theorem dX2_writeLine_93 : decode cX2_writeLine 93 = .ok (.invokevirtual 183, 3) := by decide +kernel
theorem dX2_writeLine_96 : decode cX2_writeLine 96 = .ok (.aload_n 3, 1) := by decide +kernel
theorem dX2_writeLine_97 : decode cX2_writeLine 97 = .ok (.getfield 87, 3) := by decide +kernel
theorem dX2_writeLine_100 : decode cX2_writeLine 100 = .ok (.iload_n 2, 1) := by decide +kernel
theorem dX2_writeLine_101 : decode cX2_writeLine 101 = .ok (.aload_n 3, 1) := by decide +kernel
theorem dX2_writeLine_102 : decode cX2_writeLine 102 = .ok (.getfield 138, 3) := by decide +kernel
theorem dX2_writeLine_105 : decode cX2_writeLine 105 = .ok (.iastore, 1) := by decide +kernel
theorem dX2_writeLine_106 : decode cX2_writeLine 106 = .ok (.aload_n 3, 1) := by decide +kernel
theorem dX2_writeLine_107 : decode cX2_writeLine 107 = .ok (.invokevirtual 141, 3) := by decide +kernel
theorem dX2_writeLine_110 : decode cX2_writeLine 110 = .ok (.ifCond .eq 18, 3) := by decide +kernel
theorem dX2_writeLine_113 : decode cX2_writeLine 113 = .ok (.aload_n 3, 1) := by decide +kernel
theorem dX2_writeLine_114 : decode cX2_writeLine 114 = .ok (.dup, 1) := by decide +kernel
theorem dX2_writeLine_115 : decode cX2_writeLine 115 = .ok (.getfield 80, 3) := by decide +kernel
theorem dX2_writeLine_118 : decode cX2_writeLine 118 = .ok (.iconst 1, 1) := by decide +kernel
theorem dX2_writeLine_119 : decode cX2_writeLine 119 = .ok (.iload_n 2, 1) := by decide +kernel
theorem dX2_writeLine_120 : decode cX2_writeLine 120 = .ok (.ishl, 1) := by decide +kernel
theorem dX2_writeLine_121 : decode cX2_writeLine 121 = .ok (.ior, 1) := by decide +kernel
theorem dX2_writeLine_122 : decode cX2_writeLine 122 = .ok (.putfield 80, 3) := by decide +kernel
theorem dX2_writeLine_125 : decode cX2_writeLine 125 = .ok (.goto 16, 3) := by decide +kernel
theorem dX2_writeLine_128 : decode cX2_writeLine 128 = .ok (.aload_n 0, 1) := by decide +kernel
theorem dX2_writeLine_129 : decode cX2_writeLine 129 = .ok (.getfield 30, 3) := by decide +kernel
theorem dX2_writeLine_132 : decode cX2_writeLine 132 = .ok (.iload_n 1, 1) := by decide +kernel
theorem dX2_writeLine_133 : decode cX2_writeLine 133 = .ok (.iload_n 2, 1) := by decide +kernel
theorem dX2_writeLine_134 : decode cX2_writeLine 134 = .ok (.aload_n 3, 1) := by decide +kernel
theorem dX2_writeLine_135 : decode cX2_writeLine 135 = .ok (.getfield 87, 3) := by decide +kernel
theorem dX2_writeLine_138 : decode cX2_writeLine 138 = .ok (.invokevirtual 187, 3) := by decide +kernel
theorem dX2_writeLine_141 : decode cX2_writeLine 141 = .ok (.return_, 1) := by decide +kernel
theorem dX2_takeOver_0 : decode cX2_takeOver 0 = .ok (.aload_n 0, 1) := by decide +kernel
theorem dX2_takeOver_1 : decode cX2_takeOver 1 = .ok (.getfield 11, 3) := by decide +kernel
theorem dX2_takeOver_4 : decode cX2_takeOver 4 = .ok (.iload_n 1, 1) := by decide +kernel
theorem dX2_takeOver_5 : decode cX2_takeOver 5 = .ok (.aaload, 1) := by decide +kernel
theorem dX2_takeOver_6 : decode cX2_takeOver 6 = .ok (.astore_n 3, 1) := by decide +kernel
theorem dX2_takeOver_7 : decode cX2_takeOver 7 = .ok (.aload_n 0, 1) := by decide +kernel
theorem dX2_takeOver_8 : decode cX2_takeOver 8 = .ok (.getfield 22, 3) := by decide +kernel
theorem dX2_takeOver_11 : decode cX2_takeOver 11 = .ok (.aload_n 3, 1) := by decide +kernel
theorem dX2_takeOver_12 : decode cX2_takeOver 12 = .ok (.getfield 77, 3) := by decide +kernel
theorem dX2_takeOver_15 : decode cX2_takeOver 15 = .ok (.iload_n 2, 1) := by decide +kernel
theorem dX2_takeOver_16 : decode cX2_takeOver 16 = .ok (.iaload, 1) := by decide +kernel
theorem dX2_takeOver_17 : decode cX2_takeOver 17 = .ok (.ifCond .ne 7, 3) := by decide +kernel
theorem dX2_takeOver_20 : decode cX2_takeOver 20 = .ok (.iconst 1, 1) := by decide +kernel
theorem dX2_takeOver_21 : decode cX2_takeOver 21 = .ok (.goto 4, 3) := by decide +kernel
theorem dX2_takeOver_24 : decode cX2_takeOver 24 = .ok (.iconst 2, 1) := by decide +kernel
theorem dX2_takeOver_25 : decode cX2_takeOver 25 = .ok (.dup2, 1) := by decide +kernel
theorem dX2_takeOver_26 : decode cX2_takeOver 26 = .ok (.iaload, 1) := by decide +kernel
theorem dX2_takeOver_27 : decode cX2_takeOver 27 = .ok (.iconst 1, 1) := by decide +kernel
theorem dX2_takeOver_28 : decode cX2_takeOver 28 = .ok (.iadd, 1) := by decide +kernel
theorem dX2_takeOver_29 : decode cX2_takeOver 29 = .ok (.iastore, 1) := by decide +kernel
theorem dX2_takeOver_30 : decode cX2_takeOver 30 = .ok (.aload_n 0, 1) := by decide +kernel
theorem dX2_takeOver_31 : decode cX2_takeOver 31 = .ok (.iload_n 1, 1) := by decide +kernel
theorem dX2_takeOver_32 : decode cX2_takeOver 32 = .ok (.iload_n 2, 1) := by decide +kernel
theorem dX2_takeOver_33 : decode cX2_takeOver 33 = .ok (.invokevirtual 168, 3) := by decide +kernel
theorem dX2_takeOver_36 : decode cX2_takeOver 36 = .ok (.iconst 0, 1) := by decide +kernel
theorem dX2_takeOver_37 : decode cX2_takeOver 37 = .ok (.istore 4, 2) := by decide +kernel
theorem dX2_takeOver_39 : decode cX2_takeOver 39 = .ok (.iload 4, 2) := by decide +kernel
theorem dX2_takeOver_41 : decode cX2_takeOver 41 = .ok (.aload_n 0, 1) := by decide +kernel
theorem dX2_takeOver_42 : decode cX2_takeOver 42 = .ok (.getfield 34, 3) := by decide +kernel
theorem dX2_takeOver_45 : decode cX2_takeOver 45 = .ok (.if_icmp .ge 53, 3) := by decide +kernel
theorem dX2_takeOver_48 : decode cX2_takeOver 48 = .ok (.iload 4, 2) := by decide +kernel
theorem dX2_takeOver_50 : decode cX2_takeOver 50 = .ok (.iload_n 1, 1) := by decide +kernel
theorem dX2_takeOver_51 : decode cX2_takeOver 51 = .ok (.if_icmp .eq 41, 3) := by decide +kernel
theorem dX2_takeOver_54 : decode cX2_takeOver 54 = .ok (.aload_n 0, 1) := by decide +kernel
theorem dX2_takeOver_55 : decode cX2_takeOver 55 = .ok (.getfield 11, 3) := by decide +kernel
theorem dX2_takeOver_58 : decode cX2_takeOver 58 = .ok (.iload 4, 2) := by decide +kernel
theorem dX2_takeOver_60 : decode cX2_takeOver 60 = .ok (.aaload, 1) := by decide +kernel
theorem dX2_takeOver_61 : decode cX2_takeOver 61 = .ok (.getfield 77, 3) := by decide +kernel
theorem dX2_takeOver_64 : decode cX2_takeOver 64 = .ok (.iload_n 2, 1) := by decide +kernel
theorem dX2_takeOver_65 : decode cX2_takeOver 65 = .ok (.iaload, 1) := by decide +kernel
theorem dX2_takeOver_66 : decode cX2_takeOver 66 = .ok (.ifCond .eq 26, 3) := by decide +kernel
theorem dX2_takeOver_69 : decode cX2_takeOver 69 = .ok (.aload_n 0, 1) := by decide +kernel
theorem dX2_takeOver_70 : decode cX2_takeOver 70 = .ok (.getfield 11, 3) := by decide +kernel
theorem dX2_takeOver_73 : decode cX2_takeOver 73 = .ok (.iload 4, 2) := by decide +kernel
theorem dX2_takeOver_75 : decode cX2_takeOver 75 = .ok (.aaload, 1) := by decide +kernel
theorem dX2_takeOver_76 : decode cX2_takeOver 76 = .ok (.getfield 77, 3) := by decide +kernel
theorem dX2_takeOver_79 : decode cX2_takeOver 79 = .ok (.iload_n 2, 1) := by decide +kernel
theorem dX2_takeOver_80 : decode cX2_takeOver 80 = .ok (.iconst 0, 1) := by decide +kernel
theorem dX2_takeOver_81 : decode cX2_takeOver 81 = .ok (.iastore, 1) := by decide +kernel
theorem dX2_takeOver_82 : decode cX2_takeOver 82 = .ok (.aload_n 0, 1) := by decide +kernel
theorem dX2_takeOver_83 : decode cX2_takeOver 83 = .ok (.getfield 22, 3) := by decide +kernel
theorem dX2_takeOver_86 : decode cX2_takeOver 86 = .ok (.iconst 3, 1) := by decide +kernel
theorem dX2_takeOver_87 : decode cX2_takeOver 87 = .ok (.dup2, 1) := by decide +kernel
theorem dX2_takeOver_88 : decode cX2_takeOver 88 = .ok (.iaload, 1) := by decide +kernel
theorem dX2_takeOver_89 : decode cX2_takeOver 89 = .ok (.iconst 1, 1) := by decide +kernel
theorem dX2_takeOver_90 : decode cX2_takeOver 90 = .ok (.iadd, 1) := by decide +kernel
theorem dX2_takeOver_91 : decode cX2_takeOver 91 = .ok (.iastore, 1) := by decide +kernel
theorem dX2_takeOver_92 : decode cX2_takeOver 92 = .ok (.iinc 4 1, 3) := by decide +kernel
theorem dX2_takeOver_95 : decode cX2_takeOver 95 = .ok (.goto (-56), 3) := by decide +kernel
theorem dX2_takeOver_98 : decode cX2_takeOver 98 = .ok (.aload_n 3, 1) := by decide +kernel
theorem dX2_takeOver_99 : decode cX2_takeOver 99 = .ok (.getfield 77, 3) := by decide +kernel
theorem dX2_takeOver_102 : decode cX2_takeOver 102 = .ok (.iload_n 2, 1) := by decide +kernel
theorem dX2_takeOver_103 : decode cX2_takeOver 103 = .ok (.iconst 2, 1) := by decide +kernel
theorem dX2_takeOver_104 : decode cX2_takeOver 104 = .ok (.iastore, 1) := by decide +kernel
theorem dX2_takeOver_105 : decode cX2_takeOver 105 = .ok (.return_, 1) := by decide +kernel
theorem dX2_writeBackElsewhere_0 : decode cX2_writeBackElsewhere 0 = .ok (.iconst 0, 1) := by decide +kernel
theorem dX2_writeBackElsewhere_1 : decode cX2_writeBackElsewhere 1 = .ok (.istore_n 3, 1) := by decide +kernel
theorem dX2_writeBackElsewhere_2 : decode cX2_writeBackElsewhere 2 = .ok (.iload_n 3, 1) := by decide +kernel
theorem dX2_writeBackElsewhere_3 : decode cX2_writeBackElsewhere 3 = .ok (.aload_n 0, 1) := by decide +kernel
theorem dX2_writeBackElsewhere_4 : decode cX2_writeBackElsewhere 4 = .ok (.getfield 34, 3) := by decide +kernel
theorem dX2_writeBackElsewhere_7 : decode cX2_writeBackElsewhere 7 = .ok (.if_icmp .ge 52, 3) := by decide +kernel
theorem dX2_writeBackElsewhere_10 : decode cX2_writeBackElsewhere 10 = .ok (.iload_n 3, 1) := by decide +kernel
theorem dX2_writeBackElsewhere_11 : decode cX2_writeBackElsewhere 11 = .ok (.iload_n 1, 1) := by decide +kernel
theorem dX2_writeBackElsewhere_12 : decode cX2_writeBackElsewhere 12 = .ok (.if_icmp .eq 41, 3) := by decide +kernel
theorem dX2_writeBackElsewhere_15 : decode cX2_writeBackElsewhere 15 = .ok (.aload_n 0, 1) := by decide +kernel
theorem dX2_writeBackElsewhere_16 : decode cX2_writeBackElsewhere 16 = .ok (.getfield 11, 3) := by decide +kernel
theorem dX2_writeBackElsewhere_19 : decode cX2_writeBackElsewhere 19 = .ok (.iload_n 3, 1) := by decide +kernel
theorem dX2_writeBackElsewhere_20 : decode cX2_writeBackElsewhere 20 = .ok (.aaload, 1) := by decide +kernel
theorem dX2_writeBackElsewhere_21 : decode cX2_writeBackElsewhere 21 = .ok (.getfield 77, 3) := by decide +kernel
theorem dX2_writeBackElsewhere_24 : decode cX2_writeBackElsewhere 24 = .ok (.iload_n 2, 1) := by decide +kernel
theorem dX2_writeBackElsewhere_25 : decode cX2_writeBackElsewhere 25 = .ok (.iaload, 1) := by decide +kernel
theorem dX2_writeBackElsewhere_26 : decode cX2_writeBackElsewhere 26 = .ok (.iconst 2, 1) := by decide +kernel
theorem dX2_writeBackElsewhere_27 : decode cX2_writeBackElsewhere 27 = .ok (.if_icmp .ne 26, 3) := by decide +kernel
theorem dX2_writeBackElsewhere_30 : decode cX2_writeBackElsewhere 30 = .ok (.aload_n 0, 1) := by decide +kernel
theorem dX2_writeBackElsewhere_31 : decode cX2_writeBackElsewhere 31 = .ok (.aload_n 0, 1) := by decide +kernel
theorem dX2_writeBackElsewhere_32 : decode cX2_writeBackElsewhere 32 = .ok (.getfield 11, 3) := by decide +kernel
theorem dX2_writeBackElsewhere_35 : decode cX2_writeBackElsewhere 35 = .ok (.iload_n 3, 1) := by decide +kernel
theorem dX2_writeBackElsewhere_36 : decode cX2_writeBackElsewhere 36 = .ok (.aaload, 1) := by decide +kernel
theorem dX2_writeBackElsewhere_37 : decode cX2_writeBackElsewhere 37 = .ok (.iload_n 2, 1) := by decide +kernel
theorem dX2_writeBackElsewhere_38 : decode cX2_writeBackElsewhere 38 = .ok (.invokevirtual 183, 3) := by decide +kernel
theorem dX2_writeBackElsewhere_41 : decode cX2_writeBackElsewhere 41 = .ok (.aload_n 0, 1) := by decide +kernel
theorem dX2_writeBackElsewhere_42 : decode cX2_writeBackElsewhere 42 = .ok (.getfield 11, 3) := by decide +kernel
theorem dX2_writeBackElsewhere_45 : decode cX2_writeBackElsewhere 45 = .ok (.iload_n 3, 1) := by decide +kernel
theorem dX2_writeBackElsewhere_46 : decode cX2_writeBackElsewhere 46 = .ok (.aaload, 1) := by decide +kernel
theorem dX2_writeBackElsewhere_47 : decode cX2_writeBackElsewhere 47 = .ok (.getfield 77, 3) := by decide +kernel
theorem dX2_writeBackElsewhere_50 : decode cX2_writeBackElsewhere 50 = .ok (.iload_n 2, 1) := by decide +kernel
theorem dX2_writeBackElsewhere_51 : decode cX2_writeBackElsewhere 51 = .ok (.iconst 1, 1) := by decide +kernel
theorem dX2_writeBackElsewhere_52 : decode cX2_writeBackElsewhere 52 = .ok (.iastore, 1) := by decide +kernel
theorem dX2_writeBackElsewhere_53 : decode cX2_writeBackElsewhere 53 = .ok (.iinc 3 1, 3) := by decide +kernel
theorem dX2_writeBackElsewhere_56 : decode cX2_writeBackElsewhere 56 = .ok (.goto (-54), 3) := by decide +kernel
theorem dX2_writeBackElsewhere_59 : decode cX2_writeBackElsewhere 59 = .ok (.return_, 1) := by decide +kernel
theorem dX2_writeBack_0 : decode cX2_writeBack 0 = .ok (.aload_n 0, 1) := by decide +kernel
theorem dX2_writeBack_1 : decode cX2_writeBack 1 = .ok (.getfield 18, 3) := by decide +kernel
theorem dX2_writeBack_4 : decode cX2_writeBack 4 = .ok (.iload_n 2, 1) := by decide +kernel
theorem dX2_writeBack_5 : decode cX2_writeBack 5 = .ok (.aload_n 1, 1) := by decide +kernel
theorem dX2_writeBack_6 : decode cX2_writeBack 6 = .ok (.getfield 87, 3) := by decide +kernel
theorem dX2_writeBack_9 : decode cX2_writeBack 9 = .ok (.iload_n 2, 1) := by decide +kernel
theorem dX2_writeBack_10 : decode cX2_writeBack 10 = .ok (.iaload, 1) := by decide +kernel
theorem dX2_writeBack_11 : decode cX2_writeBack 11 = .ok (.iastore, 1) := by decide +kernel
theorem dX2_writeBack_12 : decode cX2_writeBack 12 = .ok (.aload_n 0, 1) := by decide +kernel
theorem dX2_writeBack_13 : decode cX2_writeBack 13 = .ok (.getfield 22, 3) := by decide +kernel
theorem dX2_writeBack_16 : decode cX2_writeBack 16 = .ok (.iconst 4, 1) := by decide +kernel
theorem dX2_writeBack_17 : decode cX2_writeBack 17 = .ok (.dup2, 1) := by decide +kernel
theorem dX2_writeBack_18 : decode cX2_writeBack 18 = .ok (.iaload, 1) := by decide +kernel
theorem dX2_writeBack_19 : decode cX2_writeBack 19 = .ok (.iconst 1, 1) := by decide +kernel
theorem dX2_writeBack_20 : decode cX2_writeBack 20 = .ok (.iadd, 1) := by decide +kernel
theorem dX2_writeBack_21 : decode cX2_writeBack 21 = .ok (.iastore, 1) := by decide +kernel
theorem dX2_writeBack_22 : decode cX2_writeBack 22 = .ok (.return_, 1) := by decide +kernel
theorem dX2_winsConflicts_0 : decode cX2_winsConflicts 0 = .ok (.aload_n 0, 1) := by decide +kernel
theorem dX2_winsConflicts_1 : decode cX2_winsConflicts 1 = .ok (.getfield 11, 3) := by decide +kernel
theorem dX2_winsConflicts_4 : decode cX2_winsConflicts 4 = .ok (.iload_n 1, 1) := by decide +kernel
theorem dX2_winsConflicts_5 : decode cX2_winsConflicts 5 = .ok (.aaload, 1) := by decide +kernel
theorem dX2_winsConflicts_6 : decode cX2_winsConflicts 6 = .ok (.astore 4, 2) := by decide +kernel
theorem dX2_winsConflicts_8 : decode cX2_winsConflicts 8 = .ok (.iconst 0, 1) := by decide +kernel
theorem dX2_winsConflicts_9 : decode cX2_winsConflicts 9 = .ok (.istore 5, 2) := by decide +kernel
theorem dX2_winsConflicts_11 : decode cX2_winsConflicts 11 = .ok (.iload 5, 2) := by decide +kernel
theorem dX2_winsConflicts_13 : decode cX2_winsConflicts 13 = .ok (.aload_n 0, 1) := by decide +kernel
theorem dX2_winsConflicts_14 : decode cX2_winsConflicts 14 = .ok (.getfield 34, 3) := by decide +kernel
theorem dX2_winsConflicts_17 : decode cX2_winsConflicts 17 = .ok (.if_icmp .ge 79, 3) := by decide +kernel
theorem dX2_winsConflicts_20 : decode cX2_winsConflicts 20 = .ok (.aload_n 0, 1) := by decide +kernel
theorem dX2_winsConflicts_21 : decode cX2_winsConflicts 21 = .ok (.getfield 11, 3) := by decide +kernel
theorem dX2_winsConflicts_24 : decode cX2_winsConflicts 24 = .ok (.iload 5, 2) := by decide +kernel
theorem dX2_winsConflicts_26 : decode cX2_winsConflicts 26 = .ok (.aaload, 1) := by decide +kernel
theorem dX2_winsConflicts_27 : decode cX2_winsConflicts 27 = .ok (.astore 6, 2) := by decide +kernel
theorem dX2_winsConflicts_29 : decode cX2_winsConflicts 29 = .ok (.iload 5, 2) := by decide +kernel
theorem dX2_winsConflicts_31 : decode cX2_winsConflicts 31 = .ok (.iload_n 1, 1) := by decide +kernel
theorem dX2_winsConflicts_32 : decode cX2_winsConflicts 32 = .ok (.if_icmp .eq 58, 3) := by decide +kernel
theorem dX2_winsConflicts_35 : decode cX2_winsConflicts 35 = .ok (.aload 6, 2) := by decide +kernel
theorem dX2_winsConflicts_37 : decode cX2_winsConflicts 37 = .ok (.iload_n 2, 1) := by decide +kernel
theorem dX2_winsConflicts_38 : decode cX2_winsConflicts 38 = .ok (.iload_n 3, 1) := by decide +kernel
theorem dX2_winsConflicts_39 : decode cX2_winsConflicts 39 = .ok (.invokevirtual 191, 3) := by decide +kernel
theorem dX2_winsConflicts_42 : decode cX2_winsConflicts 42 = .ok (.ifCond .ne 6, 3) := by decide +kernel
theorem dX2_winsConflicts_45 : decode cX2_winsConflicts 45 = .ok (.goto 45, 3) := by decide +kernel
theorem dX2_winsConflicts_48 : decode cX2_winsConflicts 48 = .ok (.aload_n 0, 1) := by decide +kernel
theorem dX2_winsConflicts_49 : decode cX2_winsConflicts 49 = .ok (.aload 4, 2) := by decide +kernel
theorem dX2_winsConflicts_51 : decode cX2_winsConflicts 51 = .ok (.aload 6, 2) := by decide +kernel
theorem dX2_winsConflicts_53 : decode cX2_winsConflicts 53 = .ok (.invokevirtual 195, 3) := by decide +kernel
theorem dX2_winsConflicts_56 : decode cX2_winsConflicts 56 = .ok (.istore 7, 2) := by decide +kernel
theorem dX2_winsConflicts_58 : decode cX2_winsConflicts 58 = .ok (.iload 7, 2) := by decide +kernel
theorem dX2_winsConflicts_60 : decode cX2_winsConflicts 60 = .ok (.ifCond .eq 8, 3) := by decide +kernel
theorem dX2_winsConflicts_63 : decode cX2_winsConflicts 63 = .ok (.aload 6, 2) := by decide +kernel
theorem dX2_winsConflicts_65 : decode cX2_winsConflicts 65 = .ok (.goto 5, 3) := by decide +kernel
theorem dX2_winsConflicts_68 : decode cX2_winsConflicts 68 = .ok (.aload 4, 2) := by decide +kernel
theorem dX2_winsConflicts_70 : decode cX2_winsConflicts 70 = .ok (.invokevirtual 177, 3) := by decide +kernel
theorem dX2_winsConflicts_73 : decode cX2_winsConflicts 73 = .ok (.aload_n 0, 1) := by decide +kernel
theorem dX2_winsConflicts_74 : decode cX2_winsConflicts 74 = .ok (.getfield 22, 3) := by decide +kernel
theorem dX2_winsConflicts_77 : decode cX2_winsConflicts 77 = .ok (.iconst 5, 1) := by decide +kernel
theorem dX2_winsConflicts_78 : decode cX2_winsConflicts 78 = .ok (.dup2, 1) := by decide +kernel
theorem dX2_winsConflicts_79 : decode cX2_winsConflicts 79 = .ok (.iaload, 1) := by decide +kernel
theorem dX2_winsConflicts_80 : decode cX2_winsConflicts 80 = .ok (.iconst 1, 1) := by decide +kernel
theorem dX2_winsConflicts_81 : decode cX2_winsConflicts 81 = .ok (.iadd, 1) := by decide +kernel
theorem dX2_winsConflicts_82 : decode cX2_winsConflicts 82 = .ok (.iastore, 1) := by decide +kernel
theorem dX2_winsConflicts_83 : decode cX2_winsConflicts 83 = .ok (.iload 7, 2) := by decide +kernel
theorem dX2_winsConflicts_85 : decode cX2_winsConflicts 85 = .ok (.ifCond .ne 5, 3) := by decide +kernel
theorem dX2_winsConflicts_88 : decode cX2_winsConflicts 88 = .ok (.iconst 0, 1) := by decide +kernel
theorem dX2_winsConflicts_89 : decode cX2_winsConflicts 89 = .ok (.ireturn, 1) := by decide +kernel
theorem dX2_winsConflicts_90 : decode cX2_winsConflicts 90 = .ok (.iinc 5 1, 3) := by decide +kernel
theorem dX2_winsConflicts_93 : decode cX2_winsConflicts 93 = .ok (.goto (-82), 3) := by decide +kernel
theorem dX2_winsConflicts_96 : decode cX2_winsConflicts 96 = .ok (.iconst 1, 1) := by decide +kernel
theorem dX2_winsConflicts_97 : decode cX2_winsConflicts 97 = .ok (.ireturn, 1) := by decide +kernel
theorem dX2_winsAgainst_0 : decode cX2_winsAgainst 0 = .ok (.aload_n 1, 1) := by decide +kernel
theorem dX2_winsAgainst_1 : decode cX2_winsAgainst 1 = .ok (.invokevirtual 141, 3) := by decide +kernel
theorem dX2_winsAgainst_4 : decode cX2_winsAgainst 4 = .ok (.ifCond .eq 10, 3) := by decide +kernel
theorem dX2_winsAgainst_7 : decode cX2_winsAgainst 7 = .ok (.aload_n 0, 1) := by decide +kernel
theorem dX2_winsAgainst_8 : decode cX2_winsAgainst 8 = .ok (.getfield 38, 3) := by decide +kernel
theorem dX2_winsAgainst_11 : decode cX2_winsAgainst 11 = .ok (.ifCond .ne 5, 3) := by decide +kernel
theorem dX2_winsAgainst_14 : decode cX2_winsAgainst 14 = .ok (.iconst 1, 1) := by decide +kernel
theorem dX2_winsAgainst_15 : decode cX2_winsAgainst 15 = .ok (.ireturn, 1) := by decide +kernel
theorem dX2_winsAgainst_16 : decode cX2_winsAgainst 16 = .ok (.aload_n 0, 1) := by decide +kernel
theorem dX2_winsAgainst_17 : decode cX2_winsAgainst 17 = .ok (.getfield 38, 3) := by decide +kernel
theorem dX2_winsAgainst_20 : decode cX2_winsAgainst 20 = .ok (.iconst 1, 1) := by decide +kernel
theorem dX2_winsAgainst_21 : decode cX2_winsAgainst 21 = .ok (.if_icmp .eq 18, 3) := by decide +kernel
theorem dX2_winsAgainst_24 : decode cX2_winsAgainst 24 = .ok (.aload_n 1, 1) := by decide +kernel
theorem dX2_winsAgainst_25 : decode cX2_winsAgainst 25 = .ok (.getfield 199, 3) := by decide +kernel
theorem dX2_winsAgainst_28 : decode cX2_winsAgainst 28 = .ok (.aload_n 2, 1) := by decide +kernel
theorem dX2_winsAgainst_29 : decode cX2_winsAgainst 29 = .ok (.getfield 199, 3) := by decide +kernel
theorem dX2_winsAgainst_32 : decode cX2_winsAgainst 32 = .ok (.if_icmp .ge 7, 3) := by decide +kernel
theorem dX2_winsAgainst_35 : decode cX2_winsAgainst 35 = .ok (.iconst 1, 1) := by decide +kernel
theorem dX2_winsAgainst_36 : decode cX2_winsAgainst 36 = .ok (.goto 4, 3) := by decide +kernel
theorem dX2_winsAgainst_39 : decode cX2_winsAgainst 39 = .ok (.iconst 0, 1) := by decide +kernel
theorem dX2_winsAgainst_40 : decode cX2_winsAgainst 40 = .ok (.ireturn, 1) := by decide +kernel
theorem dX2_writeFromOutside_0 : decode cX2_writeFromOutside 0 = .ok (.aload_n 0, 1) := by decide +kernel
theorem dX2_writeFromOutside_1 : decode cX2_writeFromOutside 1 = .ok (.invokevirtual 116, 3) := by decide +kernel
theorem dX2_writeFromOutside_4 : decode cX2_writeFromOutside 4 = .ok (.istore_n 3, 1) := by decide +kernel
theorem dX2_writeFromOutside_5 : decode cX2_writeFromOutside 5 = .ok (.iconst 0, 1) := by decide +kernel
theorem dX2_writeFromOutside_6 : decode cX2_writeFromOutside 6 = .ok (.istore 4, 2) := by decide +kernel
theorem dX2_writeFromOutside_8 : decode cX2_writeFromOutside 8 = .ok (.iload 4, 2) := by decide +kernel
theorem dX2_writeFromOutside_10 : decode cX2_writeFromOutside 10 = .ok (.aload_n 0, 1) := by decide +kernel
theorem dX2_writeFromOutside_11 : decode cX2_writeFromOutside 11 = .ok (.getfield 34, 3) := by decide +kernel
theorem dX2_writeFromOutside_14 : decode cX2_writeFromOutside 14 = .ok (.if_icmp .ge 57, 3) := by decide +kernel
theorem dX2_writeFromOutside_17 : decode cX2_writeFromOutside 17 = .ok (.aload_n 0, 1) := by decide +kernel
theorem dX2_writeFromOutside_18 : decode cX2_writeFromOutside 18 = .ok (.getfield 11, 3) := by decide +kernel
theorem dX2_writeFromOutside_21 : decode cX2_writeFromOutside 21 = .ok (.iload 4, 2) := by decide +kernel
theorem dX2_writeFromOutside_23 : decode cX2_writeFromOutside 23 = .ok (.aaload, 1) := by decide +kernel
theorem dX2_writeFromOutside_24 : decode cX2_writeFromOutside 24 = .ok (.iload_n 1, 1) := by decide +kernel
theorem dX2_writeFromOutside_25 : decode cX2_writeFromOutside 25 = .ok (.iconst 1, 1) := by decide +kernel
theorem dX2_writeFromOutside_26 : decode cX2_writeFromOutside 26 = .ok (.invokevirtual 191, 3) := by decide +kernel
theorem dX2_writeFromOutside_29 : decode cX2_writeFromOutside 29 = .ok (.ifCond .eq 23, 3) := by decide +kernel
theorem dX2_writeFromOutside_32 : decode cX2_writeFromOutside 32 = .ok (.aload_n 0, 1) := by decide +kernel
theorem dX2_writeFromOutside_33 : decode cX2_writeFromOutside 33 = .ok (.getfield 11, 3) := by decide +kernel
theorem dX2_writeFromOutside_36 : decode cX2_writeFromOutside 36 = .ok (.iload 4, 2) := by decide +kernel
theorem dX2_writeFromOutside_38 : decode cX2_writeFromOutside 38 = .ok (.aaload, 1) := by decide +kernel
theorem dX2_writeFromOutside_39 : decode cX2_writeFromOutside 39 = .ok (.invokevirtual 177, 3) := by decide +kernel
theorem dX2_writeFromOutside_42 : decode cX2_writeFromOutside 42 = .ok (.aload_n 0, 1) := by decide +kernel
theorem dX2_writeFromOutside_43 : decode cX2_writeFromOutside 43 = .ok (.getfield 22, 3) := by decide +kernel
theorem dX2_writeFromOutside_46 : decode cX2_writeFromOutside 46 = .ok (.iconst 5, 1) := by decide +kernel
theorem dX2_writeFromOutside_47 : decode cX2_writeFromOutside 47 = .ok (.dup2, 1) := by decide +kernel
theorem dX2_writeFromOutside_48 : decode cX2_writeFromOutside 48 = .ok (.iaload, 1) := by decide +kernel
theorem dX2_writeFromOutside_49 : decode cX2_writeFromOutside 49 = .ok (.iconst 1, 1) := by decide +kernel
theorem dX2_writeFromOutside_50 : decode cX2_writeFromOutside 50 = .ok (.iadd, 1) := by decide +kernel
theorem dX2_writeFromOutside_51 : decode cX2_writeFromOutside 51 = .ok (.iastore, 1) := by decide +kernel
theorem dX2_writeFromOutside_52 : decode cX2_writeFromOutside 52 = .ok (.aload_n 0, 1) := by decide +kernel
theorem dX2_writeFromOutside_53 : decode cX2_writeFromOutside 53 = .ok (.getfield 11, 3) := by decide +kernel
theorem dX2_writeFromOutside_56 : decode cX2_writeFromOutside 56 = .ok (.iload 4, 2) := by decide +kernel
theorem dX2_writeFromOutside_58 : decode cX2_writeFromOutside 58 = .ok (.aaload, 1) := by decide +kernel
theorem dX2_writeFromOutside_59 : decode cX2_writeFromOutside 59 = .ok (.getfield 77, 3) := by decide +kernel
theorem dX2_writeFromOutside_62 : decode cX2_writeFromOutside 62 = .ok (.iload_n 1, 1) := by decide +kernel
theorem dX2_writeFromOutside_63 : decode cX2_writeFromOutside 63 = .ok (.iconst 0, 1) := by decide +kernel
theorem dX2_writeFromOutside_64 : decode cX2_writeFromOutside 64 = .ok (.iastore, 1) := by decide +kernel
theorem dX2_writeFromOutside_65 : decode cX2_writeFromOutside 65 = .ok (.iinc 4 1, 3) := by decide +kernel
theorem dX2_writeFromOutside_68 : decode cX2_writeFromOutside 68 = .ok (.goto (-60), 3) := by decide +kernel
theorem dX2_writeFromOutside_71 : decode cX2_writeFromOutside 71 = .ok (.aload_n 0, 1) := by decide +kernel
theorem dX2_writeFromOutside_72 : decode cX2_writeFromOutside 72 = .ok (.getfield 18, 3) := by decide +kernel
theorem dX2_writeFromOutside_75 : decode cX2_writeFromOutside 75 = .ok (.iload_n 1, 1) := by decide +kernel
theorem dX2_writeFromOutside_76 : decode cX2_writeFromOutside 76 = .ok (.iload_n 2, 1) := by decide +kernel
theorem dX2_writeFromOutside_77 : decode cX2_writeFromOutside 77 = .ok (.iastore, 1) := by decide +kernel
theorem dX2_writeFromOutside_78 : decode cX2_writeFromOutside 78 = .ok (.aload_n 0, 1) := by decide +kernel
theorem dX2_writeFromOutside_79 : decode cX2_writeFromOutside 79 = .ok (.getfield 30, 3) := by decide +kernel
theorem dX2_writeFromOutside_82 : decode cX2_writeFromOutside 82 = .ok (.iconst (-1), 1) := by decide +kernel
theorem dX2_writeFromOutside_83 : decode cX2_writeFromOutside 83 = .ok (.iload_n 1, 1) := by decide +kernel
theorem dX2_writeFromOutside_84 : decode cX2_writeFromOutside 84 = .ok (.aload_n 0, 1) := by decide +kernel
theorem dX2_writeFromOutside_85 : decode cX2_writeFromOutside 85 = .ok (.getfield 18, 3) := by decide +kernel
theorem dX2_writeFromOutside_88 : decode cX2_writeFromOutside 88 = .ok (.invokevirtual 187, 3) := by decide +kernel
theorem dX2_writeFromOutside_91 : decode cX2_writeFromOutside 91 = .ok (.aload_n 0, 1) := by decide +kernel
theorem dX2_writeFromOutside_92 : decode cX2_writeFromOutside 92 = .ok (.invokevirtual 116, 3) := by decide +kernel
theorem dX2_writeFromOutside_95 : decode cX2_writeFromOutside 95 = .ok (.iload_n 3, 1) := by decide +kernel
theorem dX2_writeFromOutside_96 : decode cX2_writeFromOutside 96 = .ok (.isub, 1) := by decide +kernel
theorem dX2_writeFromOutside_97 : decode cX2_writeFromOutside 97 = .ok (.ireturn, 1) := by decide +kernel
theorem dX3_init_0 : decode cX3_init 0 = .ok (.aload_n 0, 1) := by decide +kernel
theorem dX3_init_1 : decode cX3_init 1 = .ok (.invokespecial 3, 3) := by decide +kernel
theorem dX3_init_4 : decode cX3_init 4 = .ok (.aload_n 0, 1) := by decide +kernel
theorem dX3_init_5 : decode cX3_init 5 = .ok (.bipush 30, 2) := by decide +kernel
theorem dX3_init_7 : decode cX3_init 7 = .ok (.newarray .int, 2) := by decide +kernel
theorem dX3_init_9 : decode cX3_init 9 = .ok (.putfield 9, 3) := by decide +kernel
theorem dX3_init_12 : decode cX3_init 12 = .ok (.aload_n 0, 1) := by decide +kernel
theorem dX3_init_13 : decode cX3_init 13 = .ok (.bipush 30, 2) := by decide +kernel
theorem dX3_init_15 : decode cX3_init 15 = .ok (.newarray .int, 2) := by decide +kernel
theorem dX3_init_17 : decode cX3_init 17 = .ok (.putfield 15, 3) := by decide +kernel
theorem dX3_init_20 : decode cX3_init 20 = .ok (.aload_n 0, 1) := by decide +kernel
theorem dX3_init_21 : decode cX3_init 21 = .ok (.iconst 0, 1) := by decide +kernel
theorem dX3_init_22 : decode cX3_init 22 = .ok (.putfield 18, 3) := by decide +kernel
theorem dX3_init_25 : decode cX3_init 25 = .ok (.return_, 1) := by decide +kernel
theorem dX3_isFull_0 : decode cX3_isFull 0 = .ok (.aload_n 0, 1) := by decide +kernel
theorem dX3_isFull_1 : decode cX3_isFull 1 = .ok (.getfield 18, 3) := by decide +kernel
theorem dX3_isFull_4 : decode cX3_isFull 4 = .ok (.bipush 30, 2) := by decide +kernel
theorem dX3_isFull_6 : decode cX3_isFull 6 = .ok (.if_icmp .lt 7, 3) := by decide +kernel
theorem dX3_isFull_9 : decode cX3_isFull 9 = .ok (.iconst 1, 1) := by decide +kernel
theorem dX3_isFull_10 : decode cX3_isFull 10 = .ok (.goto 4, 3) := by decide +kernel
theorem dX3_isFull_13 : decode cX3_isFull 13 = .ok (.iconst 0, 1) := by decide +kernel
theorem dX3_isFull_14 : decode cX3_isFull 14 = .ok (.ireturn, 1) := by decide +kernel
theorem dX3_addInstruction_0 : decode cX3_addInstruction 0 = .ok (.aload_n 0, 1) := by decide +kernel
theorem dX3_addInstruction_1 : decode cX3_addInstruction 1 = .ok (.getfield 18, 3) := by decide +kernel
theorem dX3_addInstruction_4 : decode cX3_addInstruction 4 = .ok (.ifCond .lt 10, 3) := by decide +kernel
theorem dX3_addInstruction_7 : decode cX3_addInstruction 7 = .ok (.aload_n 0, 1) := by decide +kernel
theorem dX3_addInstruction_8 : decode cX3_addInstruction 8 = .ok (.invokevirtual 22, 3) := by decide +kernel
theorem dX3_addInstruction_11 : decode cX3_addInstruction 11 = .ok (.ifCond .eq 4, 3) := by decide +kernel
theorem dX3_addInstruction_14 : decode cX3_addInstruction 14 = .ok (.return_, 1) := by decide +kernel
theorem dX3_addInstruction_15 : decode cX3_addInstruction 15 = .ok (.aload_n 0, 1) := by decide +kernel
theorem dX3_addInstruction_16 : decode cX3_addInstruction 16 = .ok (.getfield 9, 3) := by decide +kernel
theorem dX3_addInstruction_19 : decode cX3_addInstruction 19 = .ok (.aload_n 0, 1) := by decide +kernel
theorem dX3_addInstruction_20 : decode cX3_addInstruction 20 = .ok (.getfield 18, 3) := by decide +kernel
theorem dX3_addInstruction_23 : decode cX3_addInstruction 23 = .ok (.iload_n 1, 1) := by decide +kernel
theorem dX3_addInstruction_24 : decode cX3_addInstruction 24 = .ok (.iastore, 1) := by decide +kernel
theorem dX3_addInstruction_25 : decode cX3_addInstruction 25 = .ok (.aload_n 0, 1) := by decide +kernel
theorem dX3_addInstruction_26 : decode cX3_addInstruction 26 = .ok (.getfield 15, 3) := by decide +kernel
theorem dX3_addInstruction_29 : decode cX3_addInstruction 29 = .ok (.aload_n 0, 1) := by decide +kernel
theorem dX3_addInstruction_30 : decode cX3_addInstruction 30 = .ok (.getfield 18, 3) := by decide +kernel
theorem dX3_addInstruction_33 : decode cX3_addInstruction 33 = .ok (.iload_n 2, 1) := by decide +kernel
theorem dX3_addInstruction_34 : decode cX3_addInstruction 34 = .ok (.iastore, 1) := by decide +kernel
theorem dX3_addInstruction_35 : decode cX3_addInstruction 35 = .ok (.aload_n 0, 1) := by decide +kernel
theorem dX3_addInstruction_36 : decode cX3_addInstruction 36 = .ok (.dup, 1) := by decide +kernel
theorem dX3_addInstruction_37 : decode cX3_addInstruction 37 = .ok (.getfield 18, 3) := by decide +kernel
theorem dX3_addInstruction_40 : decode cX3_addInstruction 40 = .ok (.iconst 1, 1) := by decide +kernel
theorem dX3_addInstruction_41 : decode cX3_addInstruction 41 = .ok (.iadd, 1) := by decide +kernel
theorem dX3_addInstruction_42 : decode cX3_addInstruction 42 = .ok (.putfield 18, 3) := by decide +kernel
theorem dX3_addInstruction_45 : decode cX3_addInstruction 45 = .ok (.return_, 1) := by decide +kernel
theorem dX3_copyFrom_0 : decode cX3_copyFrom 0 = .ok (.aload_n 1, 1) := by decide +kernel
theorem dX3_copyFrom_1 : decode cX3_copyFrom 1 = .ok (.getfield 9, 3) := by decide +kernel
theorem dX3_copyFrom_4 : decode cX3_copyFrom 4 = .ok (.iconst 0, 1) := by decide +kernel
theorem dX3_copyFrom_5 : decode cX3_copyFrom 5 = .ok (.aload_n 0, 1) := by decide +kernel
theorem dX3_copyFrom_6 : decode cX3_copyFrom 6 = .ok (.getfield 9, 3) := by decide +kernel
theorem dX3_copyFrom_9 : decode cX3_copyFrom 9 = .ok (.iconst 0, 1) := by decide +kernel
theorem dX3_copyFrom_10 : decode cX3_copyFrom 10 = .ok (.bipush 30, 2) := by decide +kernel
theorem dX3_copyFrom_12 : decode cX3_copyFrom 12 = .ok (.invokestatic 26, 3) := by decide +kernel
theorem dX3_copyFrom_15 : decode cX3_copyFrom 15 = .ok (.aload_n 1, 1) := by decide +kernel
theorem dX3_copyFrom_16 : decode cX3_copyFrom 16 = .ok (.getfield 15, 3) := by decide +kernel
theorem dX3_copyFrom_19 : decode cX3_copyFrom 19 = .ok (.iconst 0, 1) := by decide +kernel
theorem dX3_copyFrom_20 : decode cX3_copyFrom 20 = .ok (.aload_n 0, 1) := by decide +kernel
theorem dX3_copyFrom_21 : decode cX3_copyFrom 21 = .ok (.getfield 15, 3) := by decide +kernel
theorem dX3_copyFrom_24 : decode cX3_copyFrom 24 = .ok (.iconst 0, 1) := by decide +kernel
theorem dX3_copyFrom_25 : decode cX3_copyFrom 25 = .ok (.bipush 30, 2) := by decide +kernel
theorem dX3_copyFrom_27 : decode cX3_copyFrom 27 = .ok (.invokestatic 26, 3) := by decide +kernel
theorem dX3_copyFrom_30 : decode cX3_copyFrom 30 = .ok (.aload_n 0, 1) := by decide +kernel
theorem dX3_copyFrom_31 : decode cX3_copyFrom 31 = .ok (.aload_n 1, 1) := by decide +kernel
theorem dX3_copyFrom_32 : decode cX3_copyFrom 32 = .ok (.getfield 18, 3) := by decide +kernel
theorem dX3_copyFrom_35 : decode cX3_copyFrom 35 = .ok (.putfield 18, 3) := by decide +kernel
theorem dX3_copyFrom_38 : decode cX3_copyFrom 38 = .ok (.return_, 1) := by decide +kernel
theorem dX4_init_0 : decode cX4_init 0 = .ok (.aload_n 0, 1) := by decide +kernel
theorem dX4_init_1 : decode cX4_init 1 = .ok (.invokespecial 3, 3) := by decide +kernel
theorem dX4_init_4 : decode cX4_init 4 = .ok (.aload_n 0, 1) := by decide +kernel
theorem dX4_init_5 : decode cX4_init 5 = .ok (.new 9, 3) := by decide +kernel
theorem dX4_init_8 : decode cX4_init 8 = .ok (.dup, 1) := by decide +kernel
theorem dX4_init_9 : decode cX4_init 9 = .ok (.invokespecial 11, 3) := by decide +kernel
theorem dX4_init_12 : decode cX4_init 12 = .ok (.putfield 12, 3) := by decide +kernel
theorem dX4_init_15 : decode cX4_init 15 = .ok (.aload_n 0, 1) := by decide +kernel
theorem dX4_init_16 : decode cX4_init 16 = .ok (.iconst 0, 1) := by decide +kernel
theorem dX4_init_17 : decode cX4_init 17 = .ok (.putfield 18, 3) := by decide +kernel
theorem dX4_init_20 : decode cX4_init 20 = .ok (.aload_n 0, 1) := by decide +kernel
theorem dX4_init_21 : decode cX4_init 21 = .ok (.iconst 0, 1) := by decide +kernel
theorem dX4_init_22 : decode cX4_init 22 = .ok (.putfield 22, 3) := by decide +kernel
theorem dX4_init_25 : decode cX4_init 25 = .ok (.aload_n 0, 1) := by decide +kernel
theorem dX4_init_26 : decode cX4_init 26 = .ok (.iconst 0, 1) := by decide +kernel
theorem dX4_init_27 : decode cX4_init 27 = .ok (.putfield 25, 3) := by decide +kernel
theorem dX4_init_30 : decode cX4_init 30 = .ok (.aload_n 0, 1) := by decide +kernel
theorem dX4_init_31 : decode cX4_init 31 = .ok (.iconst 0, 1) := by decide +kernel
theorem dX4_init_32 : decode cX4_init 32 = .ok (.putfield 28, 3) := by decide +kernel
theorem dX4_init_35 : decode cX4_init 35 = .ok (.aload_n 0, 1) := by decide +kernel
theorem dX4_init_36 : decode cX4_init 36 = .ok (.iconst 0, 1) := by decide +kernel
theorem dX4_init_37 : decode cX4_init 37 = .ok (.putfield 31, 3) := by decide +kernel
theorem dX4_init_40 : decode cX4_init 40 = .ok (.return_, 1) := by decide +kernel
theorem dX4_readText_0 : decode cX4_readText 0 = .ok (.aload_n 0, 1) := by decide +kernel
theorem dX4_readText_1 : decode cX4_readText 1 = .ok (.getfield 12, 3) := by decide +kernel
theorem dX4_readText_4 : decode cX4_readText 4 = .ok (.iconst 0, 1) := by decide +kernel
theorem dX4_readText_5 : decode cX4_readText 5 = .ok (.putfield 35, 3) := by decide +kernel
theorem dX4_readText_8 : decode cX4_readText 8 = .ok (.aload_n 0, 1) := by decide +kernel
theorem dX4_readText_9 : decode cX4_readText 9 = .ok (.iconst 0, 1) := by decide +kernel
theorem dX4_readText_10 : decode cX4_readText 10 = .ok (.putfield 18, 3) := by decide +kernel
theorem dX4_readText_13 : decode cX4_readText 13 = .ok (.iconst 0, 1) := by decide +kernel
theorem dX4_readText_14 : decode cX4_readText 14 = .ok (.istore_n 3, 1) := by decide +kernel
theorem dX4_readText_15 : decode cX4_readText 15 = .ok (.iload_n 3, 1) := by decide +kernel
theorem dX4_readText_16 : decode cX4_readText 16 = .ok (.iload_n 2, 1) := by decide +kernel
theorem dX4_readText_17 : decode cX4_readText 17 = .ok (.if_icmp .ge 27, 3) := by decide +kernel
theorem dX4_readText_20 : decode cX4_readText 20 = .ok (.iload_n 3, 1) := by decide +kernel
theorem dX4_readText_21 : decode cX4_readText 21 = .ok (.aload_n 1, 1) := by decide +kernel
theorem dX4_readText_22 : decode cX4_readText 22 = .ok (.arraylength, 1) := by decide +kernel
theorem dX4_readText_23 : decode cX4_readText 23 = .ok (.if_icmp .ge 21, 3) := by decide +kernel
theorem dX4_readText_26 : decode cX4_readText 26 = .ok (.aload_n 0, 1) := by decide +kernel
theorem dX4_readText_27 : decode cX4_readText 27 = .ok (.aload_n 1, 1) := by decide +kernel
theorem dX4_readText_28 : decode cX4_readText 28 = .ok (.iload_n 3, 1) := by decide +kernel
theorem dX4_readText_29 : decode cX4_readText 29 = .ok (.iaload, 1) := by decide +kernel
theorem dX4_readText_30 : decode cX4_readText 30 = .ok (.invokevirtual 38, 3) := by decide +kernel
theorem dX4_readText_33 : decode cX4_readText 33 = .ok (.ifCond .ne 5, 3) := by decide +kernel
theorem dX4_readText_36 : decode cX4_readText 36 = .ok (.iload_n 3, 1) := by decide +kernel
theorem dX4_readText_37 : decode cX4_readText 37 = .ok (.ireturn, 1) := by decide +kernel
theorem dX4_readText_38 : decode cX4_readText 38 = .ok (.iinc 3 1, 3) := by decide +kernel
theorem dX4_readText_41 : decode cX4_readText 41 = .ok (.goto (-26), 3) := by decide +kernel
theorem dX4_readText_44 : decode cX4_readText 44 = .ok (.aload_n 0, 1) := by decide +kernel
theorem dX4_readText_45 : decode cX4_readText 45 = .ok (.getfield 18, 3) := by decide +kernel
theorem dX4_readText_48 : decode cX4_readText 48 = .ok (.ifCond .ne 7, 3) := by decide +kernel
theorem dX4_readText_51 : decode cX4_readText 51 = .ok (.iconst (-1), 1) := by decide +kernel
theorem dX4_readText_52 : decode cX4_readText 52 = .ok (.goto 4, 3) := by decide +kernel
theorem dX4_readText_55 : decode cX4_readText 55 = .ok (.iload_n 2, 1) := by decide +kernel
theorem dX4_readText_56 : decode cX4_readText 56 = .ok (.ireturn, 1) := by decide +kernel
theorem dX4_accepts_0 : decode cX4_accepts 0 = .ok (.aload_n 0, 1) := by decide +kernel
theorem dX4_accepts_1 : decode cX4_accepts 1 = .ok (.getfield 18, 3) := by decide +kernel
theorem dX4_accepts_4 : decode cX4_accepts 4 = .ok (.tableswitch 98 0 4 #[36, 42, 48, 70, 76], 36) := by decide +kernel
theorem dX4_accepts_40 : decode cX4_accepts 40 = .ok (.aload_n 0, 1) := by decide +kernel
theorem dX4_accepts_41 : decode cX4_accepts 41 = .ok (.iload_n 1, 1) := by decide +kernel
theorem dX4_accepts_42 : decode cX4_accepts 42 = .ok (.invokevirtual 42, 3) := by decide +kernel
theorem dX4_accepts_45 : decode cX4_accepts 45 = .ok (.ireturn, 1) := by decide +kernel
theorem dX4_accepts_46 : decode cX4_accepts 46 = .ok (.aload_n 0, 1) := by decide +kernel
theorem dX4_accepts_47 : decode cX4_accepts 47 = .ok (.iload_n 1, 1) := by decide +kernel
theorem dX4_accepts_48 : decode cX4_accepts 48 = .ok (.invokevirtual 45, 3) := by decide +kernel
theorem dX4_accepts_51 : decode cX4_accepts 51 = .ok (.ireturn, 1) := by decide +kernel
theorem dX4_accepts_52 : decode cX4_accepts 52 = .ok (.aload_n 0, 1) := by decide +kernel
theorem dX4_accepts_53 : decode cX4_accepts 53 = .ok (.iload_n 1, 1) := by decide +kernel
theorem dX4_accepts_54 : decode cX4_accepts 54 = .ok (.invokevirtual 48, 3) := by decide +kernel
theorem dX4_accepts_57 : decode cX4_accepts 57 = .ok (.ifCond .ne 11, 3) := by decide +kernel
theorem dX4_accepts_60 : decode cX4_accepts 60 = .ok (.aload_n 0, 1) := by decide +kernel
theorem dX4_accepts_61 : decode cX4_accepts 61 = .ok (.iload_n 1, 1) := by decide +kernel
theorem dX4_accepts_62 : decode cX4_accepts 62 = .ok (.invokevirtual 51, 3) := by decide +kernel
theorem dX4_accepts_65 : decode cX4_accepts 65 = .ok (.ifCond .eq 7, 3) := by decide +kernel
theorem dX4_accepts_68 : decode cX4_accepts 68 = .ok (.iconst 1, 1) := by decide +kernel
theorem dX4_accepts_69 : decode cX4_accepts 69 = .ok (.goto 4, 3) := by decide +kernel
theorem dX4_accepts_72 : decode cX4_accepts 72 = .ok (.iconst 0, 1) := by decide +kernel
theorem dX4_accepts_73 : decode cX4_accepts 73 = .ok (.ireturn, 1) := by decide +kernel
theorem dX4_accepts_74 : decode cX4_accepts 74 = .ok (.aload_n 0, 1) := by decide +kernel
theorem dX4_accepts_75 : decode cX4_accepts 75 = .ok (.iload_n 1, 1) := by decide +kernel
theorem dX4_accepts_76 : decode cX4_accepts 76 = .ok (.invokevirtual 51, 3) := by decide +kernel
theorem dX4_accepts_79 : decode cX4_accepts 79 = .ok (.ireturn, 1) := by decide +kernel
theorem dX4_accepts_80 : decode cX4_accepts 80 = .ok (.aload_n 0, 1) := by decide +kernel
theorem dX4_accepts_81 : decode cX4_accepts 81 = .ok (.iload_n 1, 1) := by decide +kernel
theorem dX4_accepts_82 : decode cX4_accepts 82 = .ok (.invokevirtual 51, 3) := by decide +kernel
theorem dX4_accepts_85 : decode cX4_accepts 85 = .ok (.ifCond .ne 11, 3) := by decide +kernel
theorem dX4_accepts_88 : decode cX4_accepts 88 = .ok (.aload_n 0, 1) := by decide +kernel
theorem dX4_accepts_89 : decode cX4_accepts 89 = .ok (.iload_n 1, 1) := by decide +kernel
theorem dX4_accepts_90 : decode cX4_accepts 90 = .ok (.invokevirtual 54, 3) := by decide +kernel
theorem dX4_accepts_93 : decode cX4_accepts 93 = .ok (.ifCond .eq 7, 3) := by decide +kernel
theorem dX4_accepts_96 : decode cX4_accepts 96 = .ok (.iconst 1, 1) := by decide +kernel
theorem dX4_accepts_97 : decode cX4_accepts 97 = .ok (.goto 4, 3) := by decide +kernel
theorem dX4_accepts_100 : decode cX4_accepts 100 = .ok (.iconst 0, 1) := by decide +kernel
theorem dX4_accepts_101 : decode cX4_accepts 101 = .ok (.ireturn, 1) := by decide +kernel
theorem dX4_accepts_102 : decode cX4_accepts 102 = .ok (.aload_n 0, 1) := by decide +kernel
theorem dX4_accepts_103 : decode cX4_accepts 103 = .ok (.iload_n 1, 1) := by decide +kernel
theorem dX4_accepts_104 : decode cX4_accepts 104 = .ok (.invokevirtual 54, 3) := by decide +kernel
theorem dX4_accepts_107 : decode cX4_accepts 107 = .ok (.ireturn, 1) := by decide +kernel
theorem dX4_acceptsInstruction_0 : decode cX4_acceptsInstruction 0 = .ok (.aload_n 0, 1) := by decide +kernel
theorem dX4_acceptsInstruction_1 : decode cX4_acceptsInstruction 1 = .ok (.getfield 12, 3) := by decide +kernel
theorem dX4_acceptsInstruction_4 : decode cX4_acceptsInstruction 4 = .ok (.invokevirtual 57, 3) := by decide +kernel
theorem dX4_acceptsInstruction_7 : decode cX4_acceptsInstruction 7 = .ok (.ifCond .eq 5, 3) := by decide +kernel
theorem dX4_acceptsInstruction_10 : decode cX4_acceptsInstruction 10 = .ok (.iconst 0, 1) := by decide +kernel
theorem dX4_acceptsInstruction_11 : decode cX4_acceptsInstruction 11 = .ok (.ireturn, 1) := by decide +kernel
theorem dX4_acceptsInstruction_12 : decode cX4_acceptsInstruction 12 = .ok (.aload_n 0, 1) := by decide +kernel
theorem dX4_acceptsInstruction_13 : decode cX4_acceptsInstruction 13 = .ok (.iconst 0, 1) := by decide +kernel
theorem dX4_acceptsInstruction_14 : decode cX4_acceptsInstruction 14 = .ok (.putfield 25, 3) := by decide +kernel
theorem dX4_acceptsInstruction_17 : decode cX4_acceptsInstruction 17 = .ok (.aload_n 0, 1) := by decide +kernel
theorem dX4_acceptsInstruction_18 : decode cX4_acceptsInstruction 18 = .ok (.iconst 0, 1) := by decide +kernel
theorem dX4_acceptsInstruction_19 : decode cX4_acceptsInstruction 19 = .ok (.putfield 28, 3) := by decide +kernel
theorem dX4_acceptsInstruction_22 : decode cX4_acceptsInstruction 22 = .ok (.aload_n 0, 1) := by decide +kernel
theorem dX4_acceptsInstruction_23 : decode cX4_acceptsInstruction 23 = .ok (.iconst 0, 1) := by decide +kernel
theorem dX4_acceptsInstruction_24 : decode cX4_acceptsInstruction 24 = .ok (.putfield 31, 3) := by decide +kernel
theorem dX4_acceptsInstruction_27 : decode cX4_acceptsInstruction 27 = .ok (.iload_n 1, 1) := by decide +kernel
theorem dX4_acceptsInstruction_28 : decode cX4_acceptsInstruction 28 = .ok (.lookupswitch 87 #[(97, 80), (98, 52), (99, 59), (114, 66), (119, 73)], 52) := by decide +kernel
theorem dX4_acceptsInstruction_80 : decode cX4_acceptsInstruction 80 = .ok (.aload_n 0, 1) := by decide +kernel
theorem dX4_acceptsInstruction_81 : decode cX4_acceptsInstruction 81 = .ok (.iconst 0, 1) := by decide +kernel
theorem dX4_acceptsInstruction_82 : decode cX4_acceptsInstruction 82 = .ok (.iconst 5, 1) := by decide +kernel
theorem dX4_acceptsInstruction_83 : decode cX4_acceptsInstruction 83 = .ok (.invokevirtual 61, 3) := by decide +kernel
theorem dX4_acceptsInstruction_86 : decode cX4_acceptsInstruction 86 = .ok (.ireturn, 1) := by decide +kernel
theorem dX4_acceptsInstruction_87 : decode cX4_acceptsInstruction 87 = .ok (.aload_n 0, 1) := by decide +kernel
theorem dX4_acceptsInstruction_88 : decode cX4_acceptsInstruction 88 = .ok (.iconst 1, 1) := by decide +kernel
theorem dX4_acceptsInstruction_89 : decode cX4_acceptsInstruction 89 = .ok (.iconst 5, 1) := by decide +kernel
theorem dX4_acceptsInstruction_90 : decode cX4_acceptsInstruction 90 = .ok (.invokevirtual 61, 3) := by decide +kernel
theorem dX4_acceptsInstruction_93 : decode cX4_acceptsInstruction 93 = .ok (.ireturn, 1) := by decide +kernel
theorem dX4_acceptsInstruction_94 : decode cX4_acceptsInstruction 94 = .ok (.aload_n 0, 1) := by decide +kernel
theorem dX4_acceptsInstruction_95 : decode cX4_acceptsInstruction 95 = .ok (.iconst 2, 1) := by decide +kernel
theorem dX4_acceptsInstruction_96 : decode cX4_acceptsInstruction 96 = .ok (.iconst 1, 1) := by decide +kernel
theorem dX4_acceptsInstruction_97 : decode cX4_acceptsInstruction 97 = .ok (.invokevirtual 61, 3) := by decide +kernel
theorem dX4_acceptsInstruction_100 : decode cX4_acceptsInstruction 100 = .ok (.ireturn, 1) := by decide +kernel
theorem dX4_acceptsInstruction_101 : decode cX4_acceptsInstruction 101 = .ok (.aload_n 0, 1) := by decide +kernel
theorem dX4_acceptsInstruction_102 : decode cX4_acceptsInstruction 102 = .ok (.iconst 3, 1) := by decide +kernel
theorem dX4_acceptsInstruction_103 : decode cX4_acceptsInstruction 103 = .ok (.iconst 1, 1) := by decide +kernel
theorem dX4_acceptsInstruction_104 : decode cX4_acceptsInstruction 104 = .ok (.invokevirtual 61, 3) := by decide +kernel
theorem dX4_acceptsInstruction_107 : decode cX4_acceptsInstruction 107 = .ok (.ireturn, 1) := by decide +kernel
theorem dX4_acceptsInstruction_108 : decode cX4_acceptsInstruction 108 = .ok (.aload_n 0, 1) := by decide +kernel
theorem dX4_acceptsInstruction_109 : decode cX4_acceptsInstruction 109 = .ok (.iconst 4, 1) := by decide +kernel
theorem dX4_acceptsInstruction_110 : decode cX4_acceptsInstruction 110 = .ok (.iconst 2, 1) := by decide +kernel
theorem dX4_acceptsInstruction_111 : decode cX4_acceptsInstruction 111 = .ok (.invokevirtual 61, 3) := by decide +kernel
theorem dX4_acceptsInstruction_114 : decode cX4_acceptsInstruction 114 = .ok (.ireturn, 1) := by decide +kernel
theorem dX4_acceptsInstruction_115 : decode cX4_acceptsInstruction 115 = .ok (.iconst 0, 1) := by decide +kernel
theorem dX4_acceptsInstruction_116 : decode cX4_acceptsInstruction 116 = .ok (.ireturn, 1) := by decide +kernel
theorem dX4_expect_0 : decode cX4_expect 0 = .ok (.aload_n 0, 1) := by decide +kernel
theorem dX4_expect_1 : decode cX4_expect 1 = .ok (.iload_n 1, 1) := by decide +kernel
theorem dX4_expect_2 : decode cX4_expect 2 = .ok (.putfield 22, 3) := by decide +kernel
theorem dX4_expect_5 : decode cX4_expect 5 = .ok (.aload_n 0, 1) := by decide +kernel
theorem dX4_expect_6 : decode cX4_expect 6 = .ok (.iload_n 2, 1) := by decide +kernel
theorem dX4_expect_7 : decode cX4_expect 7 = .ok (.putfield 18, 3) := by decide +kernel
theorem dX4_expect_10 : decode cX4_expect 10 = .ok (.iconst 1, 1) := by decide +kernel
theorem dX4_expect_11 : decode cX4_expect 11 = .ok (.ireturn, 1) := by decide +kernel
theorem dX4_acceptsLine_0 : decode cX4_acceptsLine 0 = .ok (.iload_n 1, 1) := by decide +kernel
theorem dX4_acceptsLine_1 : decode cX4_acceptsLine 1 = .ok (.bipush 48, 2) := by decide +kernel
theorem dX4_acceptsLine_3 : decode cX4_acceptsLine 3 = .ok (.isub, 1) := by decide +kernel
theorem dX4_acceptsLine_4 : decode cX4_acceptsLine 4 = .ok (.invokestatic 65, 3) := by decide +kernel
theorem dX4_acceptsLine_7 : decode cX4_acceptsLine 7 = .ok (.ifCond .ne 5, 3) := by decide +kernel
theorem dX4_acceptsLine_10 : decode cX4_acceptsLine 10 = .ok (.iconst 0, 1) := by decide +kernel
theorem dX4_acceptsLine_11 : decode cX4_acceptsLine 11 = .ok (.ireturn, 1) := by decide +kernel
theorem dX4_acceptsLine_12 : decode cX4_acceptsLine 12 = .ok (.aload_n 0, 1) := by decide +kernel
theorem dX4_acceptsLine_13 : decode cX4_acceptsLine 13 = .ok (.iload_n 1, 1) := by decide +kernel
theorem dX4_acceptsLine_14 : decode cX4_acceptsLine 14 = .ok (.bipush 48, 2) := by decide +kernel
theorem dX4_acceptsLine_16 : decode cX4_acceptsLine 16 = .ok (.isub, 1) := by decide +kernel
theorem dX4_acceptsLine_17 : decode cX4_acceptsLine 17 = .ok (.putfield 25, 3) := by decide +kernel
theorem dX4_acceptsLine_20 : decode cX4_acceptsLine 20 = .ok (.aload_n 0, 1) := by decide +kernel
theorem dX4_acceptsLine_21 : decode cX4_acceptsLine 21 = .ok (.iconst 5, 1) := by decide +kernel
theorem dX4_acceptsLine_22 : decode cX4_acceptsLine 22 = .ok (.putfield 18, 3) := by decide +kernel
theorem dX4_acceptsLine_25 : decode cX4_acceptsLine 25 = .ok (.iconst 1, 1) := by decide +kernel
theorem dX4_acceptsLine_26 : decode cX4_acceptsLine 26 = .ok (.ireturn, 1) := by decide +kernel
theorem dX4_acceptsMinus_0 : decode cX4_acceptsMinus 0 = .ok (.iload_n 1, 1) := by decide +kernel
theorem dX4_acceptsMinus_1 : decode cX4_acceptsMinus 1 = .ok (.bipush 45, 2) := by decide +kernel
theorem dX4_acceptsMinus_3 : decode cX4_acceptsMinus 3 = .ok (.if_icmp .eq 5, 3) := by decide +kernel
theorem dX4_acceptsMinus_6 : decode cX4_acceptsMinus 6 = .ok (.iconst 0, 1) := by decide +kernel
theorem dX4_acceptsMinus_7 : decode cX4_acceptsMinus 7 = .ok (.ireturn, 1) := by decide +kernel
theorem dX4_acceptsMinus_8 : decode cX4_acceptsMinus 8 = .ok (.aload_n 0, 1) := by decide +kernel
theorem dX4_acceptsMinus_9 : decode cX4_acceptsMinus 9 = .ok (.iconst 1, 1) := by decide +kernel
theorem dX4_acceptsMinus_10 : decode cX4_acceptsMinus 10 = .ok (.putfield 31, 3) := by decide +kernel
theorem dX4_acceptsMinus_13 : decode cX4_acceptsMinus 13 = .ok (.aload_n 0, 1) := by decide +kernel
theorem dX4_acceptsMinus_14 : decode cX4_acceptsMinus 14 = .ok (.iconst 3, 1) := by decide +kernel
theorem dX4_acceptsMinus_15 : decode cX4_acceptsMinus 15 = .ok (.putfield 18, 3) := by decide +kernel
theorem dX4_acceptsMinus_18 : decode cX4_acceptsMinus 18 = .ok (.iconst 1, 1) := by decide +kernel
theorem dX4_acceptsMinus_19 : decode cX4_acceptsMinus 19 = .ok (.ireturn, 1) := by decide +kernel
theorem dX4_acceptsDigit_0 : decode cX4_acceptsDigit 0 = .ok (.iload_n 1, 1) := by decide +kernel
theorem dX4_acceptsDigit_1 : decode cX4_acceptsDigit 1 = .ok (.bipush 48, 2) := by decide +kernel
theorem dX4_acceptsDigit_3 : decode cX4_acceptsDigit 3 = .ok (.if_icmp .lt 9, 3) := by decide +kernel
theorem dX4_acceptsDigit_6 : decode cX4_acceptsDigit 6 = .ok (.iload_n 1, 1) := by decide +kernel
theorem dX4_acceptsDigit_7 : decode cX4_acceptsDigit 7 = .ok (.bipush 57, 2) := by decide +kernel
theorem dX4_acceptsDigit_9 : decode cX4_acceptsDigit 9 = .ok (.if_icmp .le 5, 3) := by decide +kernel
theorem dX4_acceptsDigit_12 : decode cX4_acceptsDigit 12 = .ok (.iconst 0, 1) := by decide +kernel
theorem dX4_acceptsDigit_13 : decode cX4_acceptsDigit 13 = .ok (.ireturn, 1) := by decide +kernel
theorem dX4_acceptsDigit_14 : decode cX4_acceptsDigit 14 = .ok (.aload_n 0, 1) := by decide +kernel
theorem dX4_acceptsDigit_15 : decode cX4_acceptsDigit 15 = .ok (.bipush 10, 2) := by decide +kernel
theorem dX4_acceptsDigit_17 : decode cX4_acceptsDigit 17 = .ok (.aload_n 0, 1) := by decide +kernel
theorem dX4_acceptsDigit_18 : decode cX4_acceptsDigit 18 = .ok (.getfield 25, 3) := by decide +kernel
theorem dX4_acceptsDigit_21 : decode cX4_acceptsDigit 21 = .ok (.imul, 1) := by decide +kernel
theorem dX4_acceptsDigit_22 : decode cX4_acceptsDigit 22 = .ok (.iload_n 1, 1) := by decide +kernel
theorem dX4_acceptsDigit_23 : decode cX4_acceptsDigit 23 = .ok (.bipush 48, 2) := by decide +kernel
theorem dX4_acceptsDigit_25 : decode cX4_acceptsDigit 25 = .ok (.isub, 1) := by decide +kernel
theorem dX4_acceptsDigit_26 : decode cX4_acceptsDigit 26 = .ok (.iadd, 1) := by decide +kernel
theorem dX4_acceptsDigit_27 : decode cX4_acceptsDigit 27 = .ok (.putfield 25, 3) := by decide +kernel
theorem dX4_acceptsDigit_30 : decode cX4_acceptsDigit 30 = .ok (.aload_n 0, 1) := by decide +kernel
theorem dX4_acceptsDigit_31 : decode cX4_acceptsDigit 31 = .ok (.dup, 1) := by decide +kernel
theorem dX4_acceptsDigit_32 : decode cX4_acceptsDigit 32 = .ok (.getfield 28, 3) := by decide +kernel
theorem dX4_acceptsDigit_35 : decode cX4_acceptsDigit 35 = .ok (.iconst 1, 1) := by decide +kernel
theorem dX4_acceptsDigit_36 : decode cX4_acceptsDigit 36 = .ok (.iadd, 1) := by decide +kernel
theorem dX4_acceptsDigit_37 : decode cX4_acceptsDigit 37 = .ok (.putfield 28, 3) := by decide +kernel
theorem dX4_acceptsDigit_40 : decode cX4_acceptsDigit 40 = .ok (.aload_n 0, 1) := by decide +kernel
theorem dX4_acceptsDigit_41 : decode cX4_acceptsDigit 41 = .ok (.aload_n 0, 1) := by decide +kernel
theorem dX4_acceptsDigit_42 : decode cX4_acceptsDigit 42 = .ok (.getfield 28, 3) := by decide +kernel
theorem dX4_acceptsDigit_45 : decode cX4_acceptsDigit 45 = .ok (.iconst 3, 1) := by decide +kernel
theorem dX4_acceptsDigit_46 : decode cX4_acceptsDigit 46 = .ok (.if_icmp .ge 7, 3) := by decide +kernel
theorem dX4_acceptsDigit_49 : decode cX4_acceptsDigit 49 = .ok (.iconst 4, 1) := by decide +kernel
theorem dX4_acceptsDigit_50 : decode cX4_acceptsDigit 50 = .ok (.goto 4, 3) := by decide +kernel
theorem dX4_acceptsDigit_53 : decode cX4_acceptsDigit 53 = .ok (.iconst 5, 1) := by decide +kernel
theorem dX4_acceptsDigit_54 : decode cX4_acceptsDigit 54 = .ok (.putfield 18, 3) := by decide +kernel
theorem dX4_acceptsDigit_57 : decode cX4_acceptsDigit 57 = .ok (.iconst 1, 1) := by decide +kernel
theorem dX4_acceptsDigit_58 : decode cX4_acceptsDigit 58 = .ok (.ireturn, 1) := by decide +kernel
theorem dX4_acceptsEnd_0 : decode cX4_acceptsEnd 0 = .ok (.iload_n 1, 1) := by decide +kernel
theorem dX4_acceptsEnd_1 : decode cX4_acceptsEnd 1 = .ok (.bipush 59, 2) := by decide +kernel
theorem dX4_acceptsEnd_3 : decode cX4_acceptsEnd 3 = .ok (.if_icmp .eq 5, 3) := by decide +kernel
theorem dX4_acceptsEnd_6 : decode cX4_acceptsEnd 6 = .ok (.iconst 0, 1) := by decide +kernel
theorem dX4_acceptsEnd_7 : decode cX4_acceptsEnd 7 = .ok (.ireturn, 1) := by decide +kernel
theorem dX4_acceptsEnd_8 : decode cX4_acceptsEnd 8 = .ok (.aload_n 0, 1) := by decide +kernel
theorem dX4_acceptsEnd_9 : decode cX4_acceptsEnd 9 = .ok (.getfield 12, 3) := by decide +kernel
theorem dX4_acceptsEnd_12 : decode cX4_acceptsEnd 12 = .ok (.aload_n 0, 1) := by decide +kernel
theorem dX4_acceptsEnd_13 : decode cX4_acceptsEnd 13 = .ok (.getfield 22, 3) := by decide +kernel
theorem dX4_acceptsEnd_16 : decode cX4_acceptsEnd 16 = .ok (.aload_n 0, 1) := by decide +kernel
theorem dX4_acceptsEnd_17 : decode cX4_acceptsEnd 17 = .ok (.getfield 31, 3) := by decide +kernel
theorem dX4_acceptsEnd_20 : decode cX4_acceptsEnd 20 = .ok (.ifCond .eq 11, 3) := by decide +kernel
theorem dX4_acceptsEnd_23 : decode cX4_acceptsEnd 23 = .ok (.aload_n 0, 1) := by decide +kernel
theorem dX4_acceptsEnd_24 : decode cX4_acceptsEnd 24 = .ok (.getfield 25, 3) := by decide +kernel
theorem dX4_acceptsEnd_27 : decode cX4_acceptsEnd 27 = .ok (.ineg, 1) := by decide +kernel
theorem dX4_acceptsEnd_28 : decode cX4_acceptsEnd 28 = .ok (.goto 7, 3) := by decide +kernel
theorem dX4_acceptsEnd_31 : decode cX4_acceptsEnd 31 = .ok (.aload_n 0, 1) := by decide +kernel
theorem dX4_acceptsEnd_32 : decode cX4_acceptsEnd 32 = .ok (.getfield 25, 3) := by decide +kernel
theorem dX4_acceptsEnd_35 : decode cX4_acceptsEnd 35 = .ok (.invokevirtual 68, 3) := by decide +kernel
theorem dX4_acceptsEnd_38 : decode cX4_acceptsEnd 38 = .ok (.aload_n 0, 1) := by decide +kernel
theorem dX4_acceptsEnd_39 : decode cX4_acceptsEnd 39 = .ok (.iconst 0, 1) := by decide +kernel
theorem dX4_acceptsEnd_40 : decode cX4_acceptsEnd 40 = .ok (.putfield 18, 3) := by decide +kernel
theorem dX4_acceptsEnd_43 : decode cX4_acceptsEnd 43 = .ok (.iconst 1, 1) := by decide +kernel
theorem dX4_acceptsEnd_44 : decode cX4_acceptsEnd 44 = .ok (.ireturn, 1) := by decide +kernel
theorem dX5_init_0 : decode cX5_init 0 = .ok (.aload_n 0, 1) := by decide +kernel
theorem dX5_init_1 : decode cX5_init 1 = .ok (.invokespecial 1, 3) := by decide +kernel
theorem dX5_init_4 : decode cX5_init 4 = .ok (.aload_n 0, 1) := by decide +kernel
theorem dX5_init_5 : decode cX5_init 5 = .ok (.bipush 120, 2) := by decide +kernel
theorem dX5_init_7 : decode cX5_init 7 = .ok (.newarray .int, 2) := by decide +kernel
theorem dX5_init_9 : decode cX5_init 9 = .ok (.putfield 9, 3) := by decide +kernel
theorem dX5_init_12 : decode cX5_init 12 = .ok (.aload_n 0, 1) := by decide +kernel
theorem dX5_init_13 : decode cX5_init 13 = .ok (.iconst 0, 1) := by decide +kernel
theorem dX5_init_14 : decode cX5_init 14 = .ok (.putfield 13, 3) := by decide +kernel
theorem dX5_init_17 : decode cX5_init 17 = .ok (.aload_n 0, 1) := by decide +kernel
theorem dX5_init_18 : decode cX5_init 18 = .ok (.new 17, 3) := by decide +kernel
theorem dX5_init_21 : decode cX5_init 21 = .ok (.dup, 1) := by decide +kernel
theorem dX5_init_22 : decode cX5_init 22 = .ok (.invokespecial 19, 3) := by decide +kernel
theorem dX5_init_25 : decode cX5_init 25 = .ok (.putfield 20, 3) := by decide +kernel
theorem dX5_init_28 : decode cX5_init 28 = .ok (.aload_n 0, 1) := by decide +kernel
theorem dX5_init_29 : decode cX5_init 29 = .ok (.new 24, 3) := by decide +kernel
theorem dX5_init_32 : decode cX5_init 32 = .ok (.dup, 1) := by decide +kernel
theorem dX5_init_33 : decode cX5_init 33 = .ok (.sipush 400, 3) := by decide +kernel
theorem dX5_init_36 : decode cX5_init 36 = .ok (.invokespecial 26, 3) := by decide +kernel
theorem dX5_init_39 : decode cX5_init 39 = .ok (.putfield 29, 3) := by decide +kernel
theorem dX5_init_42 : decode cX5_init 42 = .ok (.aload_n 0, 1) := by decide +kernel
theorem dX5_init_43 : decode cX5_init 43 = .ok (.new 24, 3) := by decide +kernel
theorem dX5_init_46 : decode cX5_init 46 = .ok (.dup, 1) := by decide +kernel
theorem dX5_init_47 : decode cX5_init 47 = .ok (.iconst 0, 1) := by decide +kernel
theorem dX5_init_48 : decode cX5_init 48 = .ok (.invokespecial 26, 3) := by decide +kernel
theorem dX5_init_51 : decode cX5_init 51 = .ok (.putfield 33, 3) := by decide +kernel
theorem dX5_init_54 : decode cX5_init 54 = .ok (.aload_n 0, 1) := by decide +kernel
theorem dX5_init_55 : decode cX5_init 55 = .ok (.iconst 4, 1) := by decide +kernel
theorem dX5_init_56 : decode cX5_init 56 = .ok (.anewarray 24, 3) := by decide +kernel
theorem dX5_init_59 : decode cX5_init 59 = .ok (.putfield 36, 3) := by decide +kernel
theorem dX5_init_62 : decode cX5_init 62 = .ok (.iconst 0, 1) := by decide +kernel
theorem dX5_init_63 : decode cX5_init 63 = .ok (.istore_n 1, 1) := by decide +kernel
theorem dX5_init_64 : decode cX5_init 64 = .ok (.iload_n 1, 1) := by decide +kernel
theorem dX5_init_65 : decode cX5_init 65 = .ok (.iconst 4, 1) := by decide +kernel
theorem dX5_init_66 : decode cX5_init 66 = .ok (.if_icmp .ge 25, 3) := by decide +kernel
theorem dX5_init_69 : decode cX5_init 69 = .ok (.aload_n 0, 1) := by decide +kernel
theorem dX5_init_70 : decode cX5_init 70 = .ok (.getfield 36, 3) := by decide +kernel
theorem dX5_init_73 : decode cX5_init 73 = .ok (.iload_n 1, 1) := by decide +kernel
theorem dX5_init_74 : decode cX5_init 74 = .ok (.new 24, 3) := by decide +kernel
theorem dX5_init_77 : decode cX5_init 77 = .ok (.dup, 1) := by decide +kernel
theorem dX5_init_78 : decode cX5_init 78 = .ok (.sipush 400, 3) := by decide +kernel
theorem dX5_init_81 : decode cX5_init 81 = .ok (.invokespecial 26, 3) := by decide +kernel
theorem dX5_init_84 : decode cX5_init 84 = .ok (.aastore, 1) := by decide +kernel
theorem dX5_init_85 : decode cX5_init 85 = .ok (.iinc 1 1, 3) := by decide +kernel
theorem dX5_init_88 : decode cX5_init 88 = .ok (.goto (-24), 3) := by decide +kernel
theorem dX5_init_91 : decode cX5_init 91 = .ok (.aload_n 0, 1) := by decide +kernel
theorem dX5_init_92 : decode cX5_init 92 = .ok (.iconst 0, 1) := by decide +kernel
theorem dX5_init_93 : decode cX5_init 93 = .ok (.putfield 40, 3) := by decide +kernel
theorem dX5_init_96 : decode cX5_init 96 = .ok (.aload_n 0, 1) := by decide +kernel
theorem dX5_init_97 : decode cX5_init 97 = .ok (.iconst 0, 1) := by decide +kernel
theorem dX5_init_98 : decode cX5_init 98 = .ok (.putfield 43, 3) := by decide +kernel
theorem dX5_init_101 : decode cX5_init 101 = .ok (.aload_n 0, 1) := by decide +kernel
theorem dX5_init_102 : decode cX5_init 102 = .ok (.bipush 8, 2) := by decide +kernel
theorem dX5_init_104 : decode cX5_init 104 = .ok (.newarray .int, 2) := by decide +kernel
theorem dX5_init_106 : decode cX5_init 106 = .ok (.putfield 46, 3) := by decide +kernel
theorem dX5_init_109 : decode cX5_init 109 = .ok (.return_, 1) := by decide +kernel
theorem dX5_begin_0 : decode cX5_begin 0 = .ok (.iload_n 1, 1) := by decide +kernel
theorem dX5_begin_1 : decode cX5_begin 1 = .ok (.iconst 2, 1) := by decide +kernel
theorem dX5_begin_2 : decode cX5_begin 2 = .ok (.if_icmp .lt 26, 3) := by decide +kernel
theorem dX5_begin_5 : decode cX5_begin 5 = .ok (.iload_n 1, 1) := by decide +kernel
theorem dX5_begin_6 : decode cX5_begin 6 = .ok (.iconst 4, 1) := by decide +kernel
theorem dX5_begin_7 : decode cX5_begin 7 = .ok (.if_icmp .gt 21, 3) := by decide +kernel
theorem dX5_begin_10 : decode cX5_begin 10 = .ok (.iload_n 2, 1) := by decide +kernel
theorem dX5_begin_11 : decode cX5_begin 11 = .ok (.invokestatic 49, 3) := by decide +kernel
theorem dX5_begin_14 : decode cX5_begin 14 = .ok (.ifCond .eq 14, 3) := by decide +kernel
theorem dX5_begin_17 : decode cX5_begin 17 = .ok (.iload_n 3, 1) := by decide +kernel
theorem dX5_begin_18 : decode cX5_begin 18 = .ok (.iconst 1, 1) := by decide +kernel
theorem dX5_begin_19 : decode cX5_begin 19 = .ok (.if_icmp .lt 9, 3) := by decide +kernel
theorem dX5_begin_22 : decode cX5_begin 22 = .ok (.iload_n 3, 1) := by decide +kernel
theorem dX5_begin_23 : decode cX5_begin 23 = .ok (.bipush 8, 2) := by decide +kernel
theorem dX5_begin_25 : decode cX5_begin 25 = .ok (.if_icmp .le 13, 3) := by decide +kernel
theorem dX5_begin_28 : decode cX5_begin 28 = .ok (.new 53, 3) := by decide +kernel
theorem dX5_begin_31 : decode cX5_begin 31 = .ok (.dup, 1) := by decide +kernel
theorem dX5_begin_32 : decode cX5_begin 32 = .ok (.ldc 55, 2) := by decide +kernel
theorem dX5_begin_34 : decode cX5_begin 34 = .ok (.invokespecial 57, 3) := by decide +kernel
theorem dX5_begin_37 : decode cX5_begin 37 = .ok (.athrow, 1) := by decide +kernel
theorem dX5_begin_38 : decode cX5_begin 38 = .ok (.aload_n 0, 1) := by decide +kernel
theorem dX5_begin_39 : decode cX5_begin 39 = .ok (.invokevirtual 60, 3) := by decide +kernel
theorem dX5_begin_42 : decode cX5_begin 42 = .ok (.aload_n 0, 1) := by decide +kernel
theorem dX5_begin_43 : decode cX5_begin 43 = .ok (.getfield 29, 3) := by decide +kernel
theorem dX5_begin_46 : decode cX5_begin 46 = .ok (.getfield 63, 3) := by decide +kernel
theorem dX5_begin_49 : decode cX5_begin 49 = .ok (.getfield 67, 3) := by decide +kernel
theorem dX5_begin_52 : decode cX5_begin 52 = .ok (.istore 4, 2) := by decide +kernel
theorem dX5_begin_54 : decode cX5_begin 54 = .ok (.aload_n 0, 1) := by decide +kernel
theorem dX5_begin_55 : decode cX5_begin 55 = .ok (.getfield 29, 3) := by decide +kernel
theorem dX5_begin_58 : decode cX5_begin 58 = .ok (.iload_n 1, 1) := by decide +kernel
theorem dX5_begin_59 : decode cX5_begin 59 = .ok (.iload_n 2, 1) := by decide +kernel
theorem dX5_begin_60 : decode cX5_begin 60 = .ok (.iload_n 3, 1) := by decide +kernel
theorem dX5_begin_61 : decode cX5_begin 61 = .ok (.invokevirtual 72, 3) := by decide +kernel
theorem dX5_begin_64 : decode cX5_begin 64 = .ok (.iload 4, 2) := by decide +kernel
theorem dX5_begin_66 : decode cX5_begin 66 = .ok (.ireturn, 1) := by decide +kernel
theorem dX5_setPolicy_0 : decode cX5_setPolicy 0 = .ok (.iload_n 1, 1) := by decide +kernel
theorem dX5_setPolicy_1 : decode cX5_setPolicy 1 = .ok (.invokestatic 49, 3) := by decide +kernel
theorem dX5_setPolicy_4 : decode cX5_setPolicy 4 = .ok (.ifCond .ne 13, 3) := by decide +kernel
theorem dX5_setPolicy_7 : decode cX5_setPolicy 7 = .ok (.new 53, 3) := by decide +kernel
theorem dX5_setPolicy_10 : decode cX5_setPolicy 10 = .ok (.dup, 1) := by decide +kernel
theorem dX5_setPolicy_11 : decode cX5_setPolicy 11 = .ok (.ldc 76, 2) := by decide +kernel
theorem dX5_setPolicy_13 : decode cX5_setPolicy 13 = .ok (.invokespecial 57, 3) := by decide +kernel
theorem dX5_setPolicy_16 : decode cX5_setPolicy 16 = .ok (.athrow, 1) := by decide +kernel
theorem dX5_setPolicy_17 : decode cX5_setPolicy 17 = .ok (.aload_n 0, 1) := by decide +kernel
theorem dX5_setPolicy_18 : decode cX5_setPolicy 18 = .ok (.invokevirtual 60, 3) := by decide +kernel
theorem dX5_setPolicy_21 : decode cX5_setPolicy 21 = .ok (.aload_n 0, 1) := by decide +kernel
theorem dX5_setPolicy_22 : decode cX5_setPolicy 22 = .ok (.getfield 29, 3) := by decide +kernel
theorem dX5_setPolicy_25 : decode cX5_setPolicy 25 = .ok (.getfield 78, 3) := by decide +kernel
theorem dX5_setPolicy_28 : decode cX5_setPolicy 28 = .ok (.istore_n 2, 1) := by decide +kernel
theorem dX5_setPolicy_29 : decode cX5_setPolicy 29 = .ok (.aload_n 0, 1) := by decide +kernel
theorem dX5_setPolicy_30 : decode cX5_setPolicy 30 = .ok (.getfield 29, 3) := by decide +kernel
theorem dX5_setPolicy_33 : decode cX5_setPolicy 33 = .ok (.iload_n 1, 1) := by decide +kernel
theorem dX5_setPolicy_34 : decode cX5_setPolicy 34 = .ok (.putfield 78, 3) := by decide +kernel
theorem dX5_setPolicy_37 : decode cX5_setPolicy 37 = .ok (.iload_n 2, 1) := by decide +kernel
theorem dX5_setPolicy_38 : decode cX5_setPolicy 38 = .ok (.ireturn, 1) := by decide +kernel
theorem dX5_seed_0 : decode cX5_seed 0 = .ok (.iload_n 1, 1) := by decide +kernel
theorem dX5_seed_1 : decode cX5_seed 1 = .ok (.ifCond .lt 9, 3) := by decide +kernel
theorem dX5_seed_4 : decode cX5_seed 4 = .ok (.iload_n 1, 1) := by decide +kernel
theorem dX5_seed_5 : decode cX5_seed 5 = .ok (.ldc 81, 2) := by decide +kernel
theorem dX5_seed_7 : decode cX5_seed 7 = .ok (.if_icmp .le 13, 3) := by decide +kernel
theorem dX5_seed_10 : decode cX5_seed 10 = .ok (.new 53, 3) := by decide +kernel
theorem dX5_seed_13 : decode cX5_seed 13 = .ok (.dup, 1) := by decide +kernel
theorem dX5_seed_14 : decode cX5_seed 14 = .ok (.ldc 82, 2) := by decide +kernel
theorem dX5_seed_16 : decode cX5_seed 16 = .ok (.invokespecial 57, 3) := by decide +kernel
theorem dX5_seed_19 : decode cX5_seed 19 = .ok (.athrow, 1) := by decide +kernel
theorem dX5_seed_20 : decode cX5_seed 20 = .ok (.aload_n 0, 1) := by decide +kernel
theorem dX5_seed_21 : decode cX5_seed 21 = .ok (.invokevirtual 60, 3) := by decide +kernel
theorem dX5_seed_24 : decode cX5_seed 24 = .ok (.aload_n 0, 1) := by decide +kernel
theorem dX5_seed_25 : decode cX5_seed 25 = .ok (.getfield 29, 3) := by decide +kernel
theorem dX5_seed_28 : decode cX5_seed 28 = .ok (.getfield 84, 3) := by decide +kernel
theorem dX5_seed_31 : decode cX5_seed 31 = .ok (.istore_n 2, 1) := by decide +kernel
theorem dX5_seed_32 : decode cX5_seed 32 = .ok (.aload_n 0, 1) := by decide +kernel
theorem dX5_seed_33 : decode cX5_seed 33 = .ok (.getfield 29, 3) := by decide +kernel
theorem dX5_seed_36 : decode cX5_seed 36 = .ok (.iload_n 1, 1) := by decide +kernel
theorem dX5_seed_37 : decode cX5_seed 37 = .ok (.putfield 84, 3) := by decide +kernel
theorem dX5_seed_40 : decode cX5_seed 40 = .ok (.iload_n 2, 1) := by decide +kernel
theorem dX5_seed_41 : decode cX5_seed 41 = .ok (.ireturn, 1) := by decide +kernel
theorem dX5_append_0 : decode cX5_append 0 = .ok (.iload_n 1, 1) := by decide +kernel
theorem dX5_append_1 : decode cX5_append 1 = .ok (.ifCond .lt 9, 3) := by decide +kernel
theorem dX5_append_4 : decode cX5_append 4 = .ok (.iload_n 1, 1) := by decide +kernel
theorem dX5_append_5 : decode cX5_append 5 = .ok (.bipush 127, 2) := by decide +kernel
theorem dX5_append_7 : decode cX5_append 7 = .ok (.if_icmp .le 13, 3) := by decide +kernel
theorem dX5_append_10 : decode cX5_append 10 = .ok (.new 53, 3) := by decide +kernel
theorem dX5_append_13 : decode cX5_append 13 = .ok (.dup, 1) := by decide +kernel
theorem dX5_append_14 : decode cX5_append 14 = .ok (.ldc 87, 2) := by decide +kernel
theorem dX5_append_16 : decode cX5_append 16 = .ok (.invokespecial 57, 3) := by decide +kernel
theorem dX5_append_19 : decode cX5_append 19 = .ok (.athrow, 1) := by decide +kernel
theorem dX5_append_20 : decode cX5_append 20 = .ok (.aload_n 0, 1) := by decide +kernel
theorem dX5_append_21 : decode cX5_append 21 = .ok (.getfield 13, 3) := by decide +kernel
theorem dX5_append_24 : decode cX5_append 24 = .ok (.ifCond .lt 12, 3) := by decide +kernel
theorem dX5_append_27 : decode cX5_append 27 = .ok (.aload_n 0, 1) := by decide +kernel
theorem dX5_append_28 : decode cX5_append 28 = .ok (.getfield 13, 3) := by decide +kernel
theorem dX5_append_31 : decode cX5_append 31 = .ok (.bipush 120, 2) := by decide +kernel
theorem dX5_append_33 : decode cX5_append 33 = .ok (.if_icmp .lt 13, 3) := by decide +kernel
theorem dX5_append_36 : decode cX5_append 36 = .ok (.new 89, 3) := by decide +kernel
theorem dX5_append_39 : decode cX5_append 39 = .ok (.dup, 1) := by decide +kernel
theorem dX5_append_40 : decode cX5_append 40 = .ok (.ldc 91, 2) := by decide +kernel
theorem dX5_append_42 : decode cX5_append 42 = .ok (.invokespecial 93, 3) := by decide +kernel
theorem dX5_append_45 : decode cX5_append 45 = .ok (.athrow, 1) := by decide +kernel
theorem dX5_append_46 : decode cX5_append 46 = .ok (.aload_n 0, 1) := by decide +kernel
theorem dX5_append_47 : decode cX5_append 47 = .ok (.getfield 9, 3) := by decide +kernel
theorem dX5_append_50 : decode cX5_append 50 = .ok (.aload_n 0, 1) := by decide +kernel
theorem dX5_append_51 : decode cX5_append 51 = .ok (.getfield 13, 3) := by decide +kernel
theorem dX5_append_54 : decode cX5_append 54 = .ok (.iload_n 1, 1) := by decide +kernel
theorem dX5_append_55 : decode cX5_append 55 = .ok (.iastore, 1) := by decide +kernel
theorem dX5_append_56 : decode cX5_append 56 = .ok (.aload_n 0, 1) := by decide +kernel
theorem dX5_append_57 : decode cX5_append 57 = .ok (.dup, 1) := by decide +kernel
theorem dX5_append_58 : decode cX5_append 58 = .ok (.getfield 13, 3) := by decide +kernel
theorem dX5_append_61 : decode cX5_append 61 = .ok (.iconst 1, 1) := by decide +kernel
theorem dX5_append_62 : decode cX5_append 62 = .ok (.iadd, 1) := by decide +kernel
theorem dX5_append_63 : decode cX5_append 63 = .ok (.putfield 13, 3) := by decide +kernel
theorem dX5_append_66 : decode cX5_append 66 = .ok (.aload_n 0, 1) := by decide +kernel
theorem dX5_append_67 : decode cX5_append 67 = .ok (.getfield 13, 3) := by decide +kernel
theorem dX5_append_70 : decode cX5_append 70 = .ok (.ireturn, 1) := by decide +kernel
theorem dX5_clearText_0 : decode cX5_clearText 0 = .ok (.aload_n 0, 1) := by decide +kernel
theorem dX5_clearText_1 : decode cX5_clearText 1 = .ok (.getfield 13, 3) := by decide +kernel
theorem dX5_clearText_4 : decode cX5_clearText 4 = .ok (.istore_n 1, 1) := by decide +kernel
theorem dX5_clearText_5 : decode cX5_clearText 5 = .ok (.aload_n 0, 1) := by decide +kernel
theorem dX5_clearText_6 : decode cX5_clearText 6 = .ok (.iconst 0, 1) := by decide +kernel
theorem dX5_clearText_7 : decode cX5_clearText 7 = .ok (.putfield 13, 3) := by decide +kernel
theorem dX5_clearText_10 : decode cX5_clearText 10 = .ok (.iload_n 1, 1) := by decide +kernel
theorem dX5_clearText_11 : decode cX5_clearText 11 = .ok (.ireturn, 1) := by decide +kernel
theorem dX5_load_0 : decode cX5_load 0 = .ok (.aload_n 0, 1) := by decide +kernel
theorem dX5_load_1 : decode cX5_load 1 = .ok (.getfield 29, 3) := by decide +kernel
theorem dX5_load_4 : decode cX5_load 4 = .ok (.iload_n 1, 1) := by decide +kernel
theorem dX5_load_5 : decode cX5_load 5 = .ok (.invokevirtual 94, 3) := by decide +kernel
theorem dX5_load_8 : decode cX5_load 8 = .ok (.ifCond .ne 13, 3) := by decide +kernel
theorem dX5_load_11 : decode cX5_load 11 = .ok (.new 97, 3) := by decide +kernel
theorem dX5_load_14 : decode cX5_load 14 = .ok (.dup, 1) := by decide +kernel
theorem dX5_load_15 : decode cX5_load 15 = .ok (.ldc 99, 2) := by decide +kernel
theorem dX5_load_17 : decode cX5_load 17 = .ok (.invokespecial 101, 3) := by decide +kernel
theorem dX5_load_20 : decode cX5_load 20 = .ok (.athrow, 1) := by decide +kernel
theorem dX5_load_21 : decode cX5_load 21 = .ok (.aload_n 0, 1) := by decide +kernel
theorem dX5_load_22 : decode cX5_load 22 = .ok (.getfield 29, 3) := by decide +kernel
theorem dX5_load_25 : decode cX5_load 25 = .ok (.getfield 102, 3) := by decide +kernel
theorem dX5_load_28 : decode cX5_load 28 = .ok (.iload_n 1, 1) := by decide +kernel
theorem dX5_load_29 : decode cX5_load 29 = .ok (.aaload, 1) := by decide +kernel
theorem dX5_load_30 : decode cX5_load 30 = .ok (.invokevirtual 106, 3) := by decide +kernel
theorem dX5_load_33 : decode cX5_load 33 = .ok (.ifCond .eq 13, 3) := by decide +kernel
theorem dX5_load_36 : decode cX5_load 36 = .ok (.new 89, 3) := by decide +kernel
theorem dX5_load_39 : decode cX5_load 39 = .ok (.dup, 1) := by decide +kernel
theorem dX5_load_40 : decode cX5_load 40 = .ok (.ldc 112, 2) := by decide +kernel
theorem dX5_load_42 : decode cX5_load 42 = .ok (.invokespecial 93, 3) := by decide +kernel
theorem dX5_load_45 : decode cX5_load 45 = .ok (.athrow, 1) := by decide +kernel
theorem dX5_load_46 : decode cX5_load 46 = .ok (.aload_n 0, 1) := by decide +kernel
theorem dX5_load_47 : decode cX5_load 47 = .ok (.getfield 20, 3) := by decide +kernel
theorem dX5_load_50 : decode cX5_load 50 = .ok (.aload_n 0, 1) := by decide +kernel
theorem dX5_load_51 : decode cX5_load 51 = .ok (.getfield 9, 3) := by decide +kernel
theorem dX5_load_54 : decode cX5_load 54 = .ok (.aload_n 0, 1) := by decide +kernel
theorem dX5_load_55 : decode cX5_load 55 = .ok (.getfield 13, 3) := by decide +kernel
theorem dX5_load_58 : decode cX5_load 58 = .ok (.invokevirtual 114, 3) := by decide +kernel
theorem dX5_load_61 : decode cX5_load 61 = .ok (.istore_n 2, 1) := by decide +kernel
theorem dX5_load_62 : decode cX5_load 62 = .ok (.iload_n 2, 1) := by decide +kernel
theorem dX5_load_63 : decode cX5_load 63 = .ok (.iconst (-1), 1) := by decide +kernel
theorem dX5_load_64 : decode cX5_load 64 = .ok (.if_icmp .eq 8, 3) := by decide +kernel
theorem dX5_load_67 : decode cX5_load 67 = .ok (.bipush (-10), 2) := by decide +kernel
theorem dX5_load_69 : decode cX5_load 69 = .ok (.iload_n 2, 1) := by decide +kernel
theorem dX5_load_70 : decode cX5_load 70 = .ok (.isub, 1) := by decide +kernel
theorem dX5_load_71 : decode cX5_load 71 = .ok (.ireturn, 1) := by decide +kernel
theorem dX5_load_72 : decode cX5_load 72 = .ok (.aload_n 0, 1) := by decide +kernel
theorem dX5_load_73 : decode cX5_load 73 = .ok (.invokevirtual 60, 3) := by decide +kernel
theorem dX5_load_76 : decode cX5_load 76 = .ok (.aload_n 0, 1) := by decide +kernel
theorem dX5_load_77 : decode cX5_load 77 = .ok (.getfield 29, 3) := by decide +kernel
theorem dX5_load_80 : decode cX5_load 80 = .ok (.getfield 102, 3) := by decide +kernel
theorem dX5_load_83 : decode cX5_load 83 = .ok (.iload_n 1, 1) := by decide +kernel
theorem dX5_load_84 : decode cX5_load 84 = .ok (.aaload, 1) := by decide +kernel
theorem dX5_load_85 : decode cX5_load 85 = .ok (.aload_n 0, 1) := by decide +kernel
theorem dX5_load_86 : decode cX5_load 86 = .ok (.getfield 20, 3) := by decide +kernel
theorem dX5_load_89 : decode cX5_load 89 = .ok (.getfield 118, 3) := by decide +kernel
theorem dX5_load_92 : decode cX5_load 92 = .ok (.invokevirtual 122, 3) := by decide +kernel
theorem dX5_load_95 : decode cX5_load 95 = .ok (.aload_n 0, 1) := by decide +kernel
theorem dX5_load_96 : decode cX5_load 96 = .ok (.getfield 29, 3) := by decide +kernel
theorem dX5_load_99 : decode cX5_load 99 = .ok (.getfield 102, 3) := by decide +kernel
theorem dX5_load_102 : decode cX5_load 102 = .ok (.iload_n 1, 1) := by decide +kernel
theorem dX5_load_103 : decode cX5_load 103 = .ok (.aaload, 1) := by decide +kernel
theorem dX5_load_104 : decode cX5_load 104 = .ok (.getfield 126, 3) := by decide +kernel
theorem dX5_load_107 : decode cX5_load 107 = .ok (.getfield 127, 3) := by decide +kernel
theorem dX5_load_110 : decode cX5_load 110 = .ok (.ireturn, 1) := by decide +kernel
theorem dX5_again_0 : decode cX5_again 0 = .ok (.aload_n 0, 1) := by decide +kernel
theorem dX5_again_1 : decode cX5_again 1 = .ok (.getfield 29, 3) := by decide +kernel
theorem dX5_again_4 : decode cX5_again 4 = .ok (.iload_n 1, 1) := by decide +kernel
theorem dX5_again_5 : decode cX5_again 5 = .ok (.invokevirtual 94, 3) := by decide +kernel
theorem dX5_again_8 : decode cX5_again 8 = .ok (.ifCond .ne 13, 3) := by decide +kernel
theorem dX5_again_11 : decode cX5_again 11 = .ok (.new 97, 3) := by decide +kernel
theorem dX5_again_14 : decode cX5_again 14 = .ok (.dup, 1) := by decide +kernel
theorem dX5_again_15 : decode cX5_again 15 = .ok (.ldc 99, 2) := by decide +kernel
theorem dX5_again_17 : decode cX5_again 17 = .ok (.invokespecial 101, 3) := by decide +kernel
theorem dX5_again_20 : decode cX5_again 20 = .ok (.athrow, 1) := by decide +kernel
theorem dX5_again_21 : decode cX5_again 21 = .ok (.aload_n 0, 1) := by decide +kernel
theorem dX5_again_22 : decode cX5_again 22 = .ok (.getfield 29, 3) := by decide +kernel
theorem dX5_again_25 : decode cX5_again 25 = .ok (.getfield 102, 3) := by decide +kernel
theorem dX5_again_28 : decode cX5_again 28 = .ok (.iload_n 1, 1) := by decide +kernel
theorem dX5_again_29 : decode cX5_again 29 = .ok (.aaload, 1) := by decide +kernel
theorem dX5_again_30 : decode cX5_again 30 = .ok (.invokevirtual 132, 3) := by decide +kernel
theorem dX5_again_33 : decode cX5_again 33 = .ok (.ifCond .eq 18, 3) := by decide +kernel
theorem dX5_again_36 : decode cX5_again 36 = .ok (.aload_n 0, 1) := by decide +kernel
theorem dX5_again_37 : decode cX5_again 37 = .ok (.getfield 29, 3) := by decide +kernel
theorem dX5_again_40 : decode cX5_again 40 = .ok (.getfield 102, 3) := by decide +kernel
theorem dX5_again_43 : decode cX5_again 43 = .ok (.iload_n 1, 1) := by decide +kernel
theorem dX5_again_44 : decode cX5_again 44 = .ok (.aaload, 1) := by decide +kernel
theorem dX5_again_45 : decode cX5_again 45 = .ok (.invokevirtual 106, 3) := by decide +kernel
theorem dX5_again_48 : decode cX5_again 48 = .ok (.ifCond .eq 13, 3) := by decide +kernel
theorem dX5_again_51 : decode cX5_again 51 = .ok (.new 89, 3) := by decide +kernel
theorem dX5_again_54 : decode cX5_again 54 = .ok (.dup, 1) := by decide +kernel
theorem dX5_again_55 : decode cX5_again 55 = .ok (.ldc 135, 2) := by decide +kernel
theorem dX5_again_57 : decode cX5_again 57 = .ok (.invokespecial 93, 3) := by decide +kernel
theorem dX5_again_60 : decode cX5_again 60 = .ok (.athrow, 1) := by decide +kernel
theorem dX5_again_61 : decode cX5_again 61 = .ok (.aload_n 0, 1) := by decide +kernel
theorem dX5_again_62 : decode cX5_again 62 = .ok (.invokevirtual 60, 3) := by decide +kernel
theorem dX5_again_65 : decode cX5_again 65 = .ok (.aload_n 0, 1) := by decide +kernel
theorem dX5_again_66 : decode cX5_again 66 = .ok (.getfield 29, 3) := by decide +kernel
theorem dX5_again_69 : decode cX5_again 69 = .ok (.getfield 102, 3) := by decide +kernel
theorem dX5_again_72 : decode cX5_again 72 = .ok (.iload_n 1, 1) := by decide +kernel
theorem dX5_again_73 : decode cX5_again 73 = .ok (.aaload, 1) := by decide +kernel
theorem dX5_again_74 : decode cX5_again 74 = .ok (.iconst 0, 1) := by decide +kernel
theorem dX5_again_75 : decode cX5_again 75 = .ok (.putfield 137, 3) := by decide +kernel
theorem dX5_again_78 : decode cX5_again 78 = .ok (.aload_n 0, 1) := by decide +kernel
theorem dX5_again_79 : decode cX5_again 79 = .ok (.getfield 29, 3) := by decide +kernel
theorem dX5_again_82 : decode cX5_again 82 = .ok (.getfield 102, 3) := by decide +kernel
theorem dX5_again_85 : decode cX5_again 85 = .ok (.iload_n 1, 1) := by decide +kernel
theorem dX5_again_86 : decode cX5_again 86 = .ok (.aaload, 1) := by decide +kernel
theorem dX5_again_87 : decode cX5_again 87 = .ok (.getfield 126, 3) := by decide +kernel
theorem dX5_again_90 : decode cX5_again 90 = .ok (.getfield 127, 3) := by decide +kernel
theorem dX5_again_93 : decode cX5_again 93 = .ok (.ireturn, 1) := by decide +kernel
theorem dX5_step_0 : decode cX5_step 0 = .ok (.aload_n 0, 1) := by decide +kernel
theorem dX5_step_1 : decode cX5_step 1 = .ok (.getfield 29, 3) := by decide +kernel
theorem dX5_step_4 : decode cX5_step 4 = .ok (.iload_n 1, 1) := by decide +kernel
theorem dX5_step_5 : decode cX5_step 5 = .ok (.invokevirtual 94, 3) := by decide +kernel
theorem dX5_step_8 : decode cX5_step 8 = .ok (.ifCond .ne 13, 3) := by decide +kernel
theorem dX5_step_11 : decode cX5_step 11 = .ok (.new 97, 3) := by decide +kernel
theorem dX5_step_14 : decode cX5_step 14 = .ok (.dup, 1) := by decide +kernel
theorem dX5_step_15 : decode cX5_step 15 = .ok (.ldc 99, 2) := by decide +kernel
theorem dX5_step_17 : decode cX5_step 17 = .ok (.invokespecial 101, 3) := by decide +kernel
theorem dX5_step_20 : decode cX5_step 20 = .ok (.athrow, 1) := by decide +kernel
theorem dX5_step_21 : decode cX5_step 21 = .ok (.aload_n 0, 1) := by decide +kernel
theorem dX5_step_22 : decode cX5_step 22 = .ok (.getfield 29, 3) := by decide +kernel
theorem dX5_step_25 : decode cX5_step 25 = .ok (.getfield 102, 3) := by decide +kernel
theorem dX5_step_28 : decode cX5_step 28 = .ok (.iload_n 1, 1) := by decide +kernel
theorem dX5_step_29 : decode cX5_step 29 = .ok (.aaload, 1) := by decide +kernel
theorem dX5_step_30 : decode cX5_step 30 = .ok (.invokevirtual 132, 3) := by decide +kernel
theorem dX5_step_33 : decode cX5_step 33 = .ok (.ifCond .eq 13, 3) := by decide +kernel
theorem dX5_step_36 : decode cX5_step 36 = .ok (.new 89, 3) := by decide +kernel
theorem dX5_step_39 : decode cX5_step 39 = .ok (.dup, 1) := by decide +kernel
theorem dX5_step_40 : decode cX5_step 40 = .ok (.ldc 140, 2) := by decide +kernel
theorem dX5_step_42 : decode cX5_step 42 = .ok (.invokespecial 93, 3) := by decide +kernel
theorem dX5_step_45 : decode cX5_step 45 = .ok (.athrow, 1) := by decide +kernel
theorem dX5_step_46 : decode cX5_step 46 = .ok (.aload_n 0, 1) := by decide +kernel
theorem dX5_step_47 : decode cX5_step 47 = .ok (.invokevirtual 60, 3) := by decide +kernel
theorem dX5_step_50 : decode cX5_step 50 = .ok (.aload_n 0, 1) := by decide +kernel
theorem dX5_step_51 : decode cX5_step 51 = .ok (.getfield 29, 3) := by decide +kernel
theorem dX5_step_54 : decode cX5_step 54 = .ok (.iload_n 1, 1) := by decide +kernel
theorem dX5_step_55 : decode cX5_step 55 = .ok (.invokevirtual 142, 3) := by decide +kernel
theorem dX5_step_58 : decode cX5_step 58 = .ok (.ireturn, 1) := by decide +kernel
theorem dX5_run_0 : decode cX5_run 0 = .ok (.iload_n 1, 1) := by decide +kernel
theorem dX5_run_1 : decode cX5_run 1 = .ok (.invokestatic 146, 3) := by decide +kernel
theorem dX5_run_4 : decode cX5_run 4 = .ok (.ifCond .ne 13, 3) := by decide +kernel
theorem dX5_run_7 : decode cX5_run 7 = .ok (.new 53, 3) := by decide +kernel
theorem dX5_run_10 : decode cX5_run 10 = .ok (.dup, 1) := by decide +kernel
theorem dX5_run_11 : decode cX5_run 11 = .ok (.ldc 149, 2) := by decide +kernel
theorem dX5_run_13 : decode cX5_run 13 = .ok (.invokespecial 57, 3) := by decide +kernel
theorem dX5_run_16 : decode cX5_run 16 = .ok (.athrow, 1) := by decide +kernel
theorem dX5_run_17 : decode cX5_run 17 = .ok (.aload_n 0, 1) := by decide +kernel
theorem dX5_run_18 : decode cX5_run 18 = .ok (.invokevirtual 60, 3) := by decide +kernel
theorem dX5_run_21 : decode cX5_run 21 = .ok (.aload_n 0, 1) := by decide +kernel
theorem dX5_run_22 : decode cX5_run 22 = .ok (.getfield 29, 3) := by decide +kernel
theorem dX5_run_25 : decode cX5_run 25 = .ok (.iload_n 1, 1) := by decide +kernel
theorem dX5_run_26 : decode cX5_run 26 = .ok (.invokevirtual 151, 3) := by decide +kernel
theorem dX5_run_29 : decode cX5_run 29 = .ok (.aload_n 0, 1) := by decide +kernel
theorem dX5_run_30 : decode cX5_run 30 = .ok (.getfield 29, 3) := by decide +kernel
theorem dX5_run_33 : decode cX5_run 33 = .ok (.invokevirtual 154, 3) := by decide +kernel
theorem dX5_run_36 : decode cX5_run 36 = .ok (.ireturn, 1) := by decide +kernel
theorem dX5_poke_0 : decode cX5_poke 0 = .ok (.iload_n 1, 1) := by decide +kernel
theorem dX5_poke_1 : decode cX5_poke 1 = .ok (.invokestatic 158, 3) := by decide +kernel
theorem dX5_poke_4 : decode cX5_poke 4 = .ok (.ifCond .ne 13, 3) := by decide +kernel
theorem dX5_poke_7 : decode cX5_poke 7 = .ok (.new 97, 3) := by decide +kernel
theorem dX5_poke_10 : decode cX5_poke 10 = .ok (.dup, 1) := by decide +kernel
theorem dX5_poke_11 : decode cX5_poke 11 = .ok (.ldc 161, 2) := by decide +kernel
theorem dX5_poke_13 : decode cX5_poke 13 = .ok (.invokespecial 101, 3) := by decide +kernel
theorem dX5_poke_16 : decode cX5_poke 16 = .ok (.athrow, 1) := by decide +kernel
theorem dX5_poke_17 : decode cX5_poke 17 = .ok (.aload_n 0, 1) := by decide +kernel
theorem dX5_poke_18 : decode cX5_poke 18 = .ok (.invokevirtual 60, 3) := by decide +kernel
theorem dX5_poke_21 : decode cX5_poke 21 = .ok (.aload_n 0, 1) := by decide +kernel
theorem dX5_poke_22 : decode cX5_poke 22 = .ok (.getfield 29, 3) := by decide +kernel
theorem dX5_poke_25 : decode cX5_poke 25 = .ok (.iload_n 1, 1) := by decide +kernel
theorem dX5_poke_26 : decode cX5_poke 26 = .ok (.iload_n 2, 1) := by decide +kernel
theorem dX5_poke_27 : decode cX5_poke 27 = .ok (.invokevirtual 163, 3) := by decide +kernel
theorem dX5_poke_30 : decode cX5_poke 30 = .ok (.ireturn, 1) := by decide +kernel
theorem dX5_state_0 : decode cX5_state 0 = .ok (.aload_n 0, 1) := by decide +kernel
theorem dX5_state_1 : decode cX5_state 1 = .ok (.getfield 29, 3) := by decide +kernel
theorem dX5_state_4 : decode cX5_state 4 = .ok (.iload_n 1, 1) := by decide +kernel
theorem dX5_state_5 : decode cX5_state 5 = .ok (.invokevirtual 94, 3) := by decide +kernel
theorem dX5_state_8 : decode cX5_state 8 = .ok (.ifCond .eq 10, 3) := by decide +kernel
theorem dX5_state_11 : decode cX5_state 11 = .ok (.iload_n 2, 1) := by decide +kernel
theorem dX5_state_12 : decode cX5_state 12 = .ok (.invokestatic 158, 3) := by decide +kernel
theorem dX5_state_15 : decode cX5_state 15 = .ok (.ifCond .ne 13, 3) := by decide +kernel
theorem dX5_state_18 : decode cX5_state 18 = .ok (.new 97, 3) := by decide +kernel
theorem dX5_state_21 : decode cX5_state 21 = .ok (.dup, 1) := by decide +kernel
theorem dX5_state_22 : decode cX5_state 22 = .ok (.ldc 167, 2) := by decide +kernel
theorem dX5_state_24 : decode cX5_state 24 = .ok (.invokespecial 101, 3) := by decide +kernel
theorem dX5_state_27 : decode cX5_state 27 = .ok (.athrow, 1) := by decide +kernel
theorem dX5_state_28 : decode cX5_state 28 = .ok (.aload_n 0, 1) := by decide +kernel
theorem dX5_state_29 : decode cX5_state 29 = .ok (.getfield 29, 3) := by decide +kernel
theorem dX5_state_32 : decode cX5_state 32 = .ok (.getfield 102, 3) := by decide +kernel
theorem dX5_state_35 : decode cX5_state 35 = .ok (.iload_n 1, 1) := by decide +kernel
theorem dX5_state_36 : decode cX5_state 36 = .ok (.aaload, 1) := by decide +kernel
theorem dX5_state_37 : decode cX5_state 37 = .ok (.getfield 169, 3) := by decide +kernel
theorem dX5_state_40 : decode cX5_state 40 = .ok (.iload_n 2, 1) := by decide +kernel
theorem dX5_state_41 : decode cX5_state 41 = .ok (.iaload, 1) := by decide +kernel
theorem dX5_state_42 : decode cX5_state 42 = .ok (.ireturn, 1) := by decide +kernel
theorem dX5_cached_0 : decode cX5_cached 0 = .ok (.aload_n 0, 1) := by decide +kernel
theorem dX5_cached_1 : decode cX5_cached 1 = .ok (.getfield 29, 3) := by decide +kernel
theorem dX5_cached_4 : decode cX5_cached 4 = .ok (.iload_n 1, 1) := by decide +kernel
theorem dX5_cached_5 : decode cX5_cached 5 = .ok (.invokevirtual 94, 3) := by decide +kernel
theorem dX5_cached_8 : decode cX5_cached 8 = .ok (.ifCond .eq 10, 3) := by decide +kernel
theorem dX5_cached_11 : decode cX5_cached 11 = .ok (.iload_n 2, 1) := by decide +kernel
theorem dX5_cached_12 : decode cX5_cached 12 = .ok (.invokestatic 158, 3) := by decide +kernel
theorem dX5_cached_15 : decode cX5_cached 15 = .ok (.ifCond .ne 13, 3) := by decide +kernel
theorem dX5_cached_18 : decode cX5_cached 18 = .ok (.new 97, 3) := by decide +kernel
theorem dX5_cached_21 : decode cX5_cached 21 = .ok (.dup, 1) := by decide +kernel
theorem dX5_cached_22 : decode cX5_cached 22 = .ok (.ldc 167, 2) := by decide +kernel
theorem dX5_cached_24 : decode cX5_cached 24 = .ok (.invokespecial 101, 3) := by decide +kernel
theorem dX5_cached_27 : decode cX5_cached 27 = .ok (.athrow, 1) := by decide +kernel
theorem dX5_cached_28 : decode cX5_cached 28 = .ok (.aload_n 0, 1) := by decide +kernel
theorem dX5_cached_29 : decode cX5_cached 29 = .ok (.getfield 29, 3) := by decide +kernel
theorem dX5_cached_32 : decode cX5_cached 32 = .ok (.getfield 102, 3) := by decide +kernel
theorem dX5_cached_35 : decode cX5_cached 35 = .ok (.iload_n 1, 1) := by decide +kernel
theorem dX5_cached_36 : decode cX5_cached 36 = .ok (.aaload, 1) := by decide +kernel
theorem dX5_cached_37 : decode cX5_cached 37 = .ok (.astore_n 3, 1) := by decide +kernel
theorem dX5_cached_38 : decode cX5_cached 38 = .ok (.aload_n 3, 1) := by decide +kernel
theorem dX5_cached_39 : decode cX5_cached 39 = .ok (.getfield 169, 3) := by decide +kernel
theorem dX5_cached_42 : decode cX5_cached 42 = .ok (.iload_n 2, 1) := by decide +kernel
theorem dX5_cached_43 : decode cX5_cached 43 = .ok (.iaload, 1) := by decide +kernel
theorem dX5_cached_44 : decode cX5_cached 44 = .ok (.ifCond .ne 7, 3) := by decide +kernel
theorem dX5_cached_47 : decode cX5_cached 47 = .ok (.iconst 0, 1) := by decide +kernel
theorem dX5_cached_48 : decode cX5_cached 48 = .ok (.goto 9, 3) := by decide +kernel
theorem dX5_cached_51 : decode cX5_cached 51 = .ok (.aload_n 3, 1) := by decide +kernel
theorem dX5_cached_52 : decode cX5_cached 52 = .ok (.getfield 172, 3) := by decide +kernel
theorem dX5_cached_55 : decode cX5_cached 55 = .ok (.iload_n 2, 1) := by decide +kernel
theorem dX5_cached_56 : decode cX5_cached 56 = .ok (.iaload, 1) := by decide +kernel
theorem dX5_cached_57 : decode cX5_cached 57 = .ok (.ireturn, 1) := by decide +kernel
theorem dX5_memory_0 : decode cX5_memory 0 = .ok (.iload_n 1, 1) := by decide +kernel
theorem dX5_memory_1 : decode cX5_memory 1 = .ok (.invokestatic 158, 3) := by decide +kernel
theorem dX5_memory_4 : decode cX5_memory 4 = .ok (.ifCond .ne 13, 3) := by decide +kernel
theorem dX5_memory_7 : decode cX5_memory 7 = .ok (.new 97, 3) := by decide +kernel
theorem dX5_memory_10 : decode cX5_memory 10 = .ok (.dup, 1) := by decide +kernel
theorem dX5_memory_11 : decode cX5_memory 11 = .ok (.ldc 161, 2) := by decide +kernel
theorem dX5_memory_13 : decode cX5_memory 13 = .ok (.invokespecial 101, 3) := by decide +kernel
theorem dX5_memory_16 : decode cX5_memory 16 = .ok (.athrow, 1) := by decide +kernel
theorem dX5_memory_17 : decode cX5_memory 17 = .ok (.iload_n 2, 1) := by decide +kernel
theorem dX5_memory_18 : decode cX5_memory 18 = .ok (.ifCond .eq 14, 3) := by decide +kernel
theorem dX5_memory_21 : decode cX5_memory 21 = .ok (.aload_n 0, 1) := by decide +kernel
theorem dX5_memory_22 : decode cX5_memory 22 = .ok (.getfield 29, 3) := by decide +kernel
theorem dX5_memory_25 : decode cX5_memory 25 = .ok (.iload_n 1, 1) := by decide +kernel
theorem dX5_memory_26 : decode cX5_memory 26 = .ok (.invokevirtual 175, 3) := by decide +kernel
theorem dX5_memory_29 : decode cX5_memory 29 = .ok (.goto 12, 3) := by decide +kernel
theorem dX5_memory_32 : decode cX5_memory 32 = .ok (.aload_n 0, 1) := by decide +kernel
theorem dX5_memory_33 : decode cX5_memory 33 = .ok (.getfield 29, 3) := by decide +kernel
theorem dX5_memory_36 : decode cX5_memory 36 = .ok (.getfield 178, 3) := by decide +kernel
theorem dX5_memory_39 : decode cX5_memory 39 = .ok (.iload_n 1, 1) := by decide +kernel
theorem dX5_memory_40 : decode cX5_memory 40 = .ok (.iaload, 1) := by decide +kernel
theorem dX5_memory_41 : decode cX5_memory 41 = .ok (.ireturn, 1) := by decide +kernel
theorem dX5_set_0 : decode cX5_set 0 = .ok (.aload_n 0, 1) := by decide +kernel
theorem dX5_set_1 : decode cX5_set 1 = .ok (.getfield 29, 3) := by decide +kernel
theorem dX5_set_4 : decode cX5_set 4 = .ok (.iload_n 1, 1) := by decide +kernel
theorem dX5_set_5 : decode cX5_set 5 = .ok (.invokevirtual 94, 3) := by decide +kernel
theorem dX5_set_8 : decode cX5_set 8 = .ok (.ifCond .ne 13, 3) := by decide +kernel
theorem dX5_set_11 : decode cX5_set 11 = .ok (.new 97, 3) := by decide +kernel
theorem dX5_set_14 : decode cX5_set 14 = .ok (.dup, 1) := by decide +kernel
theorem dX5_set_15 : decode cX5_set 15 = .ok (.ldc 99, 2) := by decide +kernel
theorem dX5_set_17 : decode cX5_set 17 = .ok (.invokespecial 101, 3) := by decide +kernel
theorem dX5_set_20 : decode cX5_set 20 = .ok (.athrow, 1) := by decide +kernel
theorem dX5_set_21 : decode cX5_set 21 = .ok (.iload_n 2, 1) := by decide +kernel
theorem dX5_set_22 : decode cX5_set 22 = .ok (.ifCond .eq 18, 3) := by decide +kernel
theorem dX5_set_25 : decode cX5_set 25 = .ok (.aload_n 0, 1) := by decide +kernel
theorem dX5_set_26 : decode cX5_set 26 = .ok (.getfield 29, 3) := by decide +kernel
theorem dX5_set_29 : decode cX5_set 29 = .ok (.getfield 102, 3) := by decide +kernel
theorem dX5_set_32 : decode cX5_set 32 = .ok (.iload_n 1, 1) := by decide +kernel
theorem dX5_set_33 : decode cX5_set 33 = .ok (.aaload, 1) := by decide +kernel
theorem dX5_set_34 : decode cX5_set 34 = .ok (.getfield 181, 3) := by decide +kernel
theorem dX5_set_37 : decode cX5_set 37 = .ok (.goto 15, 3) := by decide +kernel
theorem dX5_set_40 : decode cX5_set 40 = .ok (.aload_n 0, 1) := by decide +kernel
theorem dX5_set_41 : decode cX5_set 41 = .ok (.getfield 29, 3) := by decide +kernel
theorem dX5_set_44 : decode cX5_set 44 = .ok (.getfield 102, 3) := by decide +kernel
theorem dX5_set_47 : decode cX5_set 47 = .ok (.iload_n 1, 1) := by decide +kernel
theorem dX5_set_48 : decode cX5_set 48 = .ok (.aaload, 1) := by decide +kernel
theorem dX5_set_49 : decode cX5_set 49 = .ok (.getfield 184, 3) := by decide +kernel
theorem dX5_set_52 : decode cX5_set 52 = .ok (.ireturn, 1) := by decide +kernel
theorem dX5_core_0 : decode cX5_core 0 = .ok (.aload_n 0, 1) := by decide +kernel
theorem dX5_core_1 : decode cX5_core 1 = .ok (.getfield 29, 3) := by decide +kernel
theorem dX5_core_4 : decode cX5_core 4 = .ok (.iload_n 1, 1) := by decide +kernel
theorem dX5_core_5 : decode cX5_core 5 = .ok (.invokevirtual 94, 3) := by decide +kernel
theorem dX5_core_8 : decode cX5_core 8 = .ok (.ifCond .ne 13, 3) := by decide +kernel
theorem dX5_core_11 : decode cX5_core 11 = .ok (.new 97, 3) := by decide +kernel
theorem dX5_core_14 : decode cX5_core 14 = .ok (.dup, 1) := by decide +kernel
theorem dX5_core_15 : decode cX5_core 15 = .ok (.ldc 99, 2) := by decide +kernel
theorem dX5_core_17 : decode cX5_core 17 = .ok (.invokespecial 101, 3) := by decide +kernel
theorem dX5_core_20 : decode cX5_core 20 = .ok (.athrow, 1) := by decide +kernel
theorem dX5_core_21 : decode cX5_core 21 = .ok (.iload_n 2, 1) := by decide +kernel
theorem dX5_core_22 : decode cX5_core 22 = .ok (.ifCond .lt 9, 3) := by decide +kernel
theorem dX5_core_25 : decode cX5_core 25 = .ok (.iload_n 2, 1) := by decide +kernel
theorem dX5_core_26 : decode cX5_core 26 = .ok (.bipush 6, 2) := by decide +kernel
theorem dX5_core_28 : decode cX5_core 28 = .ok (.if_icmp .lt 13, 3) := by decide +kernel
theorem dX5_core_31 : decode cX5_core 31 = .ok (.new 53, 3) := by decide +kernel
theorem dX5_core_34 : decode cX5_core 34 = .ok (.dup, 1) := by decide +kernel
theorem dX5_core_35 : decode cX5_core 35 = .ok (.ldc 187, 2) := by decide +kernel
theorem dX5_core_37 : decode cX5_core 37 = .ok (.invokespecial 57, 3) := by decide +kernel
theorem dX5_core_40 : decode cX5_core 40 = .ok (.athrow, 1) := by decide +kernel
theorem dX5_core_41 : decode cX5_core 41 = .ok (.aload_n 0, 1) := by decide +kernel
theorem dX5_core_42 : decode cX5_core 42 = .ok (.getfield 29, 3) := by decide +kernel
theorem dX5_core_45 : decode cX5_core 45 = .ok (.getfield 102, 3) := by decide +kernel
theorem dX5_core_48 : decode cX5_core 48 = .ok (.iload_n 1, 1) := by decide +kernel
theorem dX5_core_49 : decode cX5_core 49 = .ok (.aaload, 1) := by decide +kernel
theorem dX5_core_50 : decode cX5_core 50 = .ok (.iload_n 2, 1) := by decide +kernel
theorem dX5_core_51 : decode cX5_core 51 = .ok (.invokevirtual 189, 3) := by decide +kernel
theorem dX5_core_54 : decode cX5_core 54 = .ok (.ireturn, 1) := by decide +kernel
theorem dX5_value_0 : decode cX5_value 0 = .ok (.iload_n 1, 1) := by decide +kernel
theorem dX5_value_1 : decode cX5_value 1 = .ok (.ifCond .lt 8, 3) := by decide +kernel
theorem dX5_value_4 : decode cX5_value 4 = .ok (.iload_n 1, 1) := by decide +kernel
theorem dX5_value_5 : decode cX5_value 5 = .ok (.iconst 5, 1) := by decide +kernel
theorem dX5_value_6 : decode cX5_value 6 = .ok (.if_icmp .lt 13, 3) := by decide +kernel
theorem dX5_value_9 : decode cX5_value 9 = .ok (.new 53, 3) := by decide +kernel
theorem dX5_value_12 : decode cX5_value 12 = .ok (.dup, 1) := by decide +kernel
theorem dX5_value_13 : decode cX5_value 13 = .ok (.ldc 187, 2) := by decide +kernel
theorem dX5_value_15 : decode cX5_value 15 = .ok (.invokespecial 57, 3) := by decide +kernel
theorem dX5_value_18 : decode cX5_value 18 = .ok (.athrow, 1) := by decide +kernel
theorem dX5_value_19 : decode cX5_value 19 = .ok (.aload_n 0, 1) := by decide +kernel
theorem dX5_value_20 : decode cX5_value 20 = .ok (.getfield 29, 3) := by decide +kernel
theorem dX5_value_23 : decode cX5_value 23 = .ok (.iload_n 1, 1) := by decide +kernel
theorem dX5_value_24 : decode cX5_value 24 = .ok (.invokevirtual 192, 3) := by decide +kernel
theorem dX5_value_27 : decode cX5_value 27 = .ok (.ireturn, 1) := by decide +kernel
theorem dX5_counter_0 : decode cX5_counter 0 = .ok (.iload_n 1, 1) := by decide +kernel
theorem dX5_counter_1 : decode cX5_counter 1 = .ok (.ifCond .lt 9, 3) := by decide +kernel
theorem dX5_counter_4 : decode cX5_counter 4 = .ok (.iload_n 1, 1) := by decide +kernel
theorem dX5_counter_5 : decode cX5_counter 5 = .ok (.bipush 8, 2) := by decide +kernel
theorem dX5_counter_7 : decode cX5_counter 7 = .ok (.if_icmp .lt 13, 3) := by decide +kernel
theorem dX5_counter_10 : decode cX5_counter 10 = .ok (.new 53, 3) := by decide +kernel
theorem dX5_counter_13 : decode cX5_counter 13 = .ok (.dup, 1) := by decide +kernel
theorem dX5_counter_14 : decode cX5_counter 14 = .ok (.ldc 187, 2) := by decide +kernel
theorem dX5_counter_16 : decode cX5_counter 16 = .ok (.invokespecial 57, 3) := by decide +kernel
theorem dX5_counter_19 : decode cX5_counter 19 = .ok (.athrow, 1) := by decide +kernel
theorem dX5_counter_20 : decode cX5_counter 20 = .ok (.aload_n 0, 1) := by decide +kernel
theorem dX5_counter_21 : decode cX5_counter 21 = .ok (.getfield 29, 3) := by decide +kernel
theorem dX5_counter_24 : decode cX5_counter 24 = .ok (.getfield 193, 3) := by decide +kernel
theorem dX5_counter_27 : decode cX5_counter 27 = .ok (.iload_n 1, 1) := by decide +kernel
theorem dX5_counter_28 : decode cX5_counter 28 = .ok (.iaload, 1) := by decide +kernel
theorem dX5_counter_29 : decode cX5_counter 29 = .ok (.ireturn, 1) := by decide +kernel
theorem dX5_commits_0 : decode cX5_commits 0 = .ok (.aload_n 0, 1) := by decide +kernel
theorem dX5_commits_1 : decode cX5_commits 1 = .ok (.getfield 29, 3) := by decide +kernel
theorem dX5_commits_4 : decode cX5_commits 4 = .ok (.getfield 63, 3) := by decide +kernel
theorem dX5_commits_7 : decode cX5_commits 7 = .ok (.getfield 67, 3) := by decide +kernel
theorem dX5_commits_10 : decode cX5_commits 10 = .ok (.ireturn, 1) := by decide +kernel
theorem dX5_commit_0 : decode cX5_commit 0 = .ok (.aload_n 0, 1) := by decide +kernel
theorem dX5_commit_1 : decode cX5_commit 1 = .ok (.getfield 29, 3) := by decide +kernel
theorem dX5_commit_4 : decode cX5_commit 4 = .ok (.getfield 63, 3) := by decide +kernel
theorem dX5_commit_7 : decode cX5_commit 7 = .ok (.iload_n 1, 1) := by decide +kernel
theorem dX5_commit_8 : decode cX5_commit 8 = .ok (.invokevirtual 196, 3) := by decide +kernel
theorem dX5_commit_11 : decode cX5_commit 11 = .ok (.ifCond .ne 13, 3) := by decide +kernel
theorem dX5_commit_14 : decode cX5_commit 14 = .ok (.new 97, 3) := by decide +kernel
theorem dX5_commit_17 : decode cX5_commit 17 = .ok (.dup, 1) := by decide +kernel
theorem dX5_commit_18 : decode cX5_commit 18 = .ok (.ldc 199, 2) := by decide +kernel
theorem dX5_commit_20 : decode cX5_commit 20 = .ok (.invokespecial 101, 3) := by decide +kernel
theorem dX5_commit_23 : decode cX5_commit 23 = .ok (.athrow, 1) := by decide +kernel
theorem dX5_commit_24 : decode cX5_commit 24 = .ok (.iload_n 2, 1) := by decide +kernel
theorem dX5_commit_25 : decode cX5_commit 25 = .ok (.ifCond .lt 8, 3) := by decide +kernel
theorem dX5_commit_28 : decode cX5_commit 28 = .ok (.iload_n 2, 1) := by decide +kernel
theorem dX5_commit_29 : decode cX5_commit 29 = .ok (.iconst 4, 1) := by decide +kernel
theorem dX5_commit_30 : decode cX5_commit 30 = .ok (.if_icmp .lt 13, 3) := by decide +kernel
theorem dX5_commit_33 : decode cX5_commit 33 = .ok (.new 53, 3) := by decide +kernel
theorem dX5_commit_36 : decode cX5_commit 36 = .ok (.dup, 1) := by decide +kernel
theorem dX5_commit_37 : decode cX5_commit 37 = .ok (.ldc 187, 2) := by decide +kernel
theorem dX5_commit_39 : decode cX5_commit 39 = .ok (.invokespecial 57, 3) := by decide +kernel
theorem dX5_commit_42 : decode cX5_commit 42 = .ok (.athrow, 1) := by decide +kernel
theorem dX5_commit_43 : decode cX5_commit 43 = .ok (.aload_n 0, 1) := by decide +kernel
theorem dX5_commit_44 : decode cX5_commit 44 = .ok (.getfield 29, 3) := by decide +kernel
theorem dX5_commit_47 : decode cX5_commit 47 = .ok (.getfield 63, 3) := by decide +kernel
theorem dX5_commit_50 : decode cX5_commit 50 = .ok (.iload_n 1, 1) := by decide +kernel
theorem dX5_commit_51 : decode cX5_commit 51 = .ok (.iload_n 2, 1) := by decide +kernel
theorem dX5_commit_52 : decode cX5_commit 52 = .ok (.invokevirtual 201, 3) := by decide +kernel
theorem dX5_commit_55 : decode cX5_commit 55 = .ok (.ireturn, 1) := by decide +kernel
theorem dX5_commitValue_0 : decode cX5_commitValue 0 = .ok (.aload_n 0, 1) := by decide +kernel
theorem dX5_commitValue_1 : decode cX5_commitValue 1 = .ok (.getfield 29, 3) := by decide +kernel
theorem dX5_commitValue_4 : decode cX5_commitValue 4 = .ok (.getfield 63, 3) := by decide +kernel
theorem dX5_commitValue_7 : decode cX5_commitValue 7 = .ok (.iload_n 1, 1) := by decide +kernel
theorem dX5_commitValue_8 : decode cX5_commitValue 8 = .ok (.invokevirtual 196, 3) := by decide +kernel
theorem dX5_commitValue_11 : decode cX5_commitValue 11 = .ok (.ifCond .eq 10, 3) := by decide +kernel
theorem dX5_commitValue_14 : decode cX5_commitValue 14 = .ok (.iload_n 2, 1) := by decide +kernel
theorem dX5_commitValue_15 : decode cX5_commitValue 15 = .ok (.invokestatic 158, 3) := by decide +kernel
theorem dX5_commitValue_18 : decode cX5_commitValue 18 = .ok (.ifCond .ne 13, 3) := by decide +kernel
theorem dX5_commitValue_21 : decode cX5_commitValue 21 = .ok (.new 97, 3) := by decide +kernel
theorem dX5_commitValue_24 : decode cX5_commitValue 24 = .ok (.dup, 1) := by decide +kernel
theorem dX5_commitValue_25 : decode cX5_commitValue 25 = .ok (.ldc 203, 2) := by decide +kernel
theorem dX5_commitValue_27 : decode cX5_commitValue 27 = .ok (.invokespecial 101, 3) := by decide +kernel
theorem dX5_commitValue_30 : decode cX5_commitValue 30 = .ok (.athrow, 1) := by decide +kernel
theorem dX5_commitValue_31 : decode cX5_commitValue 31 = .ok (.aload_n 0, 1) := by decide +kernel
theorem dX5_commitValue_32 : decode cX5_commitValue 32 = .ok (.getfield 29, 3) := by decide +kernel
theorem dX5_commitValue_35 : decode cX5_commitValue 35 = .ok (.getfield 63, 3) := by decide +kernel
theorem dX5_commitValue_38 : decode cX5_commitValue 38 = .ok (.iload_n 1, 1) := by decide +kernel
theorem dX5_commitValue_39 : decode cX5_commitValue 39 = .ok (.iload_n 2, 1) := by decide +kernel
theorem dX5_commitValue_40 : decode cX5_commitValue 40 = .ok (.iload_n 3, 1) := by decide +kernel
theorem dX5_commitValue_41 : decode cX5_commitValue 41 = .ok (.invokevirtual 205, 3) := by decide +kernel
theorem dX5_commitValue_44 : decode cX5_commitValue 44 = .ok (.ireturn, 1) := by decide +kernel
theorem dX5_serializable_0 : decode cX5_serializable 0 = .ok (.aload_n 0, 1) := by decide +kernel
theorem dX5_serializable_1 : decode cX5_serializable 1 = .ok (.getfield 29, 3) := by decide +kernel
theorem dX5_serializable_4 : decode cX5_serializable 4 = .ok (.getfield 63, 3) := by decide +kernel
theorem dX5_serializable_7 : decode cX5_serializable 7 = .ok (.aload_n 0, 1) := by decide +kernel
theorem dX5_serializable_8 : decode cX5_serializable 8 = .ok (.getfield 46, 3) := by decide +kernel
theorem dX5_serializable_11 : decode cX5_serializable 11 = .ok (.invokevirtual 209, 3) := by decide +kernel
theorem dX5_serializable_14 : decode cX5_serializable 14 = .ok (.ireturn, 1) := by decide +kernel
theorem dX5_finish_0 : decode cX5_finish 0 = .ok (.iload_n 1, 1) := by decide +kernel
theorem dX5_finish_1 : decode cX5_finish 1 = .ok (.invokestatic 49, 3) := by decide +kernel
theorem dX5_finish_4 : decode cX5_finish 4 = .ok (.ifCond .ne 13, 3) := by decide +kernel
theorem dX5_finish_7 : decode cX5_finish 7 = .ok (.new 53, 3) := by decide +kernel
theorem dX5_finish_10 : decode cX5_finish 10 = .ok (.dup, 1) := by decide +kernel
theorem dX5_finish_11 : decode cX5_finish 11 = .ok (.ldc 76, 2) := by decide +kernel
theorem dX5_finish_13 : decode cX5_finish 13 = .ok (.invokespecial 57, 3) := by decide +kernel
theorem dX5_finish_16 : decode cX5_finish 16 = .ok (.athrow, 1) := by decide +kernel
theorem dX5_finish_17 : decode cX5_finish 17 = .ok (.aload_n 0, 1) := by decide +kernel
theorem dX5_finish_18 : decode cX5_finish 18 = .ok (.iload_n 1, 1) := by decide +kernel
theorem dX5_finish_19 : decode cX5_finish 19 = .ok (.invokevirtual 213, 3) := by decide +kernel
theorem dX5_finish_22 : decode cX5_finish 22 = .ok (.aload_n 0, 1) := by decide +kernel
theorem dX5_finish_23 : decode cX5_finish 23 = .ok (.getfield 33, 3) := by decide +kernel
theorem dX5_finish_26 : decode cX5_finish 26 = .ok (.invokevirtual 216, 3) := by decide +kernel
theorem dX5_finish_29 : decode cX5_finish 29 = .ok (.ireturn, 1) := by decide +kernel
theorem dX5_abortsWith_0 : decode cX5_abortsWith 0 = .ok (.iload_n 1, 1) := by decide +kernel
theorem dX5_abortsWith_1 : decode cX5_abortsWith 1 = .ok (.invokestatic 49, 3) := by decide +kernel
theorem dX5_abortsWith_4 : decode cX5_abortsWith 4 = .ok (.ifCond .eq 10, 3) := by decide +kernel
theorem dX5_abortsWith_7 : decode cX5_abortsWith 7 = .ok (.iload_n 2, 1) := by decide +kernel
theorem dX5_abortsWith_8 : decode cX5_abortsWith 8 = .ok (.invokestatic 146, 3) := by decide +kernel
theorem dX5_abortsWith_11 : decode cX5_abortsWith 11 = .ok (.ifCond .ne 13, 3) := by decide +kernel
theorem dX5_abortsWith_14 : decode cX5_abortsWith 14 = .ok (.new 53, 3) := by decide +kernel
theorem dX5_abortsWith_17 : decode cX5_abortsWith 17 = .ok (.dup, 1) := by decide +kernel
theorem dX5_abortsWith_18 : decode cX5_abortsWith 18 = .ok (.ldc 55, 2) := by decide +kernel
theorem dX5_abortsWith_20 : decode cX5_abortsWith 20 = .ok (.invokespecial 57, 3) := by decide +kernel
theorem dX5_abortsWith_23 : decode cX5_abortsWith 23 = .ok (.athrow, 1) := by decide +kernel
theorem dX5_abortsWith_24 : decode cX5_abortsWith 24 = .ok (.aload_n 0, 1) := by decide +kernel
theorem dX5_abortsWith_25 : decode cX5_abortsWith 25 = .ok (.iload_n 1, 1) := by decide +kernel
theorem dX5_abortsWith_26 : decode cX5_abortsWith 26 = .ok (.invokevirtual 213, 3) := by decide +kernel
theorem dX5_abortsWith_29 : decode cX5_abortsWith 29 = .ok (.aload_n 0, 1) := by decide +kernel
theorem dX5_abortsWith_30 : decode cX5_abortsWith 30 = .ok (.getfield 33, 3) := by decide +kernel
theorem dX5_abortsWith_33 : decode cX5_abortsWith 33 = .ok (.invokevirtual 219, 3) := by decide +kernel
theorem dX5_abortsWith_36 : decode cX5_abortsWith 36 = .ok (.istore_n 3, 1) := by decide +kernel
theorem dX5_abortsWith_37 : decode cX5_abortsWith 37 = .ok (.aload_n 0, 1) := by decide +kernel
theorem dX5_abortsWith_38 : decode cX5_abortsWith 38 = .ok (.getfield 33, 3) := by decide +kernel
theorem dX5_abortsWith_41 : decode cX5_abortsWith 41 = .ok (.iload_n 2, 1) := by decide +kernel
theorem dX5_abortsWith_42 : decode cX5_abortsWith 42 = .ok (.invokevirtual 151, 3) := by decide +kernel
theorem dX5_abortsWith_45 : decode cX5_abortsWith 45 = .ok (.aload_n 0, 1) := by decide +kernel
theorem dX5_abortsWith_46 : decode cX5_abortsWith 46 = .ok (.getfield 33, 3) := by decide +kernel
theorem dX5_abortsWith_49 : decode cX5_abortsWith 49 = .ok (.invokevirtual 219, 3) := by decide +kernel
theorem dX5_abortsWith_52 : decode cX5_abortsWith 52 = .ok (.iload_n 3, 1) := by decide +kernel
theorem dX5_abortsWith_53 : decode cX5_abortsWith 53 = .ok (.isub, 1) := by decide +kernel
theorem dX5_abortsWith_54 : decode cX5_abortsWith 54 = .ok (.ireturn, 1) := by decide +kernel
theorem dX5_undo_0 : decode cX5_undo 0 = .ok (.aload_n 0, 1) := by decide +kernel
theorem dX5_undo_1 : decode cX5_undo 1 = .ok (.getfield 43, 3) := by decide +kernel
theorem dX5_undo_4 : decode cX5_undo 4 = .ok (.ifCond .gt 13, 3) := by decide +kernel
theorem dX5_undo_7 : decode cX5_undo 7 = .ok (.new 89, 3) := by decide +kernel
theorem dX5_undo_10 : decode cX5_undo 10 = .ok (.dup, 1) := by decide +kernel
theorem dX5_undo_11 : decode cX5_undo 11 = .ok (.ldc 222, 2) := by decide +kernel
theorem dX5_undo_13 : decode cX5_undo 13 = .ok (.invokespecial 93, 3) := by decide +kernel
theorem dX5_undo_16 : decode cX5_undo 16 = .ok (.athrow, 1) := by decide +kernel
theorem dX5_undo_17 : decode cX5_undo 17 = .ok (.aload_n 0, 1) := by decide +kernel
theorem dX5_undo_18 : decode cX5_undo 18 = .ok (.dup, 1) := by decide +kernel
theorem dX5_undo_19 : decode cX5_undo 19 = .ok (.getfield 43, 3) := by decide +kernel
theorem dX5_undo_22 : decode cX5_undo 22 = .ok (.iconst 1, 1) := by decide +kernel
theorem dX5_undo_23 : decode cX5_undo 23 = .ok (.isub, 1) := by decide +kernel
theorem dX5_undo_24 : decode cX5_undo 24 = .ok (.putfield 43, 3) := by decide +kernel
theorem dX5_undo_27 : decode cX5_undo 27 = .ok (.aload_n 0, 1) := by decide +kernel
theorem dX5_undo_28 : decode cX5_undo 28 = .ok (.getfield 29, 3) := by decide +kernel
theorem dX5_undo_31 : decode cX5_undo 31 = .ok (.aload_n 0, 1) := by decide +kernel
theorem dX5_undo_32 : decode cX5_undo 32 = .ok (.getfield 36, 3) := by decide +kernel
theorem dX5_undo_35 : decode cX5_undo 35 = .ok (.aload_n 0, 1) := by decide +kernel
theorem dX5_undo_36 : decode cX5_undo 36 = .ok (.getfield 40, 3) := by decide +kernel
theorem dX5_undo_39 : decode cX5_undo 39 = .ok (.aload_n 0, 1) := by decide +kernel
theorem dX5_undo_40 : decode cX5_undo 40 = .ok (.getfield 43, 3) := by decide +kernel
theorem dX5_undo_43 : decode cX5_undo 43 = .ok (.iadd, 1) := by decide +kernel
theorem dX5_undo_44 : decode cX5_undo 44 = .ok (.iconst 4, 1) := by decide +kernel
theorem dX5_undo_45 : decode cX5_undo 45 = .ok (.irem, 1) := by decide +kernel
theorem dX5_undo_46 : decode cX5_undo 46 = .ok (.aaload, 1) := by decide +kernel
theorem dX5_undo_47 : decode cX5_undo 47 = .ok (.invokevirtual 224, 3) := by decide +kernel
theorem dX5_undo_50 : decode cX5_undo 50 = .ok (.aload_n 0, 1) := by decide +kernel
theorem dX5_undo_51 : decode cX5_undo 51 = .ok (.getfield 43, 3) := by decide +kernel
theorem dX5_undo_54 : decode cX5_undo 54 = .ok (.ireturn, 1) := by decide +kernel
theorem dX5_digest_0 : decode cX5_digest 0 = .ok (.ldc2_w 228, 3) := by decide +kernel
theorem dX5_digest_3 : decode cX5_digest 3 = .ok (.aload_n 0, 1) := by decide +kernel
theorem dX5_digest_4 : decode cX5_digest 4 = .ok (.getfield 13, 3) := by decide +kernel
theorem dX5_digest_7 : decode cX5_digest 7 = .ok (.invokestatic 230, 3) := by decide +kernel
theorem dX5_digest_10 : decode cX5_digest 10 = .ok (.lstore_n 1, 1) := by decide +kernel
theorem dX5_digest_11 : decode cX5_digest 11 = .ok (.iconst 0, 1) := by decide +kernel
theorem dX5_digest_12 : decode cX5_digest 12 = .ok (.istore_n 3, 1) := by decide +kernel
theorem dX5_digest_13 : decode cX5_digest 13 = .ok (.iload_n 3, 1) := by decide +kernel
theorem dX5_digest_14 : decode cX5_digest 14 = .ok (.iconst 5, 1) := by decide +kernel
theorem dX5_digest_15 : decode cX5_digest 15 = .ok (.if_icmp .ge 22, 3) := by decide +kernel
theorem dX5_digest_18 : decode cX5_digest 18 = .ok (.lload_n 1, 1) := by decide +kernel
theorem dX5_digest_19 : decode cX5_digest 19 = .ok (.aload_n 0, 1) := by decide +kernel
theorem dX5_digest_20 : decode cX5_digest 20 = .ok (.getfield 29, 3) := by decide +kernel
theorem dX5_digest_23 : decode cX5_digest 23 = .ok (.iload_n 3, 1) := by decide +kernel
theorem dX5_digest_24 : decode cX5_digest 24 = .ok (.invokevirtual 192, 3) := by decide +kernel
theorem dX5_digest_27 : decode cX5_digest 27 = .ok (.invokestatic 230, 3) := by decide +kernel
theorem dX5_digest_30 : decode cX5_digest 30 = .ok (.lstore_n 1, 1) := by decide +kernel
theorem dX5_digest_31 : decode cX5_digest 31 = .ok (.iinc 3 1, 3) := by decide +kernel
theorem dX5_digest_34 : decode cX5_digest 34 = .ok (.goto (-21), 3) := by decide +kernel
theorem dX5_digest_37 : decode cX5_digest 37 = .ok (.lload_n 1, 1) := by decide +kernel
theorem dX5_digest_38 : decode cX5_digest 38 = .ok (.aload_n 0, 1) := by decide +kernel
theorem dX5_digest_39 : decode cX5_digest 39 = .ok (.getfield 29, 3) := by decide +kernel
theorem dX5_digest_42 : decode cX5_digest 42 = .ok (.getfield 84, 3) := by decide +kernel
theorem dX5_digest_45 : decode cX5_digest 45 = .ok (.invokestatic 230, 3) := by decide +kernel
theorem dX5_digest_48 : decode cX5_digest 48 = .ok (.lstore_n 1, 1) := by decide +kernel
theorem dX5_digest_49 : decode cX5_digest 49 = .ok (.iconst 0, 1) := by decide +kernel
theorem dX5_digest_50 : decode cX5_digest 50 = .ok (.istore_n 3, 1) := by decide +kernel
theorem dX5_digest_51 : decode cX5_digest 51 = .ok (.iload_n 3, 1) := by decide +kernel
theorem dX5_digest_52 : decode cX5_digest 52 = .ok (.aload_n 0, 1) := by decide +kernel
theorem dX5_digest_53 : decode cX5_digest 53 = .ok (.getfield 29, 3) := by decide +kernel
theorem dX5_digest_56 : decode cX5_digest 56 = .ok (.getfield 234, 3) := by decide +kernel
theorem dX5_digest_59 : decode cX5_digest 59 = .ok (.if_icmp .ge 16, 3) := by decide +kernel
theorem dX5_digest_62 : decode cX5_digest 62 = .ok (.aload_n 0, 1) := by decide +kernel
theorem dX5_digest_63 : decode cX5_digest 63 = .ok (.lload_n 1, 1) := by decide +kernel
theorem dX5_digest_64 : decode cX5_digest 64 = .ok (.iload_n 3, 1) := by decide +kernel
theorem dX5_digest_65 : decode cX5_digest 65 = .ok (.invokevirtual 237, 3) := by decide +kernel
theorem dX5_digest_68 : decode cX5_digest 68 = .ok (.lstore_n 1, 1) := by decide +kernel
theorem dX5_digest_69 : decode cX5_digest 69 = .ok (.iinc 3 1, 3) := by decide +kernel
theorem dX5_digest_72 : decode cX5_digest 72 = .ok (.goto (-21), 3) := by decide +kernel
theorem dX5_digest_75 : decode cX5_digest 75 = .ok (.iconst 0, 1) := by decide +kernel
theorem dX5_digest_76 : decode cX5_digest 76 = .ok (.istore_n 3, 1) := by decide +kernel
theorem dX5_digest_77 : decode cX5_digest 77 = .ok (.iload_n 3, 1) := by decide +kernel
theorem dX5_digest_78 : decode cX5_digest 78 = .ok (.bipush 8, 2) := by decide +kernel
theorem dX5_digest_80 : decode cX5_digest 80 = .ok (.if_icmp .ge 20, 3) := by decide +kernel
theorem dX5_digest_83 : decode cX5_digest 83 = .ok (.lload_n 1, 1) := by decide +kernel
theorem dX5_digest_84 : decode cX5_digest 84 = .ok (.aload_n 0, 1) := by decide +kernel
theorem dX5_digest_85 : decode cX5_digest 85 = .ok (.iload_n 3, 1) := by decide +kernel
theorem dX5_digest_86 : decode cX5_digest 86 = .ok (.iconst 0, 1) := by decide +kernel
theorem dX5_digest_87 : decode cX5_digest 87 = .ok (.invokevirtual 240, 3) := by decide +kernel
theorem dX5_digest_90 : decode cX5_digest 90 = .ok (.invokestatic 230, 3) := by decide +kernel
theorem dX5_digest_93 : decode cX5_digest 93 = .ok (.lstore_n 1, 1) := by decide +kernel
theorem dX5_digest_94 : decode cX5_digest 94 = .ok (.iinc 3 1, 3) := by decide +kernel
theorem dX5_digest_97 : decode cX5_digest 97 = .ok (.goto (-20), 3) := by decide +kernel
theorem dX5_digest_100 : decode cX5_digest 100 = .ok (.iconst 0, 1) := by decide +kernel
theorem dX5_digest_101 : decode cX5_digest 101 = .ok (.istore_n 3, 1) := by decide +kernel
theorem dX5_digest_102 : decode cX5_digest 102 = .ok (.iload_n 3, 1) := by decide +kernel
theorem dX5_digest_103 : decode cX5_digest 103 = .ok (.bipush 8, 2) := by decide +kernel
theorem dX5_digest_105 : decode cX5_digest 105 = .ok (.if_icmp .ge 20, 3) := by decide +kernel
theorem dX5_digest_108 : decode cX5_digest 108 = .ok (.lload_n 1, 1) := by decide +kernel
theorem dX5_digest_109 : decode cX5_digest 109 = .ok (.aload_n 0, 1) := by decide +kernel
theorem dX5_digest_110 : decode cX5_digest 110 = .ok (.iload_n 3, 1) := by decide +kernel
theorem dX5_digest_111 : decode cX5_digest 111 = .ok (.iconst 1, 1) := by decide +kernel
theorem dX5_digest_112 : decode cX5_digest 112 = .ok (.invokevirtual 240, 3) := by decide +kernel
theorem dX5_digest_115 : decode cX5_digest 115 = .ok (.invokestatic 230, 3) := by decide +kernel
theorem dX5_digest_118 : decode cX5_digest 118 = .ok (.lstore_n 1, 1) := by decide +kernel
theorem dX5_digest_119 : decode cX5_digest 119 = .ok (.iinc 3 1, 3) := by decide +kernel
theorem dX5_digest_122 : decode cX5_digest 122 = .ok (.goto (-20), 3) := by decide +kernel
theorem dX5_digest_125 : decode cX5_digest 125 = .ok (.iconst 0, 1) := by decide +kernel
theorem dX5_digest_126 : decode cX5_digest 126 = .ok (.istore_n 3, 1) := by decide +kernel
theorem dX5_digest_127 : decode cX5_digest 127 = .ok (.iload_n 3, 1) := by decide +kernel
theorem dX5_digest_128 : decode cX5_digest 128 = .ok (.bipush 8, 2) := by decide +kernel
theorem dX5_digest_130 : decode cX5_digest 130 = .ok (.if_icmp .ge 23, 3) := by decide +kernel
theorem dX5_digest_133 : decode cX5_digest 133 = .ok (.lload_n 1, 1) := by decide +kernel
theorem dX5_digest_134 : decode cX5_digest 134 = .ok (.aload_n 0, 1) := by decide +kernel
theorem dX5_digest_135 : decode cX5_digest 135 = .ok (.getfield 29, 3) := by decide +kernel
theorem dX5_digest_138 : decode cX5_digest 138 = .ok (.getfield 193, 3) := by decide +kernel
theorem dX5_digest_141 : decode cX5_digest 141 = .ok (.iload_n 3, 1) := by decide +kernel
theorem dX5_digest_142 : decode cX5_digest 142 = .ok (.iaload, 1) := by decide +kernel
theorem dX5_digest_143 : decode cX5_digest 143 = .ok (.invokestatic 230, 3) := by decide +kernel
theorem dX5_digest_146 : decode cX5_digest 146 = .ok (.lstore_n 1, 1) := by decide +kernel
theorem dX5_digest_147 : decode cX5_digest 147 = .ok (.iinc 3 1, 3) := by decide +kernel
theorem dX5_digest_150 : decode cX5_digest 150 = .ok (.goto (-23), 3) := by decide +kernel
theorem dX5_digest_153 : decode cX5_digest 153 = .ok (.lload_n 1, 1) := by decide +kernel
theorem dX5_digest_154 : decode cX5_digest 154 = .ok (.aload_n 0, 1) := by decide +kernel
theorem dX5_digest_155 : decode cX5_digest 155 = .ok (.getfield 29, 3) := by decide +kernel
theorem dX5_digest_158 : decode cX5_digest 158 = .ok (.getfield 63, 3) := by decide +kernel
theorem dX5_digest_161 : decode cX5_digest 161 = .ok (.getfield 67, 3) := by decide +kernel
theorem dX5_digest_164 : decode cX5_digest 164 = .ok (.invokestatic 230, 3) := by decide +kernel
theorem dX5_digest_167 : decode cX5_digest 167 = .ok (.lstore_n 1, 1) := by decide +kernel
theorem dX5_digest_168 : decode cX5_digest 168 = .ok (.lload_n 1, 1) := by decide +kernel
theorem dX5_digest_169 : decode cX5_digest 169 = .ok (.aload_n 0, 1) := by decide +kernel
theorem dX5_digest_170 : decode cX5_digest 170 = .ok (.getfield 43, 3) := by decide +kernel
theorem dX5_digest_173 : decode cX5_digest 173 = .ok (.invokestatic 230, 3) := by decide +kernel
theorem dX5_digest_176 : decode cX5_digest 176 = .ok (.lreturn, 1) := by decide +kernel
theorem dX5_mixCore_0 : decode cX5_mixCore 0 = .ok (.lload_n 1, 1) := by decide +kernel
theorem dX5_mixCore_1 : decode cX5_mixCore 1 = .ok (.lstore 4, 2) := by decide +kernel
theorem dX5_mixCore_3 : decode cX5_mixCore 3 = .ok (.iconst 0, 1) := by decide +kernel
theorem dX5_mixCore_4 : decode cX5_mixCore 4 = .ok (.istore 6, 2) := by decide +kernel
theorem dX5_mixCore_6 : decode cX5_mixCore 6 = .ok (.iload 6, 2) := by decide +kernel
theorem dX5_mixCore_8 : decode cX5_mixCore 8 = .ok (.bipush 6, 2) := by decide +kernel
theorem dX5_mixCore_10 : decode cX5_mixCore 10 = .ok (.if_icmp .ge 23, 3) := by decide +kernel
theorem dX5_mixCore_13 : decode cX5_mixCore 13 = .ok (.lload 4, 2) := by decide +kernel
theorem dX5_mixCore_15 : decode cX5_mixCore 15 = .ok (.aload_n 0, 1) := by decide +kernel
theorem dX5_mixCore_16 : decode cX5_mixCore 16 = .ok (.iload_n 3, 1) := by decide +kernel
theorem dX5_mixCore_17 : decode cX5_mixCore 17 = .ok (.iload 6, 2) := by decide +kernel
theorem dX5_mixCore_19 : decode cX5_mixCore 19 = .ok (.invokevirtual 244, 3) := by decide +kernel
theorem dX5_mixCore_22 : decode cX5_mixCore 22 = .ok (.invokestatic 230, 3) := by decide +kernel
theorem dX5_mixCore_25 : decode cX5_mixCore 25 = .ok (.lstore 4, 2) := by decide +kernel
theorem dX5_mixCore_27 : decode cX5_mixCore 27 = .ok (.iinc 6 1, 3) := by decide +kernel
theorem dX5_mixCore_30 : decode cX5_mixCore 30 = .ok (.goto (-24), 3) := by decide +kernel
theorem dX5_mixCore_33 : decode cX5_mixCore 33 = .ok (.lload 4, 2) := by decide +kernel
theorem dX5_mixCore_35 : decode cX5_mixCore 35 = .ok (.aload_n 0, 1) := by decide +kernel
theorem dX5_mixCore_36 : decode cX5_mixCore 36 = .ok (.iload_n 3, 1) := by decide +kernel
theorem dX5_mixCore_37 : decode cX5_mixCore 37 = .ok (.iconst 0, 1) := by decide +kernel
theorem dX5_mixCore_38 : decode cX5_mixCore 38 = .ok (.invokevirtual 247, 3) := by decide +kernel
theorem dX5_mixCore_41 : decode cX5_mixCore 41 = .ok (.invokestatic 230, 3) := by decide +kernel
theorem dX5_mixCore_44 : decode cX5_mixCore 44 = .ok (.lstore 4, 2) := by decide +kernel
theorem dX5_mixCore_46 : decode cX5_mixCore 46 = .ok (.lload 4, 2) := by decide +kernel
theorem dX5_mixCore_48 : decode cX5_mixCore 48 = .ok (.aload_n 0, 1) := by decide +kernel
theorem dX5_mixCore_49 : decode cX5_mixCore 49 = .ok (.iload_n 3, 1) := by decide +kernel
theorem dX5_mixCore_50 : decode cX5_mixCore 50 = .ok (.iconst 1, 1) := by decide +kernel
theorem dX5_mixCore_51 : decode cX5_mixCore 51 = .ok (.invokevirtual 247, 3) := by decide +kernel
theorem dX5_mixCore_54 : decode cX5_mixCore 54 = .ok (.invokestatic 230, 3) := by decide +kernel
theorem dX5_mixCore_57 : decode cX5_mixCore 57 = .ok (.lstore 4, 2) := by decide +kernel
theorem dX5_mixCore_59 : decode cX5_mixCore 59 = .ok (.iconst 0, 1) := by decide +kernel
theorem dX5_mixCore_60 : decode cX5_mixCore 60 = .ok (.istore 6, 2) := by decide +kernel
theorem dX5_mixCore_62 : decode cX5_mixCore 62 = .ok (.iload 6, 2) := by decide +kernel
theorem dX5_mixCore_64 : decode cX5_mixCore 64 = .ok (.bipush 8, 2) := by decide +kernel
theorem dX5_mixCore_66 : decode cX5_mixCore 66 = .ok (.if_icmp .ge 37, 3) := by decide +kernel
theorem dX5_mixCore_69 : decode cX5_mixCore 69 = .ok (.lload 4, 2) := by decide +kernel
theorem dX5_mixCore_71 : decode cX5_mixCore 71 = .ok (.aload_n 0, 1) := by decide +kernel
theorem dX5_mixCore_72 : decode cX5_mixCore 72 = .ok (.iload_n 3, 1) := by decide +kernel
theorem dX5_mixCore_73 : decode cX5_mixCore 73 = .ok (.iload 6, 2) := by decide +kernel
theorem dX5_mixCore_75 : decode cX5_mixCore 75 = .ok (.invokevirtual 250, 3) := by decide +kernel
theorem dX5_mixCore_78 : decode cX5_mixCore 78 = .ok (.invokestatic 230, 3) := by decide +kernel
theorem dX5_mixCore_81 : decode cX5_mixCore 81 = .ok (.lstore 4, 2) := by decide +kernel
theorem dX5_mixCore_83 : decode cX5_mixCore 83 = .ok (.lload 4, 2) := by decide +kernel
theorem dX5_mixCore_85 : decode cX5_mixCore 85 = .ok (.aload_n 0, 1) := by decide +kernel
theorem dX5_mixCore_86 : decode cX5_mixCore 86 = .ok (.iload_n 3, 1) := by decide +kernel
theorem dX5_mixCore_87 : decode cX5_mixCore 87 = .ok (.iload 6, 2) := by decide +kernel
theorem dX5_mixCore_89 : decode cX5_mixCore 89 = .ok (.invokevirtual 253, 3) := by decide +kernel
theorem dX5_mixCore_92 : decode cX5_mixCore 92 = .ok (.invokestatic 230, 3) := by decide +kernel
theorem dX5_mixCore_95 : decode cX5_mixCore 95 = .ok (.lstore 4, 2) := by decide +kernel
theorem dX5_mixCore_97 : decode cX5_mixCore 97 = .ok (.iinc 6 1, 3) := by decide +kernel
theorem dX5_mixCore_100 : decode cX5_mixCore 100 = .ok (.goto (-38), 3) := by decide +kernel
theorem dX5_mixCore_103 : decode cX5_mixCore 103 = .ok (.lload 4, 2) := by decide +kernel
theorem dX5_mixCore_105 : decode cX5_mixCore 105 = .ok (.lreturn, 1) := by decide +kernel
theorem dX5_mix_0 : decode cX5_mix 0 = .ok (.ldc2_w 256, 3) := by decide +kernel
theorem dX5_mix_3 : decode cX5_mix 3 = .ok (.lload_n 0, 1) := by decide +kernel
theorem dX5_mix_4 : decode cX5_mix 4 = .ok (.lmul, 1) := by decide +kernel
theorem dX5_mix_5 : decode cX5_mix 5 = .ok (.iload_n 2, 1) := by decide +kernel
theorem dX5_mix_6 : decode cX5_mix 6 = .ok (.i2l, 1) := by decide +kernel
theorem dX5_mix_7 : decode cX5_mix 7 = .ok (.ladd, 1) := by decide +kernel
theorem dX5_mix_8 : decode cX5_mix 8 = .ok (.lreturn, 1) := by decide +kernel
theorem dX5_saveState_0 : decode cX5_saveState 0 = .ok (.aload_n 0, 1) := by decide +kernel
theorem dX5_saveState_1 : decode cX5_saveState 1 = .ok (.getfield 36, 3) := by decide +kernel
theorem dX5_saveState_4 : decode cX5_saveState 4 = .ok (.aload_n 0, 1) := by decide +kernel
theorem dX5_saveState_5 : decode cX5_saveState 5 = .ok (.getfield 40, 3) := by decide +kernel
theorem dX5_saveState_8 : decode cX5_saveState 8 = .ok (.aload_n 0, 1) := by decide +kernel
theorem dX5_saveState_9 : decode cX5_saveState 9 = .ok (.getfield 43, 3) := by decide +kernel
theorem dX5_saveState_12 : decode cX5_saveState 12 = .ok (.iadd, 1) := by decide +kernel
theorem dX5_saveState_13 : decode cX5_saveState 13 = .ok (.iconst 4, 1) := by decide +kernel
theorem dX5_saveState_14 : decode cX5_saveState 14 = .ok (.irem, 1) := by decide +kernel
theorem dX5_saveState_15 : decode cX5_saveState 15 = .ok (.aaload, 1) := by decide +kernel
theorem dX5_saveState_16 : decode cX5_saveState 16 = .ok (.aload_n 0, 1) := by decide +kernel
theorem dX5_saveState_17 : decode cX5_saveState 17 = .ok (.getfield 29, 3) := by decide +kernel
theorem dX5_saveState_20 : decode cX5_saveState 20 = .ok (.invokevirtual 224, 3) := by decide +kernel
theorem dX5_saveState_23 : decode cX5_saveState 23 = .ok (.aload_n 0, 1) := by decide +kernel
theorem dX5_saveState_24 : decode cX5_saveState 24 = .ok (.getfield 43, 3) := by decide +kernel
theorem dX5_saveState_27 : decode cX5_saveState 27 = .ok (.iconst 4, 1) := by decide +kernel
theorem dX5_saveState_28 : decode cX5_saveState 28 = .ok (.if_icmp .ge 16, 3) := by decide +kernel
theorem dX5_saveState_31 : decode cX5_saveState 31 = .ok (.aload_n 0, 1) := by decide +kernel
theorem dX5_saveState_32 : decode cX5_saveState 32 = .ok (.dup, 1) := by decide +kernel
theorem dX5_saveState_33 : decode cX5_saveState 33 = .ok (.getfield 43, 3) := by decide +kernel
theorem dX5_saveState_36 : decode cX5_saveState 36 = .ok (.iconst 1, 1) := by decide +kernel
theorem dX5_saveState_37 : decode cX5_saveState 37 = .ok (.iadd, 1) := by decide +kernel
theorem dX5_saveState_38 : decode cX5_saveState 38 = .ok (.putfield 43, 3) := by decide +kernel
theorem dX5_saveState_41 : decode cX5_saveState 41 = .ok (.goto 15, 3) := by decide +kernel
theorem dX5_saveState_44 : decode cX5_saveState 44 = .ok (.aload_n 0, 1) := by decide +kernel
theorem dX5_saveState_45 : decode cX5_saveState 45 = .ok (.aload_n 0, 1) := by decide +kernel
theorem dX5_saveState_46 : decode cX5_saveState 46 = .ok (.getfield 40, 3) := by decide +kernel
theorem dX5_saveState_49 : decode cX5_saveState 49 = .ok (.iconst 1, 1) := by decide +kernel
theorem dX5_saveState_50 : decode cX5_saveState 50 = .ok (.iadd, 1) := by decide +kernel
theorem dX5_saveState_51 : decode cX5_saveState 51 = .ok (.iconst 4, 1) := by decide +kernel
theorem dX5_saveState_52 : decode cX5_saveState 52 = .ok (.irem, 1) := by decide +kernel
theorem dX5_saveState_53 : decode cX5_saveState 53 = .ok (.putfield 40, 3) := by decide +kernel
theorem dX5_saveState_56 : decode cX5_saveState 56 = .ok (.return_, 1) := by decide +kernel
theorem dX5_startTrial_0 : decode cX5_startTrial 0 = .ok (.aload_n 0, 1) := by decide +kernel
theorem dX5_startTrial_1 : decode cX5_startTrial 1 = .ok (.getfield 33, 3) := by decide +kernel
theorem dX5_startTrial_4 : decode cX5_startTrial 4 = .ok (.aload_n 0, 1) := by decide +kernel
theorem dX5_startTrial_5 : decode cX5_startTrial 5 = .ok (.getfield 29, 3) := by decide +kernel
theorem dX5_startTrial_8 : decode cX5_startTrial 8 = .ok (.invokevirtual 224, 3) := by decide +kernel
theorem dX5_startTrial_11 : decode cX5_startTrial 11 = .ok (.aload_n 0, 1) := by decide +kernel
theorem dX5_startTrial_12 : decode cX5_startTrial 12 = .ok (.getfield 33, 3) := by decide +kernel
theorem dX5_startTrial_15 : decode cX5_startTrial 15 = .ok (.iload_n 1, 1) := by decide +kernel
theorem dX5_startTrial_16 : decode cX5_startTrial 16 = .ok (.putfield 78, 3) := by decide +kernel
theorem dX5_startTrial_19 : decode cX5_startTrial 19 = .ok (.return_, 1) := by decide +kernel
theorem dX5_isPolicy_0 : decode cX5_isPolicy 0 = .ok (.iload_n 0, 1) := by decide +kernel
theorem dX5_isPolicy_1 : decode cX5_isPolicy 1 = .ok (.ifCond .lt 12, 3) := by decide +kernel
theorem dX5_isPolicy_4 : decode cX5_isPolicy 4 = .ok (.iload_n 0, 1) := by decide +kernel
theorem dX5_isPolicy_5 : decode cX5_isPolicy 5 = .ok (.iconst 3, 1) := by decide +kernel
theorem dX5_isPolicy_6 : decode cX5_isPolicy 6 = .ok (.if_icmp .ge 7, 3) := by decide +kernel
theorem dX5_isPolicy_9 : decode cX5_isPolicy 9 = .ok (.iconst 1, 1) := by decide +kernel
theorem dX5_isPolicy_10 : decode cX5_isPolicy 10 = .ok (.goto 4, 3) := by decide +kernel
theorem dX5_isPolicy_13 : decode cX5_isPolicy 13 = .ok (.iconst 0, 1) := by decide +kernel
theorem dX5_isPolicy_14 : decode cX5_isPolicy 14 = .ok (.ireturn, 1) := by decide +kernel
theorem dX5_isLine_0 : decode cX5_isLine 0 = .ok (.iload_n 0, 1) := by decide +kernel
theorem dX5_isLine_1 : decode cX5_isLine 1 = .ok (.ifCond .lt 13, 3) := by decide +kernel
theorem dX5_isLine_4 : decode cX5_isLine 4 = .ok (.iload_n 0, 1) := by decide +kernel
theorem dX5_isLine_5 : decode cX5_isLine 5 = .ok (.bipush 8, 2) := by decide +kernel
theorem dX5_isLine_7 : decode cX5_isLine 7 = .ok (.if_icmp .ge 7, 3) := by decide +kernel
theorem dX5_isLine_10 : decode cX5_isLine 10 = .ok (.iconst 1, 1) := by decide +kernel
theorem dX5_isLine_11 : decode cX5_isLine 11 = .ok (.goto 4, 3) := by decide +kernel
theorem dX5_isLine_14 : decode cX5_isLine 14 = .ok (.iconst 0, 1) := by decide +kernel
theorem dX5_isLine_15 : decode cX5_isLine 15 = .ok (.ireturn, 1) := by decide +kernel
theorem dX5_isRunLength_0 : decode cX5_isRunLength 0 = .ok (.iload_n 0, 1) := by decide +kernel
theorem dX5_isRunLength_1 : decode cX5_isRunLength 1 = .ok (.ifCond .lt 14, 3) := by decide +kernel
theorem dX5_isRunLength_4 : decode cX5_isRunLength 4 = .ok (.iload_n 0, 1) := by decide +kernel
theorem dX5_isRunLength_5 : decode cX5_isRunLength 5 = .ok (.sipush 1000, 3) := by decide +kernel
theorem dX5_isRunLength_8 : decode cX5_isRunLength 8 = .ok (.if_icmp .gt 7, 3) := by decide +kernel
theorem dX5_isRunLength_11 : decode cX5_isRunLength 11 = .ok (.iconst 1, 1) := by decide +kernel
theorem dX5_isRunLength_12 : decode cX5_isRunLength 12 = .ok (.goto 4, 3) := by decide +kernel
theorem dX5_isRunLength_15 : decode cX5_isRunLength 15 = .ok (.iconst 0, 1) := by decide +kernel
theorem dX5_isRunLength_16 : decode cX5_isRunLength 16 = .ok (.ireturn, 1) := by decide +kernel
theorem dX5_contains_0 : decode cX5_contains 0 = .ok (.iload_n 0, 1) := by decide +kernel
theorem dX5_contains_1 : decode cX5_contains 1 = .ok (.iconst 1, 1) := by decide +kernel
theorem dX5_contains_2 : decode cX5_contains 2 = .ok (.iload_n 1, 1) := by decide +kernel
theorem dX5_contains_3 : decode cX5_contains 3 = .ok (.ishl, 1) := by decide +kernel
theorem dX5_contains_4 : decode cX5_contains 4 = .ok (.iand, 1) := by decide +kernel
theorem dX5_contains_5 : decode cX5_contains 5 = .ok (.ifCond .eq 7, 3) := by decide +kernel
theorem dX5_contains_8 : decode cX5_contains 8 = .ok (.iconst 1, 1) := by decide +kernel
theorem dX5_contains_9 : decode cX5_contains 9 = .ok (.goto 4, 3) := by decide +kernel
theorem dX5_contains_12 : decode cX5_contains 12 = .ok (.iconst 0, 1) := by decide +kernel
theorem dX5_contains_13 : decode cX5_contains 13 = .ok (.ireturn, 1) := by decide +kernel
theorem dJ6_bitCount_0f7a4_0 : decode cJ6_bitCount_0f7a4 0 = .ok (.iload_n 0, 1) := by decide +kernel
theorem dJ6_bitCount_0f7a4_1 : decode cJ6_bitCount_0f7a4 1 = .ok (.iload_n 0, 1) := by decide +kernel
theorem dJ6_bitCount_0f7a4_2 : decode cJ6_bitCount_0f7a4 2 = .ok (.iconst 1, 1) := by decide +kernel
theorem dJ6_bitCount_0f7a4_3 : decode cJ6_bitCount_0f7a4 3 = .ok (.iushr, 1) := by decide +kernel
theorem dJ6_bitCount_0f7a4_4 : decode cJ6_bitCount_0f7a4 4 = .ok (.ldc_w 265, 3) := by decide +kernel
theorem dJ6_bitCount_0f7a4_7 : decode cJ6_bitCount_0f7a4 7 = .ok (.iand, 1) := by decide +kernel
theorem dJ6_bitCount_0f7a4_8 : decode cJ6_bitCount_0f7a4 8 = .ok (.isub, 1) := by decide +kernel
theorem dJ6_bitCount_0f7a4_9 : decode cJ6_bitCount_0f7a4 9 = .ok (.istore_n 0, 1) := by decide +kernel
theorem dJ6_bitCount_0f7a4_10 : decode cJ6_bitCount_0f7a4 10 = .ok (.iload_n 0, 1) := by decide +kernel
theorem dJ6_bitCount_0f7a4_11 : decode cJ6_bitCount_0f7a4 11 = .ok (.ldc_w 266, 3) := by decide +kernel
theorem dJ6_bitCount_0f7a4_14 : decode cJ6_bitCount_0f7a4 14 = .ok (.iand, 1) := by decide +kernel
theorem dJ6_bitCount_0f7a4_15 : decode cJ6_bitCount_0f7a4 15 = .ok (.iload_n 0, 1) := by decide +kernel
theorem dJ6_bitCount_0f7a4_16 : decode cJ6_bitCount_0f7a4 16 = .ok (.iconst 2, 1) := by decide +kernel
theorem dJ6_bitCount_0f7a4_17 : decode cJ6_bitCount_0f7a4 17 = .ok (.iushr, 1) := by decide +kernel
theorem dJ6_bitCount_0f7a4_18 : decode cJ6_bitCount_0f7a4 18 = .ok (.ldc_w 266, 3) := by decide +kernel
theorem dJ6_bitCount_0f7a4_21 : decode cJ6_bitCount_0f7a4 21 = .ok (.iand, 1) := by decide +kernel
theorem dJ6_bitCount_0f7a4_22 : decode cJ6_bitCount_0f7a4 22 = .ok (.iadd, 1) := by decide +kernel
theorem dJ6_bitCount_0f7a4_23 : decode cJ6_bitCount_0f7a4 23 = .ok (.istore_n 0, 1) := by decide +kernel
theorem dJ6_bitCount_0f7a4_24 : decode cJ6_bitCount_0f7a4 24 = .ok (.iload_n 0, 1) := by decide +kernel
theorem dJ6_bitCount_0f7a4_25 : decode cJ6_bitCount_0f7a4 25 = .ok (.iload_n 0, 1) := by decide +kernel
theorem dJ6_bitCount_0f7a4_26 : decode cJ6_bitCount_0f7a4 26 = .ok (.iconst 4, 1) := by decide +kernel
theorem dJ6_bitCount_0f7a4_27 : decode cJ6_bitCount_0f7a4 27 = .ok (.iushr, 1) := by decide +kernel
theorem dJ6_bitCount_0f7a4_28 : decode cJ6_bitCount_0f7a4 28 = .ok (.iadd, 1) := by decide +kernel
theorem dJ6_bitCount_0f7a4_29 : decode cJ6_bitCount_0f7a4 29 = .ok (.ldc_w 267, 3) := by decide +kernel
theorem dJ6_bitCount_0f7a4_32 : decode cJ6_bitCount_0f7a4 32 = .ok (.iand, 1) := by decide +kernel
theorem dJ6_bitCount_0f7a4_33 : decode cJ6_bitCount_0f7a4 33 = .ok (.istore_n 0, 1) := by decide +kernel
theorem dJ6_bitCount_0f7a4_34 : decode cJ6_bitCount_0f7a4 34 = .ok (.iload_n 0, 1) := by decide +kernel
theorem dJ6_bitCount_0f7a4_35 : decode cJ6_bitCount_0f7a4 35 = .ok (.iload_n 0, 1) := by decide +kernel
theorem dJ6_bitCount_0f7a4_36 : decode cJ6_bitCount_0f7a4 36 = .ok (.bipush 8, 2) := by decide +kernel
theorem dJ6_bitCount_0f7a4_38 : decode cJ6_bitCount_0f7a4 38 = .ok (.iushr, 1) := by decide +kernel
theorem dJ6_bitCount_0f7a4_39 : decode cJ6_bitCount_0f7a4 39 = .ok (.iadd, 1) := by decide +kernel
theorem dJ6_bitCount_0f7a4_40 : decode cJ6_bitCount_0f7a4 40 = .ok (.istore_n 0, 1) := by decide +kernel
theorem dJ6_bitCount_0f7a4_41 : decode cJ6_bitCount_0f7a4 41 = .ok (.iload_n 0, 1) := by decide +kernel
theorem dJ6_bitCount_0f7a4_42 : decode cJ6_bitCount_0f7a4 42 = .ok (.iload_n 0, 1) := by decide +kernel
theorem dJ6_bitCount_0f7a4_43 : decode cJ6_bitCount_0f7a4 43 = .ok (.bipush 16, 2) := by decide +kernel
theorem dJ6_bitCount_0f7a4_45 : decode cJ6_bitCount_0f7a4 45 = .ok (.iushr, 1) := by decide +kernel
theorem dJ6_bitCount_0f7a4_46 : decode cJ6_bitCount_0f7a4 46 = .ok (.iadd, 1) := by decide +kernel
theorem dJ6_bitCount_0f7a4_47 : decode cJ6_bitCount_0f7a4 47 = .ok (.istore_n 0, 1) := by decide +kernel
theorem dJ6_bitCount_0f7a4_48 : decode cJ6_bitCount_0f7a4 48 = .ok (.iload_n 0, 1) := by decide +kernel
theorem dJ6_bitCount_0f7a4_49 : decode cJ6_bitCount_0f7a4 49 = .ok (.bipush 63, 2) := by decide +kernel
theorem dJ6_bitCount_0f7a4_51 : decode cJ6_bitCount_0f7a4 51 = .ok (.iand, 1) := by decide +kernel
theorem dJ6_bitCount_0f7a4_52 : decode cJ6_bitCount_0f7a4 52 = .ok (.ireturn, 1) := by decide +kernel
theorem dJ9_min_7cf53_0 : decode cJ9_min_7cf53 0 = .ok (.iload_n 0, 1) := by decide +kernel
theorem dJ9_min_7cf53_1 : decode cJ9_min_7cf53 1 = .ok (.iload_n 1, 1) := by decide +kernel
theorem dJ9_min_7cf53_2 : decode cJ9_min_7cf53 2 = .ok (.if_icmp .gt 7, 3) := by decide +kernel
theorem dJ9_min_7cf53_5 : decode cJ9_min_7cf53 5 = .ok (.iload_n 0, 1) := by decide +kernel
theorem dJ9_min_7cf53_6 : decode cJ9_min_7cf53 6 = .ok (.goto 4, 3) := by decide +kernel
theorem dJ9_min_7cf53_9 : decode cJ9_min_7cf53 9 = .ok (.iload_n 1, 1) := by decide +kernel
theorem dJ9_min_7cf53_10 : decode cJ9_min_7cf53 10 = .ok (.ireturn, 1) := by decide +kernel
theorem dL_cell_0 : decode cL_cell 0 = .ok (.iload_n 1, 1) := by decide +kernel
theorem dL_cell_1 : decode cL_cell 1 = .ok (.aload_n 0, 1) := by decide +kernel
theorem dL_cell_2 : decode cL_cell 2 = .ok (.arraylength, 1) := by decide +kernel
theorem dL_cell_3 : decode cL_cell 3 = .ok (.if_icmp .ge 9, 3) := by decide +kernel
theorem dL_cell_6 : decode cL_cell 6 = .ok (.aload_n 0, 1) := by decide +kernel
theorem dL_cell_7 : decode cL_cell 7 = .ok (.iload_n 1, 1) := by decide +kernel
theorem dL_cell_8 : decode cL_cell 8 = .ok (.iaload, 1) := by decide +kernel
theorem dL_cell_9 : decode cL_cell 9 = .ok (.goto 15, 3) := by decide +kernel
theorem dL_cell_12 : decode cL_cell 12 = .ok (.ldc 7, 2) := by decide +kernel
theorem dL_cell_14 : decode cL_cell 14 = .ok (.iload_n 1, 1) := by decide +kernel
theorem dL_cell_15 : decode cL_cell 15 = .ok (.sipush 1163, 3) := by decide +kernel
theorem dL_cell_18 : decode cL_cell 18 = .ok (.iadd, 1) := by decide +kernel
theorem dL_cell_19 : decode cL_cell 19 = .ok (.imul, 1) := by decide +kernel
theorem dL_cell_20 : decode cL_cell 20 = .ok (.sipush 991, 3) := by decide +kernel
theorem dL_cell_23 : decode cL_cell 23 = .ok (.iadd, 1) := by decide +kernel
theorem dL_cell_24 : decode cL_cell 24 = .ok (.ireturn, 1) := by decide +kernel
theorem dL_low_0 : decode cL_low 0 = .ok (.iload_n 0, 1) := by decide +kernel
theorem dL_low_1 : decode cL_low 1 = .ok (.ldc 8, 2) := by decide +kernel
theorem dL_low_3 : decode cL_low 3 = .ok (.iand, 1) := by decide +kernel
theorem dL_low_4 : decode cL_low 4 = .ok (.iload_n 1, 1) := by decide +kernel
theorem dL_low_5 : decode cL_low 5 = .ok (.irem, 1) := by decide +kernel
theorem dL_low_6 : decode cL_low 6 = .ok (.ireturn, 1) := by decide +kernel
theorem dL_begin_0 : decode cL_begin 0 = .ok (.aload_n 0, 1) := by decide +kernel
theorem dL_begin_1 : decode cL_begin 1 = .ok (.iload_n 1, 1) := by decide +kernel
theorem dL_begin_2 : decode cL_begin 2 = .ok (.iload_n 2, 1) := by decide +kernel
theorem dL_begin_3 : decode cL_begin 3 = .ok (.iload_n 3, 1) := by decide +kernel
theorem dL_begin_4 : decode cL_begin 4 = .ok (.invokevirtual 9, 3) := by decide +kernel
theorem dL_begin_7 : decode cL_begin 7 = .ok (.ireturn, 1) := by decide +kernel
theorem dL_begin_8 : decode cL_begin 8 = .ok (.astore 4, 2) := by decide +kernel
theorem dL_begin_10 : decode cL_begin 10 = .ok (.ldc 17, 2) := by decide +kernel
theorem dL_begin_12 : decode cL_begin 12 = .ok (.ireturn, 1) := by decide +kernel
theorem dL_setPolicy_0 : decode cL_setPolicy 0 = .ok (.aload_n 0, 1) := by decide +kernel
theorem dL_setPolicy_1 : decode cL_setPolicy 1 = .ok (.iload_n 1, 1) := by decide +kernel
theorem dL_setPolicy_2 : decode cL_setPolicy 2 = .ok (.invokevirtual 18, 3) := by decide +kernel
theorem dL_setPolicy_5 : decode cL_setPolicy 5 = .ok (.ireturn, 1) := by decide +kernel
theorem dL_setPolicy_6 : decode cL_setPolicy 6 = .ok (.astore_n 2, 1) := by decide +kernel
theorem dL_setPolicy_7 : decode cL_setPolicy 7 = .ok (.ldc 17, 2) := by decide +kernel
theorem dL_setPolicy_9 : decode cL_setPolicy 9 = .ok (.ireturn, 1) := by decide +kernel
theorem dL_seed_0 : decode cL_seed 0 = .ok (.aload_n 0, 1) := by decide +kernel
theorem dL_seed_1 : decode cL_seed 1 = .ok (.iload_n 1, 1) := by decide +kernel
theorem dL_seed_2 : decode cL_seed 2 = .ok (.invokevirtual 22, 3) := by decide +kernel
theorem dL_seed_5 : decode cL_seed 5 = .ok (.ireturn, 1) := by decide +kernel
theorem dL_seed_6 : decode cL_seed 6 = .ok (.astore_n 2, 1) := by decide +kernel
theorem dL_seed_7 : decode cL_seed 7 = .ok (.ldc 17, 2) := by decide +kernel
theorem dL_seed_9 : decode cL_seed 9 = .ok (.ireturn, 1) := by decide +kernel
theorem dL_append_0 : decode cL_append 0 = .ok (.aload_n 0, 1) := by decide +kernel
theorem dL_append_1 : decode cL_append 1 = .ok (.iload_n 1, 1) := by decide +kernel
theorem dL_append_2 : decode cL_append 2 = .ok (.invokevirtual 25, 3) := by decide +kernel
theorem dL_append_5 : decode cL_append 5 = .ok (.ireturn, 1) := by decide +kernel
theorem dL_append_6 : decode cL_append 6 = .ok (.astore_n 2, 1) := by decide +kernel
theorem dL_append_7 : decode cL_append 7 = .ok (.ldc 17, 2) := by decide +kernel
theorem dL_append_9 : decode cL_append 9 = .ok (.ireturn, 1) := by decide +kernel
theorem dL_append_10 : decode cL_append 10 = .ok (.astore_n 2, 1) := by decide +kernel
theorem dL_append_11 : decode cL_append 11 = .ok (.ldc 30, 2) := by decide +kernel
theorem dL_append_13 : decode cL_append 13 = .ok (.ireturn, 1) := by decide +kernel
theorem dL_load_0 : decode cL_load 0 = .ok (.aload_n 0, 1) := by decide +kernel
theorem dL_load_1 : decode cL_load 1 = .ok (.iload_n 1, 1) := by decide +kernel
theorem dL_load_2 : decode cL_load 2 = .ok (.invokevirtual 31, 3) := by decide +kernel
theorem dL_load_5 : decode cL_load 5 = .ok (.ireturn, 1) := by decide +kernel
theorem dL_load_6 : decode cL_load 6 = .ok (.astore_n 2, 1) := by decide +kernel
theorem dL_load_7 : decode cL_load 7 = .ok (.ldc 36, 2) := by decide +kernel
theorem dL_load_9 : decode cL_load 9 = .ok (.ireturn, 1) := by decide +kernel
theorem dL_load_10 : decode cL_load 10 = .ok (.astore_n 2, 1) := by decide +kernel
theorem dL_load_11 : decode cL_load 11 = .ok (.ldc 30, 2) := by decide +kernel
theorem dL_load_13 : decode cL_load 13 = .ok (.ireturn, 1) := by decide +kernel
theorem dL_again_0 : decode cL_again 0 = .ok (.aload_n 0, 1) := by decide +kernel
theorem dL_again_1 : decode cL_again 1 = .ok (.iload_n 1, 1) := by decide +kernel
theorem dL_again_2 : decode cL_again 2 = .ok (.invokevirtual 37, 3) := by decide +kernel
theorem dL_again_5 : decode cL_again 5 = .ok (.ireturn, 1) := by decide +kernel
theorem dL_again_6 : decode cL_again 6 = .ok (.astore_n 2, 1) := by decide +kernel
theorem dL_again_7 : decode cL_again 7 = .ok (.ldc 36, 2) := by decide +kernel
theorem dL_again_9 : decode cL_again 9 = .ok (.ireturn, 1) := by decide +kernel
theorem dL_again_10 : decode cL_again 10 = .ok (.astore_n 2, 1) := by decide +kernel
theorem dL_again_11 : decode cL_again 11 = .ok (.ldc 30, 2) := by decide +kernel
theorem dL_again_13 : decode cL_again 13 = .ok (.ireturn, 1) := by decide +kernel
theorem dL_step_0 : decode cL_step 0 = .ok (.aload_n 0, 1) := by decide +kernel
theorem dL_step_1 : decode cL_step 1 = .ok (.iload_n 1, 1) := by decide +kernel
theorem dL_step_2 : decode cL_step 2 = .ok (.invokevirtual 40, 3) := by decide +kernel
theorem dL_step_5 : decode cL_step 5 = .ok (.ireturn, 1) := by decide +kernel
theorem dL_step_6 : decode cL_step 6 = .ok (.astore_n 2, 1) := by decide +kernel
theorem dL_step_7 : decode cL_step 7 = .ok (.ldc 36, 2) := by decide +kernel
theorem dL_step_9 : decode cL_step 9 = .ok (.ireturn, 1) := by decide +kernel
theorem dL_step_10 : decode cL_step 10 = .ok (.astore_n 2, 1) := by decide +kernel
theorem dL_step_11 : decode cL_step 11 = .ok (.ldc 30, 2) := by decide +kernel
theorem dL_step_13 : decode cL_step 13 = .ok (.ireturn, 1) := by decide +kernel
theorem dL_run_0 : decode cL_run 0 = .ok (.aload_n 0, 1) := by decide +kernel
theorem dL_run_1 : decode cL_run 1 = .ok (.iload_n 1, 1) := by decide +kernel
theorem dL_run_2 : decode cL_run 2 = .ok (.invokevirtual 43, 3) := by decide +kernel
theorem dL_run_5 : decode cL_run 5 = .ok (.ireturn, 1) := by decide +kernel
theorem dL_run_6 : decode cL_run 6 = .ok (.astore_n 2, 1) := by decide +kernel
theorem dL_run_7 : decode cL_run 7 = .ok (.ldc 17, 2) := by decide +kernel
theorem dL_run_9 : decode cL_run 9 = .ok (.ireturn, 1) := by decide +kernel
theorem dL_poke_0 : decode cL_poke 0 = .ok (.aload_n 0, 1) := by decide +kernel
theorem dL_poke_1 : decode cL_poke 1 = .ok (.iload_n 1, 1) := by decide +kernel
theorem dL_poke_2 : decode cL_poke 2 = .ok (.iload_n 2, 1) := by decide +kernel
theorem dL_poke_3 : decode cL_poke 3 = .ok (.invokevirtual 46, 3) := by decide +kernel
theorem dL_poke_6 : decode cL_poke 6 = .ok (.ireturn, 1) := by decide +kernel
theorem dL_poke_7 : decode cL_poke 7 = .ok (.astore_n 3, 1) := by decide +kernel
theorem dL_poke_8 : decode cL_poke 8 = .ok (.ldc 36, 2) := by decide +kernel
theorem dL_poke_10 : decode cL_poke 10 = .ok (.ireturn, 1) := by decide +kernel
theorem dL_state_0 : decode cL_state 0 = .ok (.aload_n 0, 1) := by decide +kernel
theorem dL_state_1 : decode cL_state 1 = .ok (.iload_n 1, 1) := by decide +kernel
theorem dL_state_2 : decode cL_state 2 = .ok (.iload_n 2, 1) := by decide +kernel
theorem dL_state_3 : decode cL_state 3 = .ok (.invokevirtual 50, 3) := by decide +kernel
theorem dL_state_6 : decode cL_state 6 = .ok (.ireturn, 1) := by decide +kernel
theorem dL_state_7 : decode cL_state 7 = .ok (.astore_n 3, 1) := by decide +kernel
theorem dL_state_8 : decode cL_state 8 = .ok (.ldc 36, 2) := by decide +kernel
theorem dL_state_10 : decode cL_state 10 = .ok (.ireturn, 1) := by decide +kernel
theorem dL_cached_0 : decode cL_cached 0 = .ok (.aload_n 0, 1) := by decide +kernel
theorem dL_cached_1 : decode cL_cached 1 = .ok (.iload_n 1, 1) := by decide +kernel
theorem dL_cached_2 : decode cL_cached 2 = .ok (.iload_n 2, 1) := by decide +kernel
theorem dL_cached_3 : decode cL_cached 3 = .ok (.invokevirtual 53, 3) := by decide +kernel
theorem dL_cached_6 : decode cL_cached 6 = .ok (.ireturn, 1) := by decide +kernel
theorem dL_cached_7 : decode cL_cached 7 = .ok (.astore_n 3, 1) := by decide +kernel
theorem dL_cached_8 : decode cL_cached 8 = .ok (.ldc 36, 2) := by decide +kernel
theorem dL_cached_10 : decode cL_cached 10 = .ok (.ireturn, 1) := by decide +kernel
theorem dL_memory_0 : decode cL_memory 0 = .ok (.aload_n 0, 1) := by decide +kernel
theorem dL_memory_1 : decode cL_memory 1 = .ok (.iload_n 1, 1) := by decide +kernel
theorem dL_memory_2 : decode cL_memory 2 = .ok (.iload_n 2, 1) := by decide +kernel
theorem dL_memory_3 : decode cL_memory 3 = .ok (.invokevirtual 56, 3) := by decide +kernel
theorem dL_memory_6 : decode cL_memory 6 = .ok (.ireturn, 1) := by decide +kernel
theorem dL_memory_7 : decode cL_memory 7 = .ok (.astore_n 3, 1) := by decide +kernel
theorem dL_memory_8 : decode cL_memory 8 = .ok (.ldc 36, 2) := by decide +kernel
theorem dL_memory_10 : decode cL_memory 10 = .ok (.ireturn, 1) := by decide +kernel
theorem dL_set_0 : decode cL_set 0 = .ok (.aload_n 0, 1) := by decide +kernel
theorem dL_set_1 : decode cL_set 1 = .ok (.iload_n 1, 1) := by decide +kernel
theorem dL_set_2 : decode cL_set 2 = .ok (.iload_n 2, 1) := by decide +kernel
theorem dL_set_3 : decode cL_set 3 = .ok (.invokevirtual 60, 3) := by decide +kernel
theorem dL_set_6 : decode cL_set 6 = .ok (.ireturn, 1) := by decide +kernel
theorem dL_set_7 : decode cL_set 7 = .ok (.astore_n 3, 1) := by decide +kernel
theorem dL_set_8 : decode cL_set 8 = .ok (.ldc 36, 2) := by decide +kernel
theorem dL_set_10 : decode cL_set 10 = .ok (.ireturn, 1) := by decide +kernel
theorem dL_core_0 : decode cL_core 0 = .ok (.aload_n 0, 1) := by decide +kernel
theorem dL_core_1 : decode cL_core 1 = .ok (.iload_n 1, 1) := by decide +kernel
theorem dL_core_2 : decode cL_core 2 = .ok (.iload_n 2, 1) := by decide +kernel
theorem dL_core_3 : decode cL_core 3 = .ok (.invokevirtual 63, 3) := by decide +kernel
theorem dL_core_6 : decode cL_core 6 = .ok (.ireturn, 1) := by decide +kernel
theorem dL_core_7 : decode cL_core 7 = .ok (.astore_n 3, 1) := by decide +kernel
theorem dL_core_8 : decode cL_core 8 = .ok (.ldc 36, 2) := by decide +kernel
theorem dL_core_10 : decode cL_core 10 = .ok (.ireturn, 1) := by decide +kernel
theorem dL_core_11 : decode cL_core 11 = .ok (.astore_n 3, 1) := by decide +kernel
theorem dL_core_12 : decode cL_core 12 = .ok (.ldc 17, 2) := by decide +kernel
theorem dL_core_14 : decode cL_core 14 = .ok (.ireturn, 1) := by decide +kernel
theorem dL_value_0 : decode cL_value 0 = .ok (.aload_n 0, 1) := by decide +kernel
theorem dL_value_1 : decode cL_value 1 = .ok (.iload_n 1, 1) := by decide +kernel
theorem dL_value_2 : decode cL_value 2 = .ok (.invokevirtual 66, 3) := by decide +kernel
theorem dL_value_5 : decode cL_value 5 = .ok (.ireturn, 1) := by decide +kernel
theorem dL_value_6 : decode cL_value 6 = .ok (.astore_n 2, 1) := by decide +kernel
theorem dL_value_7 : decode cL_value 7 = .ok (.ldc 17, 2) := by decide +kernel
theorem dL_value_9 : decode cL_value 9 = .ok (.ireturn, 1) := by decide +kernel
theorem dL_counter_0 : decode cL_counter 0 = .ok (.aload_n 0, 1) := by decide +kernel
theorem dL_counter_1 : decode cL_counter 1 = .ok (.iload_n 1, 1) := by decide +kernel
theorem dL_counter_2 : decode cL_counter 2 = .ok (.invokevirtual 69, 3) := by decide +kernel
theorem dL_counter_5 : decode cL_counter 5 = .ok (.ireturn, 1) := by decide +kernel
theorem dL_counter_6 : decode cL_counter 6 = .ok (.astore_n 2, 1) := by decide +kernel
theorem dL_counter_7 : decode cL_counter 7 = .ok (.ldc 17, 2) := by decide +kernel
theorem dL_counter_9 : decode cL_counter 9 = .ok (.ireturn, 1) := by decide +kernel
theorem dL_commit_0 : decode cL_commit 0 = .ok (.aload_n 0, 1) := by decide +kernel
theorem dL_commit_1 : decode cL_commit 1 = .ok (.iload_n 1, 1) := by decide +kernel
theorem dL_commit_2 : decode cL_commit 2 = .ok (.iload_n 2, 1) := by decide +kernel
theorem dL_commit_3 : decode cL_commit 3 = .ok (.invokevirtual 72, 3) := by decide +kernel
theorem dL_commit_6 : decode cL_commit 6 = .ok (.ireturn, 1) := by decide +kernel
theorem dL_commit_7 : decode cL_commit 7 = .ok (.astore_n 3, 1) := by decide +kernel
theorem dL_commit_8 : decode cL_commit 8 = .ok (.ldc 36, 2) := by decide +kernel
theorem dL_commit_10 : decode cL_commit 10 = .ok (.ireturn, 1) := by decide +kernel
theorem dL_commit_11 : decode cL_commit 11 = .ok (.astore_n 3, 1) := by decide +kernel
theorem dL_commit_12 : decode cL_commit 12 = .ok (.ldc 17, 2) := by decide +kernel
theorem dL_commit_14 : decode cL_commit 14 = .ok (.ireturn, 1) := by decide +kernel
theorem dL_commitValue_0 : decode cL_commitValue 0 = .ok (.aload_n 0, 1) := by decide +kernel
theorem dL_commitValue_1 : decode cL_commitValue 1 = .ok (.iload_n 1, 1) := by decide +kernel
theorem dL_commitValue_2 : decode cL_commitValue 2 = .ok (.iload_n 2, 1) := by decide +kernel
theorem dL_commitValue_3 : decode cL_commitValue 3 = .ok (.iload_n 3, 1) := by decide +kernel
theorem dL_commitValue_4 : decode cL_commitValue 4 = .ok (.invokevirtual 75, 3) := by decide +kernel
theorem dL_commitValue_7 : decode cL_commitValue 7 = .ok (.ireturn, 1) := by decide +kernel
theorem dL_commitValue_8 : decode cL_commitValue 8 = .ok (.astore 4, 2) := by decide +kernel
theorem dL_commitValue_10 : decode cL_commitValue 10 = .ok (.ldc 36, 2) := by decide +kernel
theorem dL_commitValue_12 : decode cL_commitValue 12 = .ok (.ireturn, 1) := by decide +kernel
theorem dL_finish_0 : decode cL_finish 0 = .ok (.aload_n 0, 1) := by decide +kernel
theorem dL_finish_1 : decode cL_finish 1 = .ok (.iload_n 1, 1) := by decide +kernel
theorem dL_finish_2 : decode cL_finish 2 = .ok (.invokevirtual 79, 3) := by decide +kernel
theorem dL_finish_5 : decode cL_finish 5 = .ok (.ireturn, 1) := by decide +kernel
theorem dL_finish_6 : decode cL_finish 6 = .ok (.astore_n 2, 1) := by decide +kernel
theorem dL_finish_7 : decode cL_finish 7 = .ok (.ldc 17, 2) := by decide +kernel
theorem dL_finish_9 : decode cL_finish 9 = .ok (.ireturn, 1) := by decide +kernel
theorem dL_abortsWith_0 : decode cL_abortsWith 0 = .ok (.aload_n 0, 1) := by decide +kernel
theorem dL_abortsWith_1 : decode cL_abortsWith 1 = .ok (.iload_n 1, 1) := by decide +kernel
theorem dL_abortsWith_2 : decode cL_abortsWith 2 = .ok (.iload_n 2, 1) := by decide +kernel
theorem dL_abortsWith_3 : decode cL_abortsWith 3 = .ok (.invokevirtual 82, 3) := by decide +kernel
theorem dL_abortsWith_6 : decode cL_abortsWith 6 = .ok (.ireturn, 1) := by decide +kernel
theorem dL_abortsWith_7 : decode cL_abortsWith 7 = .ok (.astore_n 3, 1) := by decide +kernel
theorem dL_abortsWith_8 : decode cL_abortsWith 8 = .ok (.ldc 17, 2) := by decide +kernel
theorem dL_abortsWith_10 : decode cL_abortsWith 10 = .ok (.ireturn, 1) := by decide +kernel
theorem dL_undo_0 : decode cL_undo 0 = .ok (.aload_n 0, 1) := by decide +kernel
theorem dL_undo_1 : decode cL_undo 1 = .ok (.invokevirtual 85, 3) := by decide +kernel
theorem dL_undo_4 : decode cL_undo 4 = .ok (.ireturn, 1) := by decide +kernel
theorem dL_undo_5 : decode cL_undo 5 = .ok (.astore_n 1, 1) := by decide +kernel
theorem dL_undo_6 : decode cL_undo 6 = .ok (.ldc 30, 2) := by decide +kernel
theorem dL_undo_8 : decode cL_undo 8 = .ok (.ireturn, 1) := by decide +kernel
theorem dL_types_0 : decode cL_types 0 = .ok (.iload_n 1, 1) := by decide +kernel
theorem dL_types_1 : decode cL_types 1 = .ok (.bipush 10, 2) := by decide +kernel
theorem dL_types_3 : decode cL_types 3 = .ok (.invokestatic 89, 3) := by decide +kernel
theorem dL_types_6 : decode cL_types 6 = .ok (.istore_n 3, 1) := by decide +kernel
theorem dL_types_7 : decode cL_types 7 = .ok (.iconst 0, 1) := by decide +kernel
theorem dL_types_8 : decode cL_types 8 = .ok (.istore 4, 2) := by decide +kernel
theorem dL_types_10 : decode cL_types 10 = .ok (.iload_n 3, 1) := by decide +kernel
theorem dL_types_11 : decode cL_types 11 = .ok (.iconst 2, 1) := by decide +kernel
theorem dL_types_12 : decode cL_types 12 = .ok (.if_icmp .ge 23, 3) := by decide +kernel
theorem dL_types_15 : decode cL_types 15 = .ok (.aload_n 0, 1) := by decide +kernel
theorem dL_types_16 : decode cL_types 16 = .ok (.iload_n 3, 1) := by decide +kernel
theorem dL_types_17 : decode cL_types 17 = .ok (.ifCond .ne 8, 3) := by decide +kernel
theorem dL_types_20 : decode cL_types 20 = .ok (.bipush 98, 2) := by decide +kernel
theorem dL_types_22 : decode cL_types 22 = .ok (.goto 5, 3) := by decide +kernel
theorem dL_types_25 : decode cL_types 25 = .ok (.bipush 99, 2) := by decide +kernel
theorem dL_types_27 : decode cL_types 27 = .ok (.invokestatic 94, 3) := by decide +kernel
theorem dL_types_30 : decode cL_types 30 = .ok (.istore 4, 2) := by decide +kernel
theorem dL_types_32 : decode cL_types 32 = .ok (.goto 131, 3) := by decide +kernel
theorem dL_types_35 : decode cL_types 35 = .ok (.iload_n 3, 1) := by decide +kernel
theorem dL_types_36 : decode cL_types 36 = .ok (.bipush 8, 2) := by decide +kernel
theorem dL_types_38 : decode cL_types 38 = .ok (.if_icmp .ge 41, 3) := by decide +kernel
theorem dL_types_41 : decode cL_types 41 = .ok (.aload_n 0, 1) := by decide +kernel
theorem dL_types_42 : decode cL_types 42 = .ok (.iload_n 3, 1) := by decide +kernel
theorem dL_types_43 : decode cL_types 43 = .ok (.iconst 5, 1) := by decide +kernel
theorem dL_types_44 : decode cL_types 44 = .ok (.if_icmp .ge 8, 3) := by decide +kernel
theorem dL_types_47 : decode cL_types 47 = .ok (.bipush 114, 2) := by decide +kernel
theorem dL_types_49 : decode cL_types 49 = .ok (.goto 5, 3) := by decide +kernel
theorem dL_types_52 : decode cL_types 52 = .ok (.bipush 119, 2) := by decide +kernel
theorem dL_types_54 : decode cL_types 54 = .ok (.invokestatic 94, 3) := by decide +kernel
theorem dL_types_57 : decode cL_types 57 = .ok (.iconst 0, 1) := by decide +kernel
theorem dL_types_58 : decode cL_types 58 = .ok (.aload_n 0, 1) := by decide +kernel
theorem dL_types_59 : decode cL_types 59 = .ok (.bipush 48, 2) := by decide +kernel
theorem dL_types_61 : decode cL_types 61 = .ok (.iload_n 1, 1) := by decide +kernel
theorem dL_types_62 : decode cL_types 62 = .ok (.iconst 4, 1) := by decide +kernel
theorem dL_types_63 : decode cL_types 63 = .ok (.ishr, 1) := by decide +kernel
theorem dL_types_64 : decode cL_types 64 = .ok (.iload_n 2, 1) := by decide +kernel
theorem dL_types_65 : decode cL_types 65 = .ok (.invokestatic 89, 3) := by decide +kernel
theorem dL_types_68 : decode cL_types 68 = .ok (.iadd, 1) := by decide +kernel
theorem dL_types_69 : decode cL_types 69 = .ok (.invokestatic 94, 3) := by decide +kernel
theorem dL_types_72 : decode cL_types 72 = .ok (.imul, 1) := by decide +kernel
theorem dL_types_73 : decode cL_types 73 = .ok (.iadd, 1) := by decide +kernel
theorem dL_types_74 : decode cL_types 74 = .ok (.istore 4, 2) := by decide +kernel
theorem dL_types_76 : decode cL_types 76 = .ok (.goto 87, 3) := by decide +kernel
theorem dL_types_79 : decode cL_types 79 = .ok (.iload_n 1, 1) := by decide +kernel
theorem dL_types_80 : decode cL_types 80 = .ok (.iconst 4, 1) := by decide +kernel
theorem dL_types_81 : decode cL_types 81 = .ok (.ishr, 1) := by decide +kernel
theorem dL_types_82 : decode cL_types 82 = .ok (.bipush 41, 2) := by decide +kernel
theorem dL_types_84 : decode cL_types 84 = .ok (.invokestatic 89, 3) := by decide +kernel
theorem dL_types_87 : decode cL_types 87 = .ok (.bipush 20, 2) := by decide +kernel
theorem dL_types_89 : decode cL_types 89 = .ok (.isub, 1) := by decide +kernel
theorem dL_types_90 : decode cL_types 90 = .ok (.istore 5, 2) := by decide +kernel
theorem dL_types_92 : decode cL_types 92 = .ok (.aload_n 0, 1) := by decide +kernel
theorem dL_types_93 : decode cL_types 93 = .ok (.bipush 97, 2) := by decide +kernel
theorem dL_types_95 : decode cL_types 95 = .ok (.invokestatic 94, 3) := by decide +kernel
theorem dL_types_98 : decode cL_types 98 = .ok (.istore 4, 2) := by decide +kernel
theorem dL_types_100 : decode cL_types 100 = .ok (.iload 5, 2) := by decide +kernel
theorem dL_types_102 : decode cL_types 102 = .ok (.ifCond .ge 11, 3) := by decide +kernel
theorem dL_types_105 : decode cL_types 105 = .ok (.aload_n 0, 1) := by decide +kernel
theorem dL_types_106 : decode cL_types 106 = .ok (.bipush 45, 2) := by decide +kernel
theorem dL_types_108 : decode cL_types 108 = .ok (.invokestatic 94, 3) := by decide +kernel
theorem dL_types_111 : decode cL_types 111 = .ok (.istore 4, 2) := by decide +kernel
theorem dL_types_113 : decode cL_types 113 = .ok (.iload 5, 2) := by decide +kernel
theorem dL_types_115 : decode cL_types 115 = .ok (.ifCond .ge 9, 3) := by decide +kernel
theorem dL_types_118 : decode cL_types 118 = .ok (.iload 5, 2) := by decide +kernel
theorem dL_types_120 : decode cL_types 120 = .ok (.ineg, 1) := by decide +kernel
theorem dL_types_121 : decode cL_types 121 = .ok (.goto 5, 3) := by decide +kernel
theorem dL_types_124 : decode cL_types 124 = .ok (.iload 5, 2) := by decide +kernel
theorem dL_types_126 : decode cL_types 126 = .ok (.istore 6, 2) := by decide +kernel
theorem dL_types_128 : decode cL_types 128 = .ok (.iload 6, 2) := by decide +kernel
theorem dL_types_130 : decode cL_types 130 = .ok (.bipush 9, 2) := by decide +kernel
theorem dL_types_132 : decode cL_types 132 = .ok (.if_icmp .le 17, 3) := by decide +kernel
theorem dL_types_135 : decode cL_types 135 = .ok (.aload_n 0, 1) := by decide +kernel
theorem dL_types_136 : decode cL_types 136 = .ok (.bipush 48, 2) := by decide +kernel
theorem dL_types_138 : decode cL_types 138 = .ok (.iload 6, 2) := by decide +kernel
theorem dL_types_140 : decode cL_types 140 = .ok (.bipush 10, 2) := by decide +kernel
theorem dL_types_142 : decode cL_types 142 = .ok (.idiv, 1) := by decide +kernel
theorem dL_types_143 : decode cL_types 143 = .ok (.iadd, 1) := by decide +kernel
theorem dL_types_144 : decode cL_types 144 = .ok (.invokestatic 94, 3) := by decide +kernel
theorem dL_types_147 : decode cL_types 147 = .ok (.istore 4, 2) := by decide +kernel
theorem dL_types_149 : decode cL_types 149 = .ok (.aload_n 0, 1) := by decide +kernel
theorem dL_types_150 : decode cL_types 150 = .ok (.bipush 48, 2) := by decide +kernel
theorem dL_types_152 : decode cL_types 152 = .ok (.iload 6, 2) := by decide +kernel
theorem dL_types_154 : decode cL_types 154 = .ok (.bipush 10, 2) := by decide +kernel
theorem dL_types_156 : decode cL_types 156 = .ok (.irem, 1) := by decide +kernel
theorem dL_types_157 : decode cL_types 157 = .ok (.iadd, 1) := by decide +kernel
theorem dL_types_158 : decode cL_types 158 = .ok (.invokestatic 94, 3) := by decide +kernel
theorem dL_types_161 : decode cL_types 161 = .ok (.istore 4, 2) := by decide +kernel
theorem dL_types_163 : decode cL_types 163 = .ok (.iload 4, 2) := by decide +kernel
theorem dL_types_165 : decode cL_types 165 = .ok (.ifCond .le 12, 3) := by decide +kernel
theorem dL_types_168 : decode cL_types 168 = .ok (.aload_n 0, 1) := by decide +kernel
theorem dL_types_169 : decode cL_types 169 = .ok (.bipush 59, 2) := by decide +kernel
theorem dL_types_171 : decode cL_types 171 = .ok (.invokestatic 94, 3) := by decide +kernel
theorem dL_types_174 : decode cL_types 174 = .ok (.goto 4, 3) := by decide +kernel
theorem dL_types_177 : decode cL_types 177 = .ok (.iconst (-1), 1) := by decide +kernel
theorem dL_types_178 : decode cL_types 178 = .ok (.ireturn, 1) := by decide +kernel
theorem dL_size_0 : decode cL_size 0 = .ok (.iconst 0, 1) := by decide +kernel
theorem dL_size_1 : decode cL_size 1 = .ok (.istore_n 1, 1) := by decide +kernel
theorem dL_size_2 : decode cL_size 2 = .ok (.iload_n 0, 1) := by decide +kernel
theorem dL_size_3 : decode cL_size 3 = .ok (.istore_n 2, 1) := by decide +kernel
theorem dL_size_4 : decode cL_size 4 = .ok (.iload_n 2, 1) := by decide +kernel
theorem dL_size_5 : decode cL_size 5 = .ok (.ifCond .eq 15, 3) := by decide +kernel
theorem dL_size_8 : decode cL_size 8 = .ok (.iinc 1 1, 3) := by decide +kernel
theorem dL_size_11 : decode cL_size 11 = .ok (.iload_n 2, 1) := by decide +kernel
theorem dL_size_12 : decode cL_size 12 = .ok (.iload_n 2, 1) := by decide +kernel
theorem dL_size_13 : decode cL_size 13 = .ok (.iconst 1, 1) := by decide +kernel
theorem dL_size_14 : decode cL_size 14 = .ok (.isub, 1) := by decide +kernel
theorem dL_size_15 : decode cL_size 15 = .ok (.iand, 1) := by decide +kernel
theorem dL_size_16 : decode cL_size 16 = .ok (.istore_n 2, 1) := by decide +kernel
theorem dL_size_17 : decode cL_size 17 = .ok (.goto (-13), 3) := by decide +kernel
theorem dL_size_20 : decode cL_size 20 = .ok (.iload_n 1, 1) := by decide +kernel
theorem dL_size_21 : decode cL_size 21 = .ok (.ireturn, 1) := by decide +kernel
theorem dL_lines_0 : decode cL_lines 0 = .ok (.aload_n 0, 1) := by decide +kernel
theorem dL_lines_1 : decode cL_lines 1 = .ok (.iconst 0, 1) := by decide +kernel
theorem dL_lines_2 : decode cL_lines 2 = .ok (.invokestatic 97, 3) := by decide +kernel
theorem dL_lines_5 : decode cL_lines 5 = .ok (.istore_n 1, 1) := by decide +kernel
theorem dL_lines_6 : decode cL_lines 6 = .ok (.iconst 0, 1) := by decide +kernel
theorem dL_lines_7 : decode cL_lines 7 = .ok (.istore_n 2, 1) := by decide +kernel
theorem dL_lines_8 : decode cL_lines 8 = .ok (.iload_n 2, 1) := by decide +kernel
theorem dL_lines_9 : decode cL_lines 9 = .ok (.bipush 8, 2) := by decide +kernel
theorem dL_lines_11 : decode cL_lines 11 = .ok (.if_icmp .ge 287, 3) := by decide +kernel
theorem dL_lines_14 : decode cL_lines 14 = .ok (.iconst 0, 1) := by decide +kernel
theorem dL_lines_15 : decode cL_lines 15 = .ok (.istore_n 3, 1) := by decide +kernel
theorem dL_lines_16 : decode cL_lines 16 = .ok (.iconst 0, 1) := by decide +kernel
theorem dL_lines_17 : decode cL_lines 17 = .ok (.istore 4, 2) := by decide +kernel
theorem dL_lines_19 : decode cL_lines 19 = .ok (.iconst 0, 1) := by decide +kernel
theorem dL_lines_20 : decode cL_lines 20 = .ok (.istore 5, 2) := by decide +kernel
theorem dL_lines_22 : decode cL_lines 22 = .ok (.iconst 0, 1) := by decide +kernel
theorem dL_lines_23 : decode cL_lines 23 = .ok (.istore 6, 2) := by decide +kernel
theorem dL_lines_25 : decode cL_lines 25 = .ok (.aload_n 0, 1) := by decide +kernel
theorem dL_lines_26 : decode cL_lines 26 = .ok (.iload_n 2, 1) := by decide +kernel
theorem dL_lines_27 : decode cL_lines 27 = .ok (.iconst 0, 1) := by decide +kernel
theorem dL_lines_28 : decode cL_lines 28 = .ok (.invokestatic 99, 3) := by decide +kernel
theorem dL_lines_31 : decode cL_lines 31 = .ok (.istore 7, 2) := by decide +kernel
theorem dL_lines_33 : decode cL_lines 33 = .ok (.iconst 1, 1) := by decide +kernel
theorem dL_lines_34 : decode cL_lines 34 = .ok (.istore 8, 2) := by decide +kernel
theorem dL_lines_36 : decode cL_lines 36 = .ok (.iconst 0, 1) := by decide +kernel
theorem dL_lines_37 : decode cL_lines 37 = .ok (.istore 9, 2) := by decide +kernel
theorem dL_lines_39 : decode cL_lines 39 = .ok (.iload 9, 2) := by decide +kernel
theorem dL_lines_41 : decode cL_lines 41 = .ok (.iload_n 1, 1) := by decide +kernel
theorem dL_lines_42 : decode cL_lines 42 = .ok (.if_icmp .ge 200, 3) := by decide +kernel
theorem dL_lines_45 : decode cL_lines 45 = .ok (.aload_n 0, 1) := by decide +kernel
theorem dL_lines_46 : decode cL_lines 46 = .ok (.iload 9, 2) := by decide +kernel
theorem dL_lines_48 : decode cL_lines 48 = .ok (.iload_n 2, 1) := by decide +kernel
theorem dL_lines_49 : decode cL_lines 49 = .ok (.invokestatic 102, 3) := by decide +kernel
theorem dL_lines_52 : decode cL_lines 52 = .ok (.istore 10, 2) := by decide +kernel
theorem dL_lines_54 : decode cL_lines 54 = .ok (.aload_n 0, 1) := by decide +kernel
theorem dL_lines_55 : decode cL_lines 55 = .ok (.iload 9, 2) := by decide +kernel
theorem dL_lines_57 : decode cL_lines 57 = .ok (.iconst 1, 1) := by decide +kernel
theorem dL_lines_58 : decode cL_lines 58 = .ok (.invokestatic 105, 3) := by decide +kernel
theorem dL_lines_61 : decode cL_lines 61 = .ok (.iload_n 2, 1) := by decide +kernel
theorem dL_lines_62 : decode cL_lines 62 = .ok (.ishr, 1) := by decide +kernel
theorem dL_lines_63 : decode cL_lines 63 = .ok (.iconst 1, 1) := by decide +kernel
theorem dL_lines_64 : decode cL_lines 64 = .ok (.iand, 1) := by decide +kernel
theorem dL_lines_65 : decode cL_lines 65 = .ok (.iconst 1, 1) := by decide +kernel
theorem dL_lines_66 : decode cL_lines 66 = .ok (.if_icmp .ne 7, 3) := by decide +kernel
theorem dL_lines_69 : decode cL_lines 69 = .ok (.iconst 1, 1) := by decide +kernel
theorem dL_lines_70 : decode cL_lines 70 = .ok (.goto 4, 3) := by decide +kernel
theorem dL_lines_73 : decode cL_lines 73 = .ok (.iconst 0, 1) := by decide +kernel
theorem dL_lines_74 : decode cL_lines 74 = .ok (.istore 11, 2) := by decide +kernel
theorem dL_lines_76 : decode cL_lines 76 = .ok (.iload_n 3, 1) := by decide +kernel
theorem dL_lines_77 : decode cL_lines 77 = .ok (.iload 10, 2) := by decide +kernel
theorem dL_lines_79 : decode cL_lines 79 = .ok (.iconst 2, 1) := by decide +kernel
theorem dL_lines_80 : decode cL_lines 80 = .ok (.if_icmp .ne 7, 3) := by decide +kernel
theorem dL_lines_83 : decode cL_lines 83 = .ok (.iconst 1, 1) := by decide +kernel
theorem dL_lines_84 : decode cL_lines 84 = .ok (.goto 4, 3) := by decide +kernel
theorem dL_lines_87 : decode cL_lines 87 = .ok (.iconst 0, 1) := by decide +kernel
theorem dL_lines_88 : decode cL_lines 88 = .ok (.iadd, 1) := by decide +kernel
theorem dL_lines_89 : decode cL_lines 89 = .ok (.istore_n 3, 1) := by decide +kernel
theorem dL_lines_90 : decode cL_lines 90 = .ok (.iload 4, 2) := by decide +kernel
theorem dL_lines_92 : decode cL_lines 92 = .ok (.iload 10, 2) := by decide +kernel
theorem dL_lines_94 : decode cL_lines 94 = .ok (.iconst 1, 1) := by decide +kernel
theorem dL_lines_95 : decode cL_lines 95 = .ok (.if_icmp .ne 7, 3) := by decide +kernel
theorem dL_lines_98 : decode cL_lines 98 = .ok (.iconst 1, 1) := by decide +kernel
theorem dL_lines_99 : decode cL_lines 99 = .ok (.goto 4, 3) := by decide +kernel
theorem dL_lines_102 : decode cL_lines 102 = .ok (.iconst 0, 1) := by decide +kernel
theorem dL_lines_103 : decode cL_lines 103 = .ok (.iadd, 1) := by decide +kernel
theorem dL_lines_104 : decode cL_lines 104 = .ok (.istore 4, 2) := by decide +kernel
theorem dL_lines_106 : decode cL_lines 106 = .ok (.iload 5, 2) := by decide +kernel
theorem dL_lines_108 : decode cL_lines 108 = .ok (.iload 11, 2) := by decide +kernel
theorem dL_lines_110 : decode cL_lines 110 = .ok (.ifCond .eq 7, 3) := by decide +kernel
theorem dL_lines_113 : decode cL_lines 113 = .ok (.iconst 1, 1) := by decide +kernel
theorem dL_lines_114 : decode cL_lines 114 = .ok (.goto 4, 3) := by decide +kernel
theorem dL_lines_117 : decode cL_lines 117 = .ok (.iconst 0, 1) := by decide +kernel
theorem dL_lines_118 : decode cL_lines 118 = .ok (.iadd, 1) := by decide +kernel
theorem dL_lines_119 : decode cL_lines 119 = .ok (.istore 5, 2) := by decide +kernel
theorem dL_lines_121 : decode cL_lines 121 = .ok (.iload 6, 2) := by decide +kernel
theorem dL_lines_123 : decode cL_lines 123 = .ok (.aload_n 0, 1) := by decide +kernel
theorem dL_lines_124 : decode cL_lines 124 = .ok (.iload 9, 2) := by decide +kernel
theorem dL_lines_126 : decode cL_lines 126 = .ok (.iconst 0, 1) := by decide +kernel
theorem dL_lines_127 : decode cL_lines 127 = .ok (.invokestatic 105, 3) := by decide +kernel
theorem dL_lines_130 : decode cL_lines 130 = .ok (.iload_n 2, 1) := by decide +kernel
theorem dL_lines_131 : decode cL_lines 131 = .ok (.ishr, 1) := by decide +kernel
theorem dL_lines_132 : decode cL_lines 132 = .ok (.iconst 1, 1) := by decide +kernel
theorem dL_lines_133 : decode cL_lines 133 = .ok (.iand, 1) := by decide +kernel
theorem dL_lines_134 : decode cL_lines 134 = .ok (.iconst 1, 1) := by decide +kernel
theorem dL_lines_135 : decode cL_lines 135 = .ok (.if_icmp .ne 12, 3) := by decide +kernel
theorem dL_lines_138 : decode cL_lines 138 = .ok (.iload 11, 2) := by decide +kernel
theorem dL_lines_140 : decode cL_lines 140 = .ok (.ifCond .ne 7, 3) := by decide +kernel
theorem dL_lines_143 : decode cL_lines 143 = .ok (.iconst 1, 1) := by decide +kernel
theorem dL_lines_144 : decode cL_lines 144 = .ok (.goto 4, 3) := by decide +kernel
theorem dL_lines_147 : decode cL_lines 147 = .ok (.iconst 0, 1) := by decide +kernel
theorem dL_lines_148 : decode cL_lines 148 = .ok (.iadd, 1) := by decide +kernel
theorem dL_lines_149 : decode cL_lines 149 = .ok (.istore 6, 2) := by decide +kernel
theorem dL_lines_151 : decode cL_lines 151 = .ok (.iload 8, 2) := by decide +kernel
theorem dL_lines_153 : decode cL_lines 153 = .ok (.ifCond .eq 55, 3) := by decide +kernel
theorem dL_lines_156 : decode cL_lines 156 = .ok (.iload 10, 2) := by decide +kernel
theorem dL_lines_158 : decode cL_lines 158 = .ok (.iconst 1, 1) := by decide +kernel
theorem dL_lines_159 : decode cL_lines 159 = .ok (.if_icmp .ne 19, 3) := by decide +kernel
theorem dL_lines_162 : decode cL_lines 162 = .ok (.aload_n 0, 1) := by decide +kernel
theorem dL_lines_163 : decode cL_lines 163 = .ok (.iload 9, 2) := by decide +kernel
theorem dL_lines_165 : decode cL_lines 165 = .ok (.iload_n 2, 1) := by decide +kernel
theorem dL_lines_166 : decode cL_lines 166 = .ok (.invokestatic 107, 3) := by decide +kernel
theorem dL_lines_169 : decode cL_lines 169 = .ok (.aload_n 0, 1) := by decide +kernel
theorem dL_lines_170 : decode cL_lines 170 = .ok (.iload_n 2, 1) := by decide +kernel
theorem dL_lines_171 : decode cL_lines 171 = .ok (.iconst 0, 1) := by decide +kernel
theorem dL_lines_172 : decode cL_lines 172 = .ok (.invokestatic 99, 3) := by decide +kernel
theorem dL_lines_175 : decode cL_lines 175 = .ok (.if_icmp .ne 33, 3) := by decide +kernel
theorem dL_lines_178 : decode cL_lines 178 = .ok (.iload 10, 2) := by decide +kernel
theorem dL_lines_180 : decode cL_lines 180 = .ok (.ifCond .ne 13, 3) := by decide +kernel
theorem dL_lines_183 : decode cL_lines 183 = .ok (.aload_n 0, 1) := by decide +kernel
theorem dL_lines_184 : decode cL_lines 184 = .ok (.iload 9, 2) := by decide +kernel
theorem dL_lines_186 : decode cL_lines 186 = .ok (.iload_n 2, 1) := by decide +kernel
theorem dL_lines_187 : decode cL_lines 187 = .ok (.invokestatic 107, 3) := by decide +kernel
theorem dL_lines_190 : decode cL_lines 190 = .ok (.ifCond .ne 18, 3) := by decide +kernel
theorem dL_lines_193 : decode cL_lines 193 = .ok (.iload 11, 2) := by decide +kernel
theorem dL_lines_195 : decode cL_lines 195 = .ok (.ifCond .eq 9, 3) := by decide +kernel
theorem dL_lines_198 : decode cL_lines 198 = .ok (.iload 10, 2) := by decide +kernel
theorem dL_lines_200 : decode cL_lines 200 = .ok (.iconst 2, 1) := by decide +kernel
theorem dL_lines_201 : decode cL_lines 201 = .ok (.if_icmp .ne 7, 3) := by decide +kernel
theorem dL_lines_204 : decode cL_lines 204 = .ok (.iconst 1, 1) := by decide +kernel
theorem dL_lines_205 : decode cL_lines 205 = .ok (.goto 4, 3) := by decide +kernel
theorem dL_lines_208 : decode cL_lines 208 = .ok (.iconst 0, 1) := by decide +kernel
theorem dL_lines_209 : decode cL_lines 209 = .ok (.istore 8, 2) := by decide +kernel
theorem dL_lines_211 : decode cL_lines 211 = .ok (.iload 10, 2) := by decide +kernel
theorem dL_lines_213 : decode cL_lines 213 = .ok (.iconst 2, 1) := by decide +kernel
theorem dL_lines_214 : decode cL_lines 214 = .ok (.if_icmp .ne 18, 3) := by decide +kernel
theorem dL_lines_217 : decode cL_lines 217 = .ok (.iload 11, 2) := by decide +kernel
theorem dL_lines_219 : decode cL_lines 219 = .ok (.ifCond .ne 13, 3) := by decide +kernel
theorem dL_lines_222 : decode cL_lines 222 = .ok (.aload_n 0, 1) := by decide +kernel
theorem dL_lines_223 : decode cL_lines 223 = .ok (.iload 9, 2) := by decide +kernel
theorem dL_lines_225 : decode cL_lines 225 = .ok (.iload_n 2, 1) := by decide +kernel
theorem dL_lines_226 : decode cL_lines 226 = .ok (.invokestatic 107, 3) := by decide +kernel
theorem dL_lines_229 : decode cL_lines 229 = .ok (.goto 5, 3) := by decide +kernel
theorem dL_lines_232 : decode cL_lines 232 = .ok (.iload 7, 2) := by decide +kernel
theorem dL_lines_234 : decode cL_lines 234 = .ok (.istore 7, 2) := by decide +kernel
theorem dL_lines_236 : decode cL_lines 236 = .ok (.iinc 9 1, 3) := by decide +kernel
theorem dL_lines_239 : decode cL_lines 239 = .ok (.goto (-200), 3) := by decide +kernel
theorem dL_lines_242 : decode cL_lines 242 = .ok (.iload 8, 2) := by decide +kernel
theorem dL_lines_244 : decode cL_lines 244 = .ok (.ifCond .eq 46, 3) := by decide +kernel
theorem dL_lines_247 : decode cL_lines 247 = .ok (.iload_n 3, 1) := by decide +kernel
theorem dL_lines_248 : decode cL_lines 248 = .ok (.iconst 1, 1) := by decide +kernel
theorem dL_lines_249 : decode cL_lines 249 = .ok (.if_icmp .gt 41, 3) := by decide +kernel
theorem dL_lines_252 : decode cL_lines 252 = .ok (.iload_n 3, 1) := by decide +kernel
theorem dL_lines_253 : decode cL_lines 253 = .ok (.iconst 1, 1) := by decide +kernel
theorem dL_lines_254 : decode cL_lines 254 = .ok (.if_icmp .ne 8, 3) := by decide +kernel
theorem dL_lines_257 : decode cL_lines 257 = .ok (.iload 4, 2) := by decide +kernel
theorem dL_lines_259 : decode cL_lines 259 = .ok (.ifCond .gt 31, 3) := by decide +kernel
theorem dL_lines_262 : decode cL_lines 262 = .ok (.iload 5, 2) := by decide +kernel
theorem dL_lines_264 : decode cL_lines 264 = .ok (.iconst 1, 1) := by decide +kernel
theorem dL_lines_265 : decode cL_lines 265 = .ok (.if_icmp .gt 25, 3) := by decide +kernel
theorem dL_lines_268 : decode cL_lines 268 = .ok (.iload 5, 2) := by decide +kernel
theorem dL_lines_270 : decode cL_lines 270 = .ok (.iconst 1, 1) := by decide +kernel
theorem dL_lines_271 : decode cL_lines 271 = .ok (.if_icmp .ne 8, 3) := by decide +kernel
theorem dL_lines_274 : decode cL_lines 274 = .ok (.iload 6, 2) := by decide +kernel
theorem dL_lines_276 : decode cL_lines 276 = .ok (.ifCond .gt 14, 3) := by decide +kernel
theorem dL_lines_279 : decode cL_lines 279 = .ok (.aload_n 0, 1) := by decide +kernel
theorem dL_lines_280 : decode cL_lines 280 = .ok (.iload_n 2, 1) := by decide +kernel
theorem dL_lines_281 : decode cL_lines 281 = .ok (.iconst 1, 1) := by decide +kernel
theorem dL_lines_282 : decode cL_lines 282 = .ok (.invokestatic 99, 3) := by decide +kernel
theorem dL_lines_285 : decode cL_lines 285 = .ok (.iload 7, 2) := by decide +kernel
theorem dL_lines_287 : decode cL_lines 287 = .ok (.if_icmp .eq 5, 3) := by decide +kernel
theorem dL_lines_290 : decode cL_lines 290 = .ok (.iconst 0, 1) := by decide +kernel
theorem dL_lines_291 : decode cL_lines 291 = .ok (.ireturn, 1) := by decide +kernel
theorem dL_lines_292 : decode cL_lines 292 = .ok (.iinc 2 1, 3) := by decide +kernel
theorem dL_lines_295 : decode cL_lines 295 = .ok (.goto (-287), 3) := by decide +kernel
theorem dL_lines_298 : decode cL_lines 298 = .ok (.iconst 0, 1) := by decide +kernel
theorem dL_lines_299 : decode cL_lines 299 = .ok (.istore_n 2, 1) := by decide +kernel
theorem dL_lines_300 : decode cL_lines 300 = .ok (.iconst 0, 1) := by decide +kernel
theorem dL_lines_301 : decode cL_lines 301 = .ok (.istore_n 3, 1) := by decide +kernel
theorem dL_lines_302 : decode cL_lines 302 = .ok (.iconst 0, 1) := by decide +kernel
theorem dL_lines_303 : decode cL_lines 303 = .ok (.istore 4, 2) := by decide +kernel
theorem dL_lines_305 : decode cL_lines 305 = .ok (.iconst 0, 1) := by decide +kernel
theorem dL_lines_306 : decode cL_lines 306 = .ok (.istore 5, 2) := by decide +kernel
theorem dL_lines_308 : decode cL_lines 308 = .ok (.iload 5, 2) := by decide +kernel
theorem dL_lines_310 : decode cL_lines 310 = .ok (.iload_n 1, 1) := by decide +kernel
theorem dL_lines_311 : decode cL_lines 311 = .ok (.if_icmp .ge 148, 3) := by decide +kernel
theorem dL_lines_314 : decode cL_lines 314 = .ok (.aload_n 0, 1) := by decide +kernel
theorem dL_lines_315 : decode cL_lines 315 = .ok (.iload 5, 2) := by decide +kernel
theorem dL_lines_317 : decode cL_lines 317 = .ok (.iconst 3, 1) := by decide +kernel
theorem dL_lines_318 : decode cL_lines 318 = .ok (.invokestatic 109, 3) := by decide +kernel
theorem dL_lines_321 : decode cL_lines 321 = .ok (.ifCond .lt 7, 3) := by decide +kernel
theorem dL_lines_324 : decode cL_lines 324 = .ok (.iconst 1, 1) := by decide +kernel
theorem dL_lines_325 : decode cL_lines 325 = .ok (.goto 4, 3) := by decide +kernel
theorem dL_lines_328 : decode cL_lines 328 = .ok (.iconst 0, 1) := by decide +kernel
theorem dL_lines_329 : decode cL_lines 329 = .ok (.istore 6, 2) := by decide +kernel
theorem dL_lines_331 : decode cL_lines 331 = .ok (.iload_n 2, 1) := by decide +kernel
theorem dL_lines_332 : decode cL_lines 332 = .ok (.aload_n 0, 1) := by decide +kernel
theorem dL_lines_333 : decode cL_lines 333 = .ok (.iload 5, 2) := by decide +kernel
theorem dL_lines_335 : decode cL_lines 335 = .ok (.iconst 5, 1) := by decide +kernel
theorem dL_lines_336 : decode cL_lines 336 = .ok (.invokestatic 109, 3) := by decide +kernel
theorem dL_lines_339 : decode cL_lines 339 = .ok (.iadd, 1) := by decide +kernel
theorem dL_lines_340 : decode cL_lines 340 = .ok (.istore_n 2, 1) := by decide +kernel
theorem dL_lines_341 : decode cL_lines 341 = .ok (.iload_n 3, 1) := by decide +kernel
theorem dL_lines_342 : decode cL_lines 342 = .ok (.aload_n 0, 1) := by decide +kernel
theorem dL_lines_343 : decode cL_lines 343 = .ok (.iload 5, 2) := by decide +kernel
theorem dL_lines_345 : decode cL_lines 345 = .ok (.iconst 4, 1) := by decide +kernel
theorem dL_lines_346 : decode cL_lines 346 = .ok (.invokestatic 109, 3) := by decide +kernel
theorem dL_lines_349 : decode cL_lines 349 = .ok (.iadd, 1) := by decide +kernel
theorem dL_lines_350 : decode cL_lines 350 = .ok (.istore_n 3, 1) := by decide +kernel
theorem dL_lines_351 : decode cL_lines 351 = .ok (.iload 4, 2) := by decide +kernel
theorem dL_lines_353 : decode cL_lines 353 = .ok (.aload_n 0, 1) := by decide +kernel
theorem dL_lines_354 : decode cL_lines 354 = .ok (.iload 5, 2) := by decide +kernel
theorem dL_lines_356 : decode cL_lines 356 = .ok (.iconst 1, 1) := by decide +kernel
theorem dL_lines_357 : decode cL_lines 357 = .ok (.invokestatic 109, 3) := by decide +kernel
theorem dL_lines_360 : decode cL_lines 360 = .ok (.aload_n 0, 1) := by decide +kernel
theorem dL_lines_361 : decode cL_lines 361 = .ok (.iload 5, 2) := by decide +kernel
theorem dL_lines_363 : decode cL_lines 363 = .ok (.iconst 2, 1) := by decide +kernel
theorem dL_lines_364 : decode cL_lines 364 = .ok (.invokestatic 109, 3) := by decide +kernel
theorem dL_lines_367 : decode cL_lines 367 = .ok (.if_icmp .ne 7, 3) := by decide +kernel
theorem dL_lines_370 : decode cL_lines 370 = .ok (.iconst 1, 1) := by decide +kernel
theorem dL_lines_371 : decode cL_lines 371 = .ok (.goto 4, 3) := by decide +kernel
theorem dL_lines_374 : decode cL_lines 374 = .ok (.iconst 0, 1) := by decide +kernel
theorem dL_lines_375 : decode cL_lines 375 = .ok (.iadd, 1) := by decide +kernel
theorem dL_lines_376 : decode cL_lines 376 = .ok (.istore 4, 2) := by decide +kernel
theorem dL_lines_378 : decode cL_lines 378 = .ok (.iload 6, 2) := by decide +kernel
theorem dL_lines_380 : decode cL_lines 380 = .ok (.ifCond .ne 21, 3) := by decide +kernel
theorem dL_lines_383 : decode cL_lines 383 = .ok (.aload_n 0, 1) := by decide +kernel
theorem dL_lines_384 : decode cL_lines 384 = .ok (.iload 5, 2) := by decide +kernel
theorem dL_lines_386 : decode cL_lines 386 = .ok (.iconst 1, 1) := by decide +kernel
theorem dL_lines_387 : decode cL_lines 387 = .ok (.invokestatic 105, 3) := by decide +kernel
theorem dL_lines_390 : decode cL_lines 390 = .ok (.aload_n 0, 1) := by decide +kernel
theorem dL_lines_391 : decode cL_lines 391 = .ok (.iload 5, 2) := by decide +kernel
theorem dL_lines_393 : decode cL_lines 393 = .ok (.iconst 0, 1) := by decide +kernel
theorem dL_lines_394 : decode cL_lines 394 = .ok (.invokestatic 105, 3) := by decide +kernel
theorem dL_lines_397 : decode cL_lines 397 = .ok (.iadd, 1) := by decide +kernel
theorem dL_lines_398 : decode cL_lines 398 = .ok (.ifCond .ne 53, 3) := by decide +kernel
theorem dL_lines_401 : decode cL_lines 401 = .ok (.aload_n 0, 1) := by decide +kernel
theorem dL_lines_402 : decode cL_lines 402 = .ok (.iload 5, 2) := by decide +kernel
theorem dL_lines_404 : decode cL_lines 404 = .ok (.iconst 1, 1) := by decide +kernel
theorem dL_lines_405 : decode cL_lines 405 = .ok (.invokestatic 105, 3) := by decide +kernel
theorem dL_lines_408 : decode cL_lines 408 = .ok (.invokestatic 111, 3) := by decide +kernel
theorem dL_lines_411 : decode cL_lines 411 = .ok (.aload_n 0, 1) := by decide +kernel
theorem dL_lines_412 : decode cL_lines 412 = .ok (.iconst 2, 1) := by decide +kernel
theorem dL_lines_413 : decode cL_lines 413 = .ok (.invokestatic 97, 3) := by decide +kernel
theorem dL_lines_416 : decode cL_lines 416 = .ok (.if_icmp .gt 35, 3) := by decide +kernel
theorem dL_lines_419 : decode cL_lines 419 = .ok (.aload_n 0, 1) := by decide +kernel
theorem dL_lines_420 : decode cL_lines 420 = .ok (.iload 5, 2) := by decide +kernel
theorem dL_lines_422 : decode cL_lines 422 = .ok (.iconst 3, 1) := by decide +kernel
theorem dL_lines_423 : decode cL_lines 423 = .ok (.invokestatic 109, 3) := by decide +kernel
theorem dL_lines_426 : decode cL_lines 426 = .ok (.aload_n 0, 1) := by decide +kernel
theorem dL_lines_427 : decode cL_lines 427 = .ok (.iconst 4, 1) := by decide +kernel
theorem dL_lines_428 : decode cL_lines 428 = .ok (.invokestatic 97, 3) := by decide +kernel
theorem dL_lines_431 : decode cL_lines 431 = .ok (.if_icmp .ge 20, 3) := by decide +kernel
theorem dL_lines_434 : decode cL_lines 434 = .ok (.aload_n 0, 1) := by decide +kernel
theorem dL_lines_435 : decode cL_lines 435 = .ok (.iload 5, 2) := by decide +kernel
theorem dL_lines_437 : decode cL_lines 437 = .ok (.iconst 1, 1) := by decide +kernel
theorem dL_lines_438 : decode cL_lines 438 = .ok (.invokestatic 109, 3) := by decide +kernel
theorem dL_lines_441 : decode cL_lines 441 = .ok (.aload_n 0, 1) := by decide +kernel
theorem dL_lines_442 : decode cL_lines 442 = .ok (.iload 5, 2) := by decide +kernel
theorem dL_lines_444 : decode cL_lines 444 = .ok (.iconst 2, 1) := by decide +kernel
theorem dL_lines_445 : decode cL_lines 445 = .ok (.invokestatic 109, 3) := by decide +kernel
theorem dL_lines_448 : decode cL_lines 448 = .ok (.if_icmp .le 5, 3) := by decide +kernel
theorem dL_lines_451 : decode cL_lines 451 = .ok (.iconst 0, 1) := by decide +kernel
theorem dL_lines_452 : decode cL_lines 452 = .ok (.ireturn, 1) := by decide +kernel
theorem dL_lines_453 : decode cL_lines 453 = .ok (.iinc 5 1, 3) := by decide +kernel
theorem dL_lines_456 : decode cL_lines 456 = .ok (.goto (-148), 3) := by decide +kernel
theorem dL_lines_459 : decode cL_lines 459 = .ok (.aload_n 0, 1) := by decide +kernel
theorem dL_lines_460 : decode cL_lines 460 = .ok (.iconst 5, 1) := by decide +kernel
theorem dL_lines_461 : decode cL_lines 461 = .ok (.invokestatic 114, 3) := by decide +kernel
theorem dL_lines_464 : decode cL_lines 464 = .ok (.aload_n 0, 1) := by decide +kernel
theorem dL_lines_465 : decode cL_lines 465 = .ok (.bipush 6, 2) := by decide +kernel
theorem dL_lines_467 : decode cL_lines 467 = .ok (.invokestatic 114, 3) := by decide +kernel
theorem dL_lines_470 : decode cL_lines 470 = .ok (.iadd, 1) := by decide +kernel
theorem dL_lines_471 : decode cL_lines 471 = .ok (.iload_n 2, 1) := by decide +kernel
theorem dL_lines_472 : decode cL_lines 472 = .ok (.if_icmp .ne 32, 3) := by decide +kernel
theorem dL_lines_475 : decode cL_lines 475 = .ok (.iload 4, 2) := by decide +kernel
theorem dL_lines_477 : decode cL_lines 477 = .ok (.aload_n 0, 1) := by decide +kernel
theorem dL_lines_478 : decode cL_lines 478 = .ok (.iconst 3, 1) := by decide +kernel
theorem dL_lines_479 : decode cL_lines 479 = .ok (.invokestatic 97, 3) := by decide +kernel
theorem dL_lines_482 : decode cL_lines 482 = .ok (.if_icmp .ne 22, 3) := by decide +kernel
theorem dL_lines_485 : decode cL_lines 485 = .ok (.aload_n 0, 1) := by decide +kernel
theorem dL_lines_486 : decode cL_lines 486 = .ok (.invokestatic 116, 3) := by decide +kernel
theorem dL_lines_489 : decode cL_lines 489 = .ok (.iload_n 3, 1) := by decide +kernel
theorem dL_lines_490 : decode cL_lines 490 = .ok (.if_icmp .gt 14, 3) := by decide +kernel
theorem dL_lines_493 : decode cL_lines 493 = .ok (.aload_n 0, 1) := by decide +kernel
theorem dL_lines_494 : decode cL_lines 494 = .ok (.invokestatic 116, 3) := by decide +kernel
theorem dL_lines_497 : decode cL_lines 497 = .ok (.ifCond .lt 7, 3) := by decide +kernel
theorem dL_lines_500 : decode cL_lines 500 = .ok (.iconst 1, 1) := by decide +kernel
theorem dL_lines_501 : decode cL_lines 501 = .ok (.goto 4, 3) := by decide +kernel
theorem dL_lines_504 : decode cL_lines 504 = .ok (.iconst 0, 1) := by decide +kernel
theorem dL_lines_505 : decode cL_lines 505 = .ok (.ireturn, 1) := by decide +kernel
theorem dL_logs_0 : decode cL_logs 0 = .ok (.bipush 8, 2) := by decide +kernel
theorem dL_logs_2 : decode cL_logs 2 = .ok (.newarray .int, 2) := by decide +kernel
theorem dL_logs_4 : decode cL_logs 4 = .ok (.astore_n 1, 1) := by decide +kernel
theorem dL_logs_5 : decode cL_logs 5 = .ok (.lconst 0, 1) := by decide +kernel
theorem dL_logs_6 : decode cL_logs 6 = .ok (.lstore_n 2, 1) := by decide +kernel
theorem dL_logs_7 : decode cL_logs 7 = .ok (.iconst 0, 1) := by decide +kernel
theorem dL_logs_8 : decode cL_logs 8 = .ok (.istore 4, 2) := by decide +kernel
theorem dL_logs_10 : decode cL_logs 10 = .ok (.iconst 0, 1) := by decide +kernel
theorem dL_logs_11 : decode cL_logs 11 = .ok (.istore 5, 2) := by decide +kernel
theorem dL_logs_13 : decode cL_logs 13 = .ok (.iload 5, 2) := by decide +kernel
theorem dL_logs_15 : decode cL_logs 15 = .ok (.aload_n 0, 1) := by decide +kernel
theorem dL_logs_16 : decode cL_logs 16 = .ok (.invokevirtual 120, 3) := by decide +kernel
theorem dL_logs_19 : decode cL_logs 19 = .ok (.if_icmp .ge 254, 3) := by decide +kernel
theorem dL_logs_22 : decode cL_logs 22 = .ok (.aload_n 0, 1) := by decide +kernel
theorem dL_logs_23 : decode cL_logs 23 = .ok (.iload 5, 2) := by decide +kernel
theorem dL_logs_25 : decode cL_logs 25 = .ok (.iconst 1, 1) := by decide +kernel
theorem dL_logs_26 : decode cL_logs 26 = .ok (.invokestatic 123, 3) := by decide +kernel
theorem dL_logs_29 : decode cL_logs 29 = .ok (.istore 6, 2) := by decide +kernel
theorem dL_logs_31 : decode cL_logs 31 = .ok (.aload_n 0, 1) := by decide +kernel
theorem dL_logs_32 : decode cL_logs 32 = .ok (.iload 5, 2) := by decide +kernel
theorem dL_logs_34 : decode cL_logs 34 = .ok (.iconst 2, 1) := by decide +kernel
theorem dL_logs_35 : decode cL_logs 35 = .ok (.invokestatic 123, 3) := by decide +kernel
theorem dL_logs_38 : decode cL_logs 38 = .ok (.istore 7, 2) := by decide +kernel
theorem dL_logs_40 : decode cL_logs 40 = .ok (.aload_n 0, 1) := by decide +kernel
theorem dL_logs_41 : decode cL_logs 41 = .ok (.iload 5, 2) := by decide +kernel
theorem dL_logs_43 : decode cL_logs 43 = .ok (.iconst 3, 1) := by decide +kernel
theorem dL_logs_44 : decode cL_logs 44 = .ok (.invokestatic 123, 3) := by decide +kernel
theorem dL_logs_47 : decode cL_logs 47 = .ok (.istore 8, 2) := by decide +kernel
theorem dL_logs_49 : decode cL_logs 49 = .ok (.iconst 0, 1) := by decide +kernel
theorem dL_logs_50 : decode cL_logs 50 = .ok (.istore 9, 2) := by decide +kernel
theorem dL_logs_52 : decode cL_logs 52 = .ok (.iload 9, 2) := by decide +kernel
theorem dL_logs_54 : decode cL_logs 54 = .ok (.bipush 8, 2) := by decide +kernel
theorem dL_logs_56 : decode cL_logs 56 = .ok (.if_icmp .ge 89, 3) := by decide +kernel
theorem dL_logs_59 : decode cL_logs 59 = .ok (.iload 7, 2) := by decide +kernel
theorem dL_logs_61 : decode cL_logs 61 = .ok (.iload 9, 2) := by decide +kernel
theorem dL_logs_63 : decode cL_logs 63 = .ok (.ishr, 1) := by decide +kernel
theorem dL_logs_64 : decode cL_logs 64 = .ok (.iconst 1, 1) := by decide +kernel
theorem dL_logs_65 : decode cL_logs 65 = .ok (.iand, 1) := by decide +kernel
theorem dL_logs_66 : decode cL_logs 66 = .ok (.iconst 1, 1) := by decide +kernel
theorem dL_logs_67 : decode cL_logs 67 = .ok (.if_icmp .ne 7, 3) := by decide +kernel
theorem dL_logs_70 : decode cL_logs 70 = .ok (.iconst 1, 1) := by decide +kernel
theorem dL_logs_71 : decode cL_logs 71 = .ok (.goto 4, 3) := by decide +kernel
theorem dL_logs_74 : decode cL_logs 74 = .ok (.iconst 0, 1) := by decide +kernel
theorem dL_logs_75 : decode cL_logs 75 = .ok (.istore 10, 2) := by decide +kernel
theorem dL_logs_77 : decode cL_logs 77 = .ok (.iload 8, 2) := by decide +kernel
theorem dL_logs_79 : decode cL_logs 79 = .ok (.iload 9, 2) := by decide +kernel
theorem dL_logs_81 : decode cL_logs 81 = .ok (.ishr, 1) := by decide +kernel
theorem dL_logs_82 : decode cL_logs 82 = .ok (.iconst 1, 1) := by decide +kernel
theorem dL_logs_83 : decode cL_logs 83 = .ok (.iand, 1) := by decide +kernel
theorem dL_logs_84 : decode cL_logs 84 = .ok (.iconst 1, 1) := by decide +kernel
theorem dL_logs_85 : decode cL_logs 85 = .ok (.if_icmp .ne 7, 3) := by decide +kernel
theorem dL_logs_88 : decode cL_logs 88 = .ok (.iconst 1, 1) := by decide +kernel
theorem dL_logs_89 : decode cL_logs 89 = .ok (.goto 4, 3) := by decide +kernel
theorem dL_logs_92 : decode cL_logs 92 = .ok (.iconst 0, 1) := by decide +kernel
theorem dL_logs_93 : decode cL_logs 93 = .ok (.istore 11, 2) := by decide +kernel
theorem dL_logs_95 : decode cL_logs 95 = .ok (.aload_n 0, 1) := by decide +kernel
theorem dL_logs_96 : decode cL_logs 96 = .ok (.iload 5, 2) := by decide +kernel
theorem dL_logs_98 : decode cL_logs 98 = .ok (.iload 9, 2) := by decide +kernel
theorem dL_logs_100 : decode cL_logs 100 = .ok (.iconst 0, 1) := by decide +kernel
theorem dL_logs_101 : decode cL_logs 101 = .ok (.invokestatic 125, 3) := by decide +kernel
theorem dL_logs_104 : decode cL_logs 104 = .ok (.iload 10, 2) := by decide +kernel
theorem dL_logs_106 : decode cL_logs 106 = .ok (.ifCond .eq 10, 3) := by decide +kernel
theorem dL_logs_109 : decode cL_logs 109 = .ok (.aload_n 1, 1) := by decide +kernel
theorem dL_logs_110 : decode cL_logs 110 = .ok (.iload 9, 2) := by decide +kernel
theorem dL_logs_112 : decode cL_logs 112 = .ok (.iaload, 1) := by decide +kernel
theorem dL_logs_113 : decode cL_logs 113 = .ok (.goto 4, 3) := by decide +kernel
theorem dL_logs_116 : decode cL_logs 116 = .ok (.iconst 0, 1) := by decide +kernel
theorem dL_logs_117 : decode cL_logs 117 = .ok (.if_icmp .ne 20, 3) := by decide +kernel
theorem dL_logs_120 : decode cL_logs 120 = .ok (.iload 11, 2) := by decide +kernel
theorem dL_logs_122 : decode cL_logs 122 = .ok (.ifCond .ne 17, 3) := by decide +kernel
theorem dL_logs_125 : decode cL_logs 125 = .ok (.aload_n 0, 1) := by decide +kernel
theorem dL_logs_126 : decode cL_logs 126 = .ok (.iload 5, 2) := by decide +kernel
theorem dL_logs_128 : decode cL_logs 128 = .ok (.iload 9, 2) := by decide +kernel
theorem dL_logs_130 : decode cL_logs 130 = .ok (.iconst 1, 1) := by decide +kernel
theorem dL_logs_131 : decode cL_logs 131 = .ok (.invokestatic 125, 3) := by decide +kernel
theorem dL_logs_134 : decode cL_logs 134 = .ok (.ifCond .eq 5, 3) := by decide +kernel
theorem dL_logs_137 : decode cL_logs 137 = .ok (.iconst (-1), 1) := by decide +kernel
theorem dL_logs_138 : decode cL_logs 138 = .ok (.ireturn, 1) := by decide +kernel
theorem dL_logs_139 : decode cL_logs 139 = .ok (.iinc 9 1, 3) := by decide +kernel
theorem dL_logs_142 : decode cL_logs 142 = .ok (.goto (-90), 3) := by decide +kernel
theorem dL_logs_145 : decode cL_logs 145 = .ok (.iconst 0, 1) := by decide +kernel
theorem dL_logs_146 : decode cL_logs 146 = .ok (.istore 9, 2) := by decide +kernel
theorem dL_logs_148 : decode cL_logs 148 = .ok (.iload 9, 2) := by decide +kernel
theorem dL_logs_150 : decode cL_logs 150 = .ok (.bipush 8, 2) := by decide +kernel
theorem dL_logs_152 : decode cL_logs 152 = .ok (.if_icmp .ge 40, 3) := by decide +kernel
theorem dL_logs_155 : decode cL_logs 155 = .ok (.aload_n 1, 1) := by decide +kernel
theorem dL_logs_156 : decode cL_logs 156 = .ok (.iload 9, 2) := by decide +kernel
theorem dL_logs_158 : decode cL_logs 158 = .ok (.iload 8, 2) := by decide +kernel
theorem dL_logs_160 : decode cL_logs 160 = .ok (.iload 9, 2) := by decide +kernel
theorem dL_logs_162 : decode cL_logs 162 = .ok (.ishr, 1) := by decide +kernel
theorem dL_logs_163 : decode cL_logs 163 = .ok (.iconst 1, 1) := by decide +kernel
theorem dL_logs_164 : decode cL_logs 164 = .ok (.iand, 1) := by decide +kernel
theorem dL_logs_165 : decode cL_logs 165 = .ok (.iconst 1, 1) := by decide +kernel
theorem dL_logs_166 : decode cL_logs 166 = .ok (.if_icmp .ne 15, 3) := by decide +kernel
theorem dL_logs_169 : decode cL_logs 169 = .ok (.aload_n 0, 1) := by decide +kernel
theorem dL_logs_170 : decode cL_logs 170 = .ok (.iload 5, 2) := by decide +kernel
theorem dL_logs_172 : decode cL_logs 172 = .ok (.iload 9, 2) := by decide +kernel
theorem dL_logs_174 : decode cL_logs 174 = .ok (.iconst 1, 1) := by decide +kernel
theorem dL_logs_175 : decode cL_logs 175 = .ok (.invokestatic 125, 3) := by decide +kernel
theorem dL_logs_178 : decode cL_logs 178 = .ok (.goto 7, 3) := by decide +kernel
theorem dL_logs_181 : decode cL_logs 181 = .ok (.aload_n 1, 1) := by decide +kernel
theorem dL_logs_182 : decode cL_logs 182 = .ok (.iload 9, 2) := by decide +kernel
theorem dL_logs_184 : decode cL_logs 184 = .ok (.iaload, 1) := by decide +kernel
theorem dL_logs_185 : decode cL_logs 185 = .ok (.iastore, 1) := by decide +kernel
theorem dL_logs_186 : decode cL_logs 186 = .ok (.iinc 9 1, 3) := by decide +kernel
theorem dL_logs_189 : decode cL_logs 189 = .ok (.goto (-41), 3) := by decide +kernel
theorem dL_logs_192 : decode cL_logs 192 = .ok (.iload 6, 2) := by decide +kernel
theorem dL_logs_194 : decode cL_logs 194 = .ok (.ifCond .lt 57, 3) := by decide +kernel
theorem dL_logs_197 : decode cL_logs 197 = .ok (.iinc 4 1, 3) := by decide +kernel
theorem dL_logs_200 : decode cL_logs 200 = .ok (.iload 6, 2) := by decide +kernel
theorem dL_logs_202 : decode cL_logs 202 = .ok (.aload_n 0, 1) := by decide +kernel
theorem dL_logs_203 : decode cL_logs 203 = .ok (.iconst 4, 1) := by decide +kernel
theorem dL_logs_204 : decode cL_logs 204 = .ok (.invokestatic 97, 3) := by decide +kernel
theorem dL_logs_207 : decode cL_logs 207 = .ok (.if_icmp .ge 21, 3) := by decide +kernel
theorem dL_logs_210 : decode cL_logs 210 = .ok (.iload 6, 2) := by decide +kernel
theorem dL_logs_212 : decode cL_logs 212 = .ok (.bipush 63, 2) := by decide +kernel
theorem dL_logs_214 : decode cL_logs 214 = .ok (.if_icmp .ge 16, 3) := by decide +kernel
theorem dL_logs_217 : decode cL_logs 217 = .ok (.lload_n 2, 1) := by decide +kernel
theorem dL_logs_218 : decode cL_logs 218 = .ok (.iload 6, 2) := by decide +kernel
theorem dL_logs_220 : decode cL_logs 220 = .ok (.lshr, 1) := by decide +kernel
theorem dL_logs_221 : decode cL_logs 221 = .ok (.lconst 1, 1) := by decide +kernel
theorem dL_logs_222 : decode cL_logs 222 = .ok (.land, 1) := by decide +kernel
theorem dL_logs_223 : decode cL_logs 223 = .ok (.lconst 1, 1) := by decide +kernel
theorem dL_logs_224 : decode cL_logs 224 = .ok (.lcmp, 1) := by decide +kernel
theorem dL_logs_225 : decode cL_logs 225 = .ok (.ifCond .ne 5, 3) := by decide +kernel
theorem dL_logs_228 : decode cL_logs 228 = .ok (.iconst (-1), 1) := by decide +kernel
theorem dL_logs_229 : decode cL_logs 229 = .ok (.ireturn, 1) := by decide +kernel
theorem dL_logs_230 : decode cL_logs 230 = .ok (.lload_n 2, 1) := by decide +kernel
theorem dL_logs_231 : decode cL_logs 231 = .ok (.iload 6, 2) := by decide +kernel
theorem dL_logs_233 : decode cL_logs 233 = .ok (.bipush 63, 2) := by decide +kernel
theorem dL_logs_235 : decode cL_logs 235 = .ok (.if_icmp .ge 10, 3) := by decide +kernel
theorem dL_logs_238 : decode cL_logs 238 = .ok (.lconst 1, 1) := by decide +kernel
theorem dL_logs_239 : decode cL_logs 239 = .ok (.iload 6, 2) := by decide +kernel
theorem dL_logs_241 : decode cL_logs 241 = .ok (.lshl, 1) := by decide +kernel
theorem dL_logs_242 : decode cL_logs 242 = .ok (.goto 4, 3) := by decide +kernel
theorem dL_logs_245 : decode cL_logs 245 = .ok (.lconst 0, 1) := by decide +kernel
theorem dL_logs_246 : decode cL_logs 246 = .ok (.lor, 1) := by decide +kernel
theorem dL_logs_247 : decode cL_logs 247 = .ok (.lstore_n 2, 1) := by decide +kernel
theorem dL_logs_248 : decode cL_logs 248 = .ok (.goto 19, 3) := by decide +kernel
theorem dL_logs_251 : decode cL_logs 251 = .ok (.iload 7, 2) := by decide +kernel
theorem dL_logs_253 : decode cL_logs 253 = .ok (.ifCond .ne 12, 3) := by decide +kernel
theorem dL_logs_256 : decode cL_logs 256 = .ok (.iload 8, 2) := by decide +kernel
theorem dL_logs_258 : decode cL_logs 258 = .ok (.invokestatic 111, 3) := by decide +kernel
theorem dL_logs_261 : decode cL_logs 261 = .ok (.iconst 1, 1) := by decide +kernel
theorem dL_logs_262 : decode cL_logs 262 = .ok (.if_icmp .eq 5, 3) := by decide +kernel
theorem dL_logs_265 : decode cL_logs 265 = .ok (.iconst (-1), 1) := by decide +kernel
theorem dL_logs_266 : decode cL_logs 266 = .ok (.ireturn, 1) := by decide +kernel
theorem dL_logs_267 : decode cL_logs 267 = .ok (.iinc 5 1, 3) := by decide +kernel
theorem dL_logs_270 : decode cL_logs 270 = .ok (.goto (-257), 3) := by decide +kernel
theorem dL_logs_273 : decode cL_logs 273 = .ok (.iconst 0, 1) := by decide +kernel
theorem dL_logs_274 : decode cL_logs 274 = .ok (.istore 5, 2) := by decide +kernel
theorem dL_logs_276 : decode cL_logs 276 = .ok (.iload 5, 2) := by decide +kernel
theorem dL_logs_278 : decode cL_logs 278 = .ok (.bipush 8, 2) := by decide +kernel
theorem dL_logs_280 : decode cL_logs 280 = .ok (.if_icmp .ge 25, 3) := by decide +kernel
theorem dL_logs_283 : decode cL_logs 283 = .ok (.aload_n 0, 1) := by decide +kernel
theorem dL_logs_284 : decode cL_logs 284 = .ok (.iload 5, 2) := by decide +kernel
theorem dL_logs_286 : decode cL_logs 286 = .ok (.iconst 1, 1) := by decide +kernel
theorem dL_logs_287 : decode cL_logs 287 = .ok (.invokestatic 99, 3) := by decide +kernel
theorem dL_logs_290 : decode cL_logs 290 = .ok (.aload_n 1, 1) := by decide +kernel
theorem dL_logs_291 : decode cL_logs 291 = .ok (.iload 5, 2) := by decide +kernel
theorem dL_logs_293 : decode cL_logs 293 = .ok (.iaload, 1) := by decide +kernel
theorem dL_logs_294 : decode cL_logs 294 = .ok (.if_icmp .eq 5, 3) := by decide +kernel
theorem dL_logs_297 : decode cL_logs 297 = .ok (.iconst (-1), 1) := by decide +kernel
theorem dL_logs_298 : decode cL_logs 298 = .ok (.ireturn, 1) := by decide +kernel
theorem dL_logs_299 : decode cL_logs 299 = .ok (.iinc 5 1, 3) := by decide +kernel
theorem dL_logs_302 : decode cL_logs 302 = .ok (.goto (-26), 3) := by decide +kernel
theorem dL_logs_305 : decode cL_logs 305 = .ok (.aload_n 0, 1) := by decide +kernel
theorem dL_logs_306 : decode cL_logs 306 = .ok (.invokevirtual 128, 3) := by decide +kernel
theorem dL_logs_309 : decode cL_logs 309 = .ok (.ifCond .eq 8, 3) := by decide +kernel
theorem dL_logs_312 : decode cL_logs 312 = .ok (.iload 4, 2) := by decide +kernel
theorem dL_logs_314 : decode cL_logs 314 = .ok (.goto 4, 3) := by decide +kernel
theorem dL_logs_317 : decode cL_logs 317 = .ok (.iconst (-1), 1) := by decide +kernel
theorem dL_logs_318 : decode cL_logs 318 = .ok (.ireturn, 1) := by decide +kernel
theorem dL_refuses_0 : decode cL_refuses 0 = .ok (.aload_n 0, 1) := by decide +kernel
theorem dL_refuses_1 : decode cL_refuses 1 = .ok (.invokevirtual 132, 3) := by decide +kernel
theorem dL_refuses_4 : decode cL_refuses 4 = .ok (.lstore_n 1, 1) := by decide +kernel
theorem dL_refuses_5 : decode cL_refuses 5 = .ok (.aload_n 0, 1) := by decide +kernel
theorem dL_refuses_6 : decode cL_refuses 6 = .ok (.iconst 1, 1) := by decide +kernel
theorem dL_refuses_7 : decode cL_refuses 7 = .ok (.iconst 0, 1) := by decide +kernel
theorem dL_refuses_8 : decode cL_refuses 8 = .ok (.iconst 4, 1) := by decide +kernel
theorem dL_refuses_9 : decode cL_refuses 9 = .ok (.invokestatic 136, 3) := by decide +kernel
theorem dL_refuses_12 : decode cL_refuses 12 = .ok (.ldc 17, 2) := by decide +kernel
theorem dL_refuses_14 : decode cL_refuses 14 = .ok (.if_icmp .ne 90, 3) := by decide +kernel
theorem dL_refuses_17 : decode cL_refuses 17 = .ok (.aload_n 0, 1) := by decide +kernel
theorem dL_refuses_18 : decode cL_refuses 18 = .ok (.iconst 2, 1) := by decide +kernel
theorem dL_refuses_19 : decode cL_refuses 19 = .ok (.iconst 3, 1) := by decide +kernel
theorem dL_refuses_20 : decode cL_refuses 20 = .ok (.iconst 4, 1) := by decide +kernel
theorem dL_refuses_21 : decode cL_refuses 21 = .ok (.invokestatic 136, 3) := by decide +kernel
theorem dL_refuses_24 : decode cL_refuses 24 = .ok (.ldc 17, 2) := by decide +kernel
theorem dL_refuses_26 : decode cL_refuses 26 = .ok (.if_icmp .ne 78, 3) := by decide +kernel
theorem dL_refuses_29 : decode cL_refuses 29 = .ok (.aload_n 0, 1) := by decide +kernel
theorem dL_refuses_30 : decode cL_refuses 30 = .ok (.iconst (-1), 1) := by decide +kernel
theorem dL_refuses_31 : decode cL_refuses 31 = .ok (.invokestatic 139, 3) := by decide +kernel
theorem dL_refuses_34 : decode cL_refuses 34 = .ok (.ldc 17, 2) := by decide +kernel
theorem dL_refuses_36 : decode cL_refuses 36 = .ok (.if_icmp .ne 68, 3) := by decide +kernel
theorem dL_refuses_39 : decode cL_refuses 39 = .ok (.aload_n 0, 1) := by decide +kernel
theorem dL_refuses_40 : decode cL_refuses 40 = .ok (.iconst (-1), 1) := by decide +kernel
theorem dL_refuses_41 : decode cL_refuses 41 = .ok (.invokestatic 141, 3) := by decide +kernel
theorem dL_refuses_44 : decode cL_refuses 44 = .ok (.ldc 17, 2) := by decide +kernel
theorem dL_refuses_46 : decode cL_refuses 46 = .ok (.if_icmp .ne 58, 3) := by decide +kernel
theorem dL_refuses_49 : decode cL_refuses 49 = .ok (.aload_n 0, 1) := by decide +kernel
theorem dL_refuses_50 : decode cL_refuses 50 = .ok (.iconst 4, 1) := by decide +kernel
theorem dL_refuses_51 : decode cL_refuses 51 = .ok (.invokestatic 143, 3) := by decide +kernel
theorem dL_refuses_54 : decode cL_refuses 54 = .ok (.ldc 36, 2) := by decide +kernel
theorem dL_refuses_56 : decode cL_refuses 56 = .ok (.if_icmp .ne 48, 3) := by decide +kernel
theorem dL_refuses_59 : decode cL_refuses 59 = .ok (.aload_n 0, 1) := by decide +kernel
theorem dL_refuses_60 : decode cL_refuses 60 = .ok (.iconst (-1), 1) := by decide +kernel
theorem dL_refuses_61 : decode cL_refuses 61 = .ok (.invokestatic 145, 3) := by decide +kernel
theorem dL_refuses_64 : decode cL_refuses 64 = .ok (.ldc 36, 2) := by decide +kernel
theorem dL_refuses_66 : decode cL_refuses 66 = .ok (.if_icmp .ne 38, 3) := by decide +kernel
theorem dL_refuses_69 : decode cL_refuses 69 = .ok (.aload_n 0, 1) := by decide +kernel
theorem dL_refuses_70 : decode cL_refuses 70 = .ok (.iconst 4, 1) := by decide +kernel
theorem dL_refuses_71 : decode cL_refuses 71 = .ok (.invokestatic 147, 3) := by decide +kernel
theorem dL_refuses_74 : decode cL_refuses 74 = .ok (.ldc 36, 2) := by decide +kernel
theorem dL_refuses_76 : decode cL_refuses 76 = .ok (.if_icmp .ne 28, 3) := by decide +kernel
theorem dL_refuses_79 : decode cL_refuses 79 = .ok (.aload_n 0, 1) := by decide +kernel
theorem dL_refuses_80 : decode cL_refuses 80 = .ok (.iconst (-1), 1) := by decide +kernel
theorem dL_refuses_81 : decode cL_refuses 81 = .ok (.invokestatic 149, 3) := by decide +kernel
theorem dL_refuses_84 : decode cL_refuses 84 = .ok (.ldc 17, 2) := by decide +kernel
theorem dL_refuses_86 : decode cL_refuses 86 = .ok (.if_icmp .ne 18, 3) := by decide +kernel
theorem dL_refuses_89 : decode cL_refuses 89 = .ok (.aload_n 0, 1) := by decide +kernel
theorem dL_refuses_90 : decode cL_refuses 90 = .ok (.iconst (-1), 1) := by decide +kernel
theorem dL_refuses_91 : decode cL_refuses 91 = .ok (.iconst 5, 1) := by decide +kernel
theorem dL_refuses_92 : decode cL_refuses 92 = .ok (.invokestatic 151, 3) := by decide +kernel
theorem dL_refuses_95 : decode cL_refuses 95 = .ok (.ldc 36, 2) := by decide +kernel
theorem dL_refuses_97 : decode cL_refuses 97 = .ok (.if_icmp .ne 7, 3) := by decide +kernel
theorem dL_refuses_100 : decode cL_refuses 100 = .ok (.iconst 1, 1) := by decide +kernel
theorem dL_refuses_101 : decode cL_refuses 101 = .ok (.goto 4, 3) := by decide +kernel
theorem dL_refuses_104 : decode cL_refuses 104 = .ok (.iconst 0, 1) := by decide +kernel
theorem dL_refuses_105 : decode cL_refuses 105 = .ok (.istore_n 3, 1) := by decide +kernel
theorem dL_refuses_106 : decode cL_refuses 106 = .ok (.iload_n 3, 1) := by decide +kernel
theorem dL_refuses_107 : decode cL_refuses 107 = .ok (.ifCond .eq 131, 3) := by decide +kernel
theorem dL_refuses_110 : decode cL_refuses 110 = .ok (.aload_n 0, 1) := by decide +kernel
theorem dL_refuses_111 : decode cL_refuses 111 = .ok (.iconst 4, 1) := by decide +kernel
theorem dL_refuses_112 : decode cL_refuses 112 = .ok (.iconst 0, 1) := by decide +kernel
theorem dL_refuses_113 : decode cL_refuses 113 = .ok (.invokestatic 102, 3) := by decide +kernel
theorem dL_refuses_116 : decode cL_refuses 116 = .ok (.ldc 36, 2) := by decide +kernel
theorem dL_refuses_118 : decode cL_refuses 118 = .ok (.if_icmp .ne 120, 3) := by decide +kernel
theorem dL_refuses_121 : decode cL_refuses 121 = .ok (.aload_n 0, 1) := by decide +kernel
theorem dL_refuses_122 : decode cL_refuses 122 = .ok (.iconst 0, 1) := by decide +kernel
theorem dL_refuses_123 : decode cL_refuses 123 = .ok (.bipush 8, 2) := by decide +kernel
theorem dL_refuses_125 : decode cL_refuses 125 = .ok (.invokestatic 107, 3) := by decide +kernel
theorem dL_refuses_128 : decode cL_refuses 128 = .ok (.ldc 36, 2) := by decide +kernel
theorem dL_refuses_130 : decode cL_refuses 130 = .ok (.if_icmp .ne 108, 3) := by decide +kernel
theorem dL_refuses_133 : decode cL_refuses 133 = .ok (.aload_n 0, 1) := by decide +kernel
theorem dL_refuses_134 : decode cL_refuses 134 = .ok (.iconst (-1), 1) := by decide +kernel
theorem dL_refuses_135 : decode cL_refuses 135 = .ok (.iconst 0, 1) := by decide +kernel
theorem dL_refuses_136 : decode cL_refuses 136 = .ok (.invokestatic 99, 3) := by decide +kernel
theorem dL_refuses_139 : decode cL_refuses 139 = .ok (.ldc 36, 2) := by decide +kernel
theorem dL_refuses_141 : decode cL_refuses 141 = .ok (.if_icmp .ne 97, 3) := by decide +kernel
theorem dL_refuses_144 : decode cL_refuses 144 = .ok (.aload_n 0, 1) := by decide +kernel
theorem dL_refuses_145 : decode cL_refuses 145 = .ok (.iconst 4, 1) := by decide +kernel
theorem dL_refuses_146 : decode cL_refuses 146 = .ok (.iconst 1, 1) := by decide +kernel
theorem dL_refuses_147 : decode cL_refuses 147 = .ok (.invokestatic 105, 3) := by decide +kernel
theorem dL_refuses_150 : decode cL_refuses 150 = .ok (.ldc 36, 2) := by decide +kernel
theorem dL_refuses_152 : decode cL_refuses 152 = .ok (.if_icmp .ne 86, 3) := by decide +kernel
theorem dL_refuses_155 : decode cL_refuses 155 = .ok (.aload_n 0, 1) := by decide +kernel
theorem dL_refuses_156 : decode cL_refuses 156 = .ok (.iconst 4, 1) := by decide +kernel
theorem dL_refuses_157 : decode cL_refuses 157 = .ok (.bipush 6, 2) := by decide +kernel
theorem dL_refuses_159 : decode cL_refuses 159 = .ok (.invokestatic 109, 3) := by decide +kernel
theorem dL_refuses_162 : decode cL_refuses 162 = .ok (.ldc 36, 2) := by decide +kernel
theorem dL_refuses_164 : decode cL_refuses 164 = .ok (.if_icmp .ne 74, 3) := by decide +kernel
theorem dL_refuses_167 : decode cL_refuses 167 = .ok (.aload_n 0, 1) := by decide +kernel
theorem dL_refuses_168 : decode cL_refuses 168 = .ok (.iconst (-1), 1) := by decide +kernel
theorem dL_refuses_169 : decode cL_refuses 169 = .ok (.invokestatic 97, 3) := by decide +kernel
theorem dL_refuses_172 : decode cL_refuses 172 = .ok (.ldc 17, 2) := by decide +kernel
theorem dL_refuses_174 : decode cL_refuses 174 = .ok (.if_icmp .ne 64, 3) := by decide +kernel
theorem dL_refuses_177 : decode cL_refuses 177 = .ok (.aload_n 0, 1) := by decide +kernel
theorem dL_refuses_178 : decode cL_refuses 178 = .ok (.iconst (-1), 1) := by decide +kernel
theorem dL_refuses_179 : decode cL_refuses 179 = .ok (.invokestatic 114, 3) := by decide +kernel
theorem dL_refuses_182 : decode cL_refuses 182 = .ok (.ldc 17, 2) := by decide +kernel
theorem dL_refuses_184 : decode cL_refuses 184 = .ok (.if_icmp .ne 54, 3) := by decide +kernel
theorem dL_refuses_187 : decode cL_refuses 187 = .ok (.aload_n 0, 1) := by decide +kernel
theorem dL_refuses_188 : decode cL_refuses 188 = .ok (.sipush 400, 3) := by decide +kernel
theorem dL_refuses_191 : decode cL_refuses 191 = .ok (.bipush 9, 2) := by decide +kernel
theorem dL_refuses_193 : decode cL_refuses 193 = .ok (.invokestatic 123, 3) := by decide +kernel
theorem dL_refuses_196 : decode cL_refuses 196 = .ok (.ldc 36, 2) := by decide +kernel
theorem dL_refuses_198 : decode cL_refuses 198 = .ok (.if_icmp .ne 40, 3) := by decide +kernel
theorem dL_refuses_201 : decode cL_refuses 201 = .ok (.aload_n 0, 1) := by decide +kernel
theorem dL_refuses_202 : decode cL_refuses 202 = .ok (.iconst (-1), 1) := by decide +kernel
theorem dL_refuses_203 : decode cL_refuses 203 = .ok (.iconst 0, 1) := by decide +kernel
theorem dL_refuses_204 : decode cL_refuses 204 = .ok (.iconst 1, 1) := by decide +kernel
theorem dL_refuses_205 : decode cL_refuses 205 = .ok (.invokestatic 125, 3) := by decide +kernel
theorem dL_refuses_208 : decode cL_refuses 208 = .ok (.ldc 36, 2) := by decide +kernel
theorem dL_refuses_210 : decode cL_refuses 210 = .ok (.if_icmp .ne 28, 3) := by decide +kernel
theorem dL_refuses_213 : decode cL_refuses 213 = .ok (.aload_n 0, 1) := by decide +kernel
theorem dL_refuses_214 : decode cL_refuses 214 = .ok (.iconst (-1), 1) := by decide +kernel
theorem dL_refuses_215 : decode cL_refuses 215 = .ok (.invokestatic 153, 3) := by decide +kernel
theorem dL_refuses_218 : decode cL_refuses 218 = .ok (.ldc 17, 2) := by decide +kernel
theorem dL_refuses_220 : decode cL_refuses 220 = .ok (.if_icmp .ne 18, 3) := by decide +kernel
theorem dL_refuses_223 : decode cL_refuses 223 = .ok (.aload_n 0, 1) := by decide +kernel
theorem dL_refuses_224 : decode cL_refuses 224 = .ok (.iconst 3, 1) := by decide +kernel
theorem dL_refuses_225 : decode cL_refuses 225 = .ok (.iconst 0, 1) := by decide +kernel
theorem dL_refuses_226 : decode cL_refuses 226 = .ok (.invokestatic 155, 3) := by decide +kernel
theorem dL_refuses_229 : decode cL_refuses 229 = .ok (.ldc 17, 2) := by decide +kernel
theorem dL_refuses_231 : decode cL_refuses 231 = .ok (.if_icmp .ne 7, 3) := by decide +kernel
theorem dL_refuses_234 : decode cL_refuses 234 = .ok (.iconst 1, 1) := by decide +kernel
theorem dL_refuses_235 : decode cL_refuses 235 = .ok (.goto 4, 3) := by decide +kernel
theorem dL_refuses_238 : decode cL_refuses 238 = .ok (.iconst 0, 1) := by decide +kernel
theorem dL_refuses_239 : decode cL_refuses 239 = .ok (.istore_n 3, 1) := by decide +kernel
theorem dL_refuses_240 : decode cL_refuses 240 = .ok (.iload_n 3, 1) := by decide +kernel
theorem dL_refuses_241 : decode cL_refuses 241 = .ok (.ifCond .eq 16, 3) := by decide +kernel
theorem dL_refuses_244 : decode cL_refuses 244 = .ok (.aload_n 0, 1) := by decide +kernel
theorem dL_refuses_245 : decode cL_refuses 245 = .ok (.invokevirtual 132, 3) := by decide +kernel
theorem dL_refuses_248 : decode cL_refuses 248 = .ok (.lload_n 1, 1) := by decide +kernel
theorem dL_refuses_249 : decode cL_refuses 249 = .ok (.lcmp, 1) := by decide +kernel
theorem dL_refuses_250 : decode cL_refuses 250 = .ok (.ifCond .ne 7, 3) := by decide +kernel
theorem dL_refuses_253 : decode cL_refuses 253 = .ok (.iconst 1, 1) := by decide +kernel
theorem dL_refuses_254 : decode cL_refuses 254 = .ok (.goto 4, 3) := by decide +kernel
theorem dL_refuses_257 : decode cL_refuses 257 = .ok (.iconst 0, 1) := by decide +kernel
theorem dL_refuses_258 : decode cL_refuses 258 = .ok (.ireturn, 1) := by decide +kernel
theorem dL_runs_0 : decode cL_runs 0 = .ok (.iload_n 1, 1) := by decide +kernel
theorem dL_runs_1 : decode cL_runs 1 = .ok (.bipush 20, 2) := by decide +kernel
theorem dL_runs_3 : decode cL_runs 3 = .ok (.invokestatic 89, 3) := by decide +kernel
theorem dL_runs_6 : decode cL_runs 6 = .ok (.istore_n 2, 1) := by decide +kernel
theorem dL_runs_7 : decode cL_runs 7 = .ok (.iload_n 1, 1) := by decide +kernel
theorem dL_runs_8 : decode cL_runs 8 = .ok (.iconst 5, 1) := by decide +kernel
theorem dL_runs_9 : decode cL_runs 9 = .ok (.ishr, 1) := by decide +kernel
theorem dL_runs_10 : decode cL_runs 10 = .ok (.bipush 20, 2) := by decide +kernel
theorem dL_runs_12 : decode cL_runs 12 = .ok (.invokestatic 89, 3) := by decide +kernel
theorem dL_runs_15 : decode cL_runs 15 = .ok (.istore_n 3, 1) := by decide +kernel
theorem dL_runs_16 : decode cL_runs 16 = .ok (.iload_n 1, 1) := by decide +kernel
theorem dL_runs_17 : decode cL_runs 17 = .ok (.bipush 10, 2) := by decide +kernel
theorem dL_runs_19 : decode cL_runs 19 = .ok (.ishr, 1) := by decide +kernel
theorem dL_runs_20 : decode cL_runs 20 = .ok (.iconst 3, 1) := by decide +kernel
theorem dL_runs_21 : decode cL_runs 21 = .ok (.invokestatic 89, 3) := by decide +kernel
theorem dL_runs_24 : decode cL_runs 24 = .ok (.istore 4, 2) := by decide +kernel
theorem dL_runs_26 : decode cL_runs 26 = .ok (.aload_n 0, 1) := by decide +kernel
theorem dL_runs_27 : decode cL_runs 27 = .ok (.iload 4, 2) := by decide +kernel
theorem dL_runs_29 : decode cL_runs 29 = .ok (.iload_n 2, 1) := by decide +kernel
theorem dL_runs_30 : decode cL_runs 30 = .ok (.invokestatic 155, 3) := by decide +kernel
theorem dL_runs_33 : decode cL_runs 33 = .ok (.istore 5, 2) := by decide +kernel
theorem dL_runs_35 : decode cL_runs 35 = .ok (.iload 5, 2) := by decide +kernel
theorem dL_runs_37 : decode cL_runs 37 = .ok (.aload_n 0, 1) := by decide +kernel
theorem dL_runs_38 : decode cL_runs 38 = .ok (.iload 4, 2) := by decide +kernel
theorem dL_runs_40 : decode cL_runs 40 = .ok (.iload_n 2, 1) := by decide +kernel
theorem dL_runs_41 : decode cL_runs 41 = .ok (.iload_n 3, 1) := by decide +kernel
theorem dL_runs_42 : decode cL_runs 42 = .ok (.iadd, 1) := by decide +kernel
theorem dL_runs_43 : decode cL_runs 43 = .ok (.invokestatic 155, 3) := by decide +kernel
theorem dL_runs_46 : decode cL_runs 46 = .ok (.if_icmp .gt 25, 3) := by decide +kernel
theorem dL_runs_49 : decode cL_runs 49 = .ok (.aload_n 0, 1) := by decide +kernel
theorem dL_runs_50 : decode cL_runs 50 = .ok (.iload 4, 2) := by decide +kernel
theorem dL_runs_52 : decode cL_runs 52 = .ok (.iconst 0, 1) := by decide +kernel
theorem dL_runs_53 : decode cL_runs 53 = .ok (.invokestatic 155, 3) := by decide +kernel
theorem dL_runs_56 : decode cL_runs 56 = .ok (.ifCond .ne 15, 3) := by decide +kernel
theorem dL_runs_59 : decode cL_runs 59 = .ok (.aload_n 0, 1) := by decide +kernel
theorem dL_runs_60 : decode cL_runs 60 = .ok (.iload_n 2, 1) := by decide +kernel
theorem dL_runs_61 : decode cL_runs 61 = .ok (.invokestatic 149, 3) := by decide +kernel
theorem dL_runs_64 : decode cL_runs 64 = .ok (.ifCond .lt 7, 3) := by decide +kernel
theorem dL_runs_67 : decode cL_runs 67 = .ok (.iconst 1, 1) := by decide +kernel
theorem dL_runs_68 : decode cL_runs 68 = .ok (.goto 4, 3) := by decide +kernel
theorem dL_runs_71 : decode cL_runs 71 = .ok (.iconst 0, 1) := by decide +kernel
theorem dL_runs_72 : decode cL_runs 72 = .ok (.istore 6, 2) := by decide +kernel
theorem dL_runs_74 : decode cL_runs 74 = .ok (.aload_n 0, 1) := by decide +kernel
theorem dL_runs_75 : decode cL_runs 75 = .ok (.iload_n 3, 1) := by decide +kernel
theorem dL_runs_76 : decode cL_runs 76 = .ok (.invokestatic 149, 3) := by decide +kernel
theorem dL_runs_79 : decode cL_runs 79 = .ok (.istore 7, 2) := by decide +kernel
theorem dL_runs_81 : decode cL_runs 81 = .ok (.aload_n 0, 1) := by decide +kernel
theorem dL_runs_82 : decode cL_runs 82 = .ok (.bipush 7, 2) := by decide +kernel
theorem dL_runs_84 : decode cL_runs 84 = .ok (.invokestatic 114, 3) := by decide +kernel
theorem dL_runs_87 : decode cL_runs 87 = .ok (.istore 8, 2) := by decide +kernel
theorem dL_runs_89 : decode cL_runs 89 = .ok (.iconst 0, 1) := by decide +kernel
theorem dL_runs_90 : decode cL_runs 90 = .ok (.istore 9, 2) := by decide +kernel
theorem dL_runs_92 : decode cL_runs 92 = .ok (.iconst 0, 1) := by decide +kernel
theorem dL_runs_93 : decode cL_runs 93 = .ok (.istore 10, 2) := by decide +kernel
theorem dL_runs_95 : decode cL_runs 95 = .ok (.iload 10, 2) := by decide +kernel
theorem dL_runs_97 : decode cL_runs 97 = .ok (.bipush 8, 2) := by decide +kernel
theorem dL_runs_99 : decode cL_runs 99 = .ok (.if_icmp .ge 26, 3) := by decide +kernel
theorem dL_runs_102 : decode cL_runs 102 = .ok (.iload 9, 2) := by decide +kernel
theorem dL_runs_104 : decode cL_runs 104 = .ok (.iload 10, 2) := by decide +kernel
theorem dL_runs_106 : decode cL_runs 106 = .ok (.iconst 1, 1) := by decide +kernel
theorem dL_runs_107 : decode cL_runs 107 = .ok (.iadd, 1) := by decide +kernel
theorem dL_runs_108 : decode cL_runs 108 = .ok (.aload_n 0, 1) := by decide +kernel
theorem dL_runs_109 : decode cL_runs 109 = .ok (.iload 10, 2) := by decide +kernel
theorem dL_runs_111 : decode cL_runs 111 = .ok (.iconst 1, 1) := by decide +kernel
theorem dL_runs_112 : decode cL_runs 112 = .ok (.invokestatic 99, 3) := by decide +kernel
theorem dL_runs_115 : decode cL_runs 115 = .ok (.imul, 1) := by decide +kernel
theorem dL_runs_116 : decode cL_runs 116 = .ok (.iadd, 1) := by decide +kernel
theorem dL_runs_117 : decode cL_runs 117 = .ok (.istore 9, 2) := by decide +kernel
theorem dL_runs_119 : decode cL_runs 119 = .ok (.iinc 10 1, 3) := by decide +kernel
theorem dL_runs_122 : decode cL_runs 122 = .ok (.goto (-27), 3) := by decide +kernel
theorem dL_runs_125 : decode cL_runs 125 = .ok (.iload 6, 2) := by decide +kernel
theorem dL_runs_127 : decode cL_runs 127 = .ok (.ifCond .eq 47, 3) := by decide +kernel
theorem dL_runs_130 : decode cL_runs 130 = .ok (.aload_n 0, 1) := by decide +kernel
theorem dL_runs_131 : decode cL_runs 131 = .ok (.invokestatic 157, 3) := by decide +kernel
theorem dL_runs_134 : decode cL_runs 134 = .ok (.ifCond .eq 40, 3) := by decide +kernel
theorem dL_runs_137 : decode cL_runs 137 = .ok (.aload_n 0, 1) := by decide +kernel
theorem dL_runs_138 : decode cL_runs 138 = .ok (.invokestatic 161, 3) := by decide +kernel
theorem dL_runs_141 : decode cL_runs 141 = .ok (.ifCond .lt 33, 3) := by decide +kernel
theorem dL_runs_144 : decode cL_runs 144 = .ok (.aload_n 0, 1) := by decide +kernel
theorem dL_runs_145 : decode cL_runs 145 = .ok (.invokestatic 161, 3) := by decide +kernel
theorem dL_runs_148 : decode cL_runs 148 = .ok (.ifCond .lt 26, 3) := by decide +kernel
theorem dL_runs_151 : decode cL_runs 151 = .ok (.aload_n 0, 1) := by decide +kernel
theorem dL_runs_152 : decode cL_runs 152 = .ok (.iload_n 2, 1) := by decide +kernel
theorem dL_runs_153 : decode cL_runs 153 = .ok (.iload_n 3, 1) := by decide +kernel
theorem dL_runs_154 : decode cL_runs 154 = .ok (.iadd, 1) := by decide +kernel
theorem dL_runs_155 : decode cL_runs 155 = .ok (.invokestatic 149, 3) := by decide +kernel
theorem dL_runs_158 : decode cL_runs 158 = .ok (.iload 7, 2) := by decide +kernel
theorem dL_runs_160 : decode cL_runs 160 = .ok (.if_icmp .ne 14, 3) := by decide +kernel
theorem dL_runs_163 : decode cL_runs 163 = .ok (.aload_n 0, 1) := by decide +kernel
theorem dL_runs_164 : decode cL_runs 164 = .ok (.bipush 7, 2) := by decide +kernel
theorem dL_runs_166 : decode cL_runs 166 = .ok (.invokestatic 114, 3) := by decide +kernel
theorem dL_runs_169 : decode cL_runs 169 = .ok (.iload 8, 2) := by decide +kernel
theorem dL_runs_171 : decode cL_runs 171 = .ok (.if_icmp .eq 5, 3) := by decide +kernel
theorem dL_runs_174 : decode cL_runs 174 = .ok (.iconst 0, 1) := by decide +kernel
theorem dL_runs_175 : decode cL_runs 175 = .ok (.ireturn, 1) := by decide +kernel
theorem dL_runs_176 : decode cL_runs 176 = .ok (.iconst 0, 1) := by decide +kernel
theorem dL_runs_177 : decode cL_runs 177 = .ok (.istore 10, 2) := by decide +kernel
theorem dL_runs_179 : decode cL_runs 179 = .ok (.iload 10, 2) := by decide +kernel
theorem dL_runs_181 : decode cL_runs 181 = .ok (.bipush 8, 2) := by decide +kernel
theorem dL_runs_183 : decode cL_runs 183 = .ok (.if_icmp .ge 26, 3) := by decide +kernel
theorem dL_runs_186 : decode cL_runs 186 = .ok (.iload 9, 2) := by decide +kernel
theorem dL_runs_188 : decode cL_runs 188 = .ok (.iload 10, 2) := by decide +kernel
theorem dL_runs_190 : decode cL_runs 190 = .ok (.iconst 1, 1) := by decide +kernel
theorem dL_runs_191 : decode cL_runs 191 = .ok (.iadd, 1) := by decide +kernel
theorem dL_runs_192 : decode cL_runs 192 = .ok (.aload_n 0, 1) := by decide +kernel
theorem dL_runs_193 : decode cL_runs 193 = .ok (.iload 10, 2) := by decide +kernel
theorem dL_runs_195 : decode cL_runs 195 = .ok (.iconst 1, 1) := by decide +kernel
theorem dL_runs_196 : decode cL_runs 196 = .ok (.invokestatic 99, 3) := by decide +kernel
theorem dL_runs_199 : decode cL_runs 199 = .ok (.imul, 1) := by decide +kernel
theorem dL_runs_200 : decode cL_runs 200 = .ok (.isub, 1) := by decide +kernel
theorem dL_runs_201 : decode cL_runs 201 = .ok (.istore 9, 2) := by decide +kernel
theorem dL_runs_203 : decode cL_runs 203 = .ok (.iinc 10 1, 3) := by decide +kernel
theorem dL_runs_206 : decode cL_runs 206 = .ok (.goto (-27), 3) := by decide +kernel
theorem dL_runs_209 : decode cL_runs 209 = .ok (.iload 9, 2) := by decide +kernel
theorem dL_runs_211 : decode cL_runs 211 = .ok (.ifCond .ne 7, 3) := by decide +kernel
theorem dL_runs_214 : decode cL_runs 214 = .ok (.iconst 1, 1) := by decide +kernel
theorem dL_runs_215 : decode cL_runs 215 = .ok (.goto 4, 3) := by decide +kernel
theorem dL_runs_218 : decode cL_runs 218 = .ok (.iconst 0, 1) := by decide +kernel
theorem dL_runs_219 : decode cL_runs 219 = .ok (.ireturn, 1) := by decide +kernel
theorem dL_law_0 : decode cL_law 0 = .ok (.new 10, 3) := by decide +kernel
theorem dL_law_3 : decode cL_law 3 = .ok (.dup, 1) := by decide +kernel
theorem dL_law_4 : decode cL_law 4 = .ok (.invokespecial 163, 3) := by decide +kernel
theorem dL_law_7 : decode cL_law 7 = .ok (.astore_n 1, 1) := by decide +kernel
theorem dL_law_8 : decode cL_law 8 = .ok (.aload_n 0, 1) := by decide +kernel
theorem dL_law_9 : decode cL_law 9 = .ok (.iconst 0, 1) := by decide +kernel
theorem dL_law_10 : decode cL_law 10 = .ok (.invokestatic 164, 3) := by decide +kernel
theorem dL_law_13 : decode cL_law 13 = .ok (.istore_n 2, 1) := by decide +kernel
theorem dL_law_14 : decode cL_law 14 = .ok (.iconst 2, 1) := by decide +kernel
theorem dL_law_15 : decode cL_law 15 = .ok (.iload_n 2, 1) := by decide +kernel
theorem dL_law_16 : decode cL_law 16 = .ok (.iconst 3, 1) := by decide +kernel
theorem dL_law_17 : decode cL_law 17 = .ok (.invokestatic 89, 3) := by decide +kernel
theorem dL_law_20 : decode cL_law 20 = .ok (.iadd, 1) := by decide +kernel
theorem dL_law_21 : decode cL_law 21 = .ok (.istore_n 3, 1) := by decide +kernel
theorem dL_law_22 : decode cL_law 22 = .ok (.aload_n 1, 1) := by decide +kernel
theorem dL_law_23 : decode cL_law 23 = .ok (.invokestatic 157, 3) := by decide +kernel
theorem dL_law_26 : decode cL_law 26 = .ok (.ifCond .eq 52, 3) := by decide +kernel
theorem dL_law_29 : decode cL_law 29 = .ok (.aload_n 1, 1) := by decide +kernel
theorem dL_law_30 : decode cL_law 30 = .ok (.iload_n 3, 1) := by decide +kernel
theorem dL_law_31 : decode cL_law 31 = .ok (.iload_n 2, 1) := by decide +kernel
theorem dL_law_32 : decode cL_law 32 = .ok (.iconst 3, 1) := by decide +kernel
theorem dL_law_33 : decode cL_law 33 = .ok (.ishr, 1) := by decide +kernel
theorem dL_law_34 : decode cL_law 34 = .ok (.iconst 3, 1) := by decide +kernel
theorem dL_law_35 : decode cL_law 35 = .ok (.invokestatic 89, 3) := by decide +kernel
theorem dL_law_38 : decode cL_law 38 = .ok (.iconst 1, 1) := by decide +kernel
theorem dL_law_39 : decode cL_law 39 = .ok (.iload_n 2, 1) := by decide +kernel
theorem dL_law_40 : decode cL_law 40 = .ok (.bipush 6, 2) := by decide +kernel
theorem dL_law_42 : decode cL_law 42 = .ok (.ishr, 1) := by decide +kernel
theorem dL_law_43 : decode cL_law 43 = .ok (.iconst 4, 1) := by decide +kernel
theorem dL_law_44 : decode cL_law 44 = .ok (.invokestatic 89, 3) := by decide +kernel
theorem dL_law_47 : decode cL_law 47 = .ok (.iadd, 1) := by decide +kernel
theorem dL_law_48 : decode cL_law 48 = .ok (.invokestatic 136, 3) := by decide +kernel
theorem dL_law_51 : decode cL_law 51 = .ok (.ifCond .ne 27, 3) := by decide +kernel
theorem dL_law_54 : decode cL_law 54 = .ok (.aload_n 1, 1) := by decide +kernel
theorem dL_law_55 : decode cL_law 55 = .ok (.iload_n 2, 1) := by decide +kernel
theorem dL_law_56 : decode cL_law 56 = .ok (.bipush 9, 2) := by decide +kernel
theorem dL_law_58 : decode cL_law 58 = .ok (.ishr, 1) := by decide +kernel
theorem dL_law_59 : decode cL_law 59 = .ok (.ldc 168, 2) := by decide +kernel
theorem dL_law_61 : decode cL_law 61 = .ok (.invokestatic 89, 3) := by decide +kernel
theorem dL_law_64 : decode cL_law 64 = .ok (.invokestatic 141, 3) := by decide +kernel
theorem dL_law_67 : decode cL_law 67 = .ok (.iconst 1, 1) := by decide +kernel
theorem dL_law_68 : decode cL_law 68 = .ok (.if_icmp .ne 10, 3) := by decide +kernel
theorem dL_law_71 : decode cL_law 71 = .ok (.aload_n 1, 1) := by decide +kernel
theorem dL_law_72 : decode cL_law 72 = .ok (.invokestatic 169, 3) := by decide +kernel
theorem dL_law_75 : decode cL_law 75 = .ok (.ifCond .ne 5, 3) := by decide +kernel
theorem dL_law_78 : decode cL_law 78 = .ok (.iconst 0, 1) := by decide +kernel
theorem dL_law_79 : decode cL_law 79 = .ok (.ireturn, 1) := by decide +kernel
theorem dL_law_80 : decode cL_law 80 = .ok (.iconst 0, 1) := by decide +kernel
theorem dL_law_81 : decode cL_law 81 = .ok (.istore 4, 2) := by decide +kernel
theorem dL_law_83 : decode cL_law 83 = .ok (.iload 4, 2) := by decide +kernel
theorem dL_law_85 : decode cL_law 85 = .ok (.iload_n 3, 1) := by decide +kernel
theorem dL_law_86 : decode cL_law 86 = .ok (.if_icmp .ge 97, 3) := by decide +kernel
theorem dL_law_89 : decode cL_law 89 = .ok (.iconst 2, 1) := by decide +kernel
theorem dL_law_90 : decode cL_law 90 = .ok (.aload_n 0, 1) := by decide +kernel
theorem dL_law_91 : decode cL_law 91 = .ok (.iconst 1, 1) := by decide +kernel
theorem dL_law_92 : decode cL_law 92 = .ok (.bipush 9, 2) := by decide +kernel
theorem dL_law_94 : decode cL_law 94 = .ok (.iload 4, 2) := by decide +kernel
theorem dL_law_96 : decode cL_law 96 = .ok (.imul, 1) := by decide +kernel
theorem dL_law_97 : decode cL_law 97 = .ok (.iadd, 1) := by decide +kernel
theorem dL_law_98 : decode cL_law 98 = .ok (.invokestatic 164, 3) := by decide +kernel
theorem dL_law_101 : decode cL_law 101 = .ok (.bipush 8, 2) := by decide +kernel
theorem dL_law_103 : decode cL_law 103 = .ok (.invokestatic 89, 3) := by decide +kernel
theorem dL_law_106 : decode cL_law 106 = .ok (.iadd, 1) := by decide +kernel
theorem dL_law_107 : decode cL_law 107 = .ok (.istore 5, 2) := by decide +kernel
theorem dL_law_109 : decode cL_law 109 = .ok (.aload_n 1, 1) := by decide +kernel
theorem dL_law_110 : decode cL_law 110 = .ok (.invokevirtual 172, 3) := by decide +kernel
theorem dL_law_113 : decode cL_law 113 = .ok (.pop, 1) := by decide +kernel
theorem dL_law_114 : decode cL_law 114 = .ok (.iconst 0, 1) := by decide +kernel
theorem dL_law_115 : decode cL_law 115 = .ok (.istore 6, 2) := by decide +kernel
theorem dL_law_117 : decode cL_law 117 = .ok (.iload 6, 2) := by decide +kernel
theorem dL_law_119 : decode cL_law 119 = .ok (.iload 5, 2) := by decide +kernel
theorem dL_law_121 : decode cL_law 121 = .ok (.if_icmp .ge 43, 3) := by decide +kernel
theorem dL_law_124 : decode cL_law 124 = .ok (.aload_n 1, 1) := by decide +kernel
theorem dL_law_125 : decode cL_law 125 = .ok (.iload 6, 2) := by decide +kernel
theorem dL_law_127 : decode cL_law 127 = .ok (.ifCond .ne 7, 3) := by decide +kernel
theorem dL_law_130 : decode cL_law 130 = .ok (.iconst 0, 1) := by decide +kernel
theorem dL_law_131 : decode cL_law 131 = .ok (.goto 17, 3) := by decide +kernel
theorem dL_law_134 : decode cL_law 134 = .ok (.aload_n 0, 1) := by decide +kernel
theorem dL_law_135 : decode cL_law 135 = .ok (.iconst 1, 1) := by decide +kernel
theorem dL_law_136 : decode cL_law 136 = .ok (.bipush 9, 2) := by decide +kernel
theorem dL_law_138 : decode cL_law 138 = .ok (.iload 4, 2) := by decide +kernel
theorem dL_law_140 : decode cL_law 140 = .ok (.imul, 1) := by decide +kernel
theorem dL_law_141 : decode cL_law 141 = .ok (.iadd, 1) := by decide +kernel
theorem dL_law_142 : decode cL_law 142 = .ok (.iload 6, 2) := by decide +kernel
theorem dL_law_144 : decode cL_law 144 = .ok (.iadd, 1) := by decide +kernel
theorem dL_law_145 : decode cL_law 145 = .ok (.invokestatic 164, 3) := by decide +kernel
theorem dL_law_148 : decode cL_law 148 = .ok (.iconst 3, 1) := by decide +kernel
theorem dL_law_149 : decode cL_law 149 = .ok (.invokestatic 175, 3) := by decide +kernel
theorem dL_law_152 : decode cL_law 152 = .ok (.iconst 2, 1) := by decide +kernel
theorem dL_law_153 : decode cL_law 153 = .ok (.if_icmp .ge 5, 3) := by decide +kernel
theorem dL_law_156 : decode cL_law 156 = .ok (.iconst 0, 1) := by decide +kernel
theorem dL_law_157 : decode cL_law 157 = .ok (.ireturn, 1) := by decide +kernel
theorem dL_law_158 : decode cL_law 158 = .ok (.iinc 6 1, 3) := by decide +kernel
theorem dL_law_161 : decode cL_law 161 = .ok (.goto (-44), 3) := by decide +kernel
theorem dL_law_164 : decode cL_law 164 = .ok (.aload_n 1, 1) := by decide +kernel
theorem dL_law_165 : decode cL_law 165 = .ok (.iload 4, 2) := by decide +kernel
theorem dL_law_167 : decode cL_law 167 = .ok (.invokestatic 143, 3) := by decide +kernel
theorem dL_law_170 : decode cL_law 170 = .ok (.iload 5, 2) := by decide +kernel
theorem dL_law_172 : decode cL_law 172 = .ok (.if_icmp .eq 5, 3) := by decide +kernel
theorem dL_law_175 : decode cL_law 175 = .ok (.iconst 0, 1) := by decide +kernel
theorem dL_law_176 : decode cL_law 176 = .ok (.ireturn, 1) := by decide +kernel
theorem dL_law_177 : decode cL_law 177 = .ok (.iinc 4 1, 3) := by decide +kernel
theorem dL_law_180 : decode cL_law 180 = .ok (.goto (-97), 3) := by decide +kernel
theorem dL_law_183 : decode cL_law 183 = .ok (.iconst 0, 1) := by decide +kernel
theorem dL_law_184 : decode cL_law 184 = .ok (.istore 4, 2) := by decide +kernel
theorem dL_law_186 : decode cL_law 186 = .ok (.iload 4, 2) := by decide +kernel
theorem dL_law_188 : decode cL_law 188 = .ok (.bipush 14, 2) := by decide +kernel
theorem dL_law_190 : decode cL_law 190 = .ok (.if_icmp .ge 335, 3) := by decide +kernel
theorem dL_law_193 : decode cL_law 193 = .ok (.aload_n 0, 1) := by decide +kernel
theorem dL_law_194 : decode cL_law 194 = .ok (.bipush 38, 2) := by decide +kernel
theorem dL_law_196 : decode cL_law 196 = .ok (.iload 4, 2) := by decide +kernel
theorem dL_law_198 : decode cL_law 198 = .ok (.iadd, 1) := by decide +kernel
theorem dL_law_199 : decode cL_law 199 = .ok (.invokestatic 164, 3) := by decide +kernel
theorem dL_law_202 : decode cL_law 202 = .ok (.istore 5, 2) := by decide +kernel
theorem dL_law_204 : decode cL_law 204 = .ok (.iload 5, 2) := by decide +kernel
theorem dL_law_206 : decode cL_law 206 = .ok (.iload_n 3, 1) := by decide +kernel
theorem dL_law_207 : decode cL_law 207 = .ok (.invokestatic 89, 3) := by decide +kernel
theorem dL_law_210 : decode cL_law 210 = .ok (.istore 6, 2) := by decide +kernel
theorem dL_law_212 : decode cL_law 212 = .ok (.iload 5, 2) := by decide +kernel
theorem dL_law_214 : decode cL_law 214 = .ok (.iconst 3, 1) := by decide +kernel
theorem dL_law_215 : decode cL_law 215 = .ok (.ishr, 1) := by decide +kernel
theorem dL_law_216 : decode cL_law 216 = .ok (.bipush 8, 2) := by decide +kernel
theorem dL_law_218 : decode cL_law 218 = .ok (.invokestatic 89, 3) := by decide +kernel
theorem dL_law_221 : decode cL_law 221 = .ok (.istore 7, 2) := by decide +kernel
theorem dL_law_223 : decode cL_law 223 = .ok (.aload_n 1, 1) := by decide +kernel
theorem dL_law_224 : decode cL_law 224 = .ok (.bipush 7, 2) := by decide +kernel
theorem dL_law_226 : decode cL_law 226 = .ok (.invokestatic 114, 3) := by decide +kernel
theorem dL_law_229 : decode cL_law 229 = .ok (.istore 8, 2) := by decide +kernel
theorem dL_law_231 : decode cL_law 231 = .ok (.aload_n 1, 1) := by decide +kernel
theorem dL_law_232 : decode cL_law 232 = .ok (.iload 6, 2) := by decide +kernel
theorem dL_law_234 : decode cL_law 234 = .ok (.iconst 1, 1) := by decide +kernel
theorem dL_law_235 : decode cL_law 235 = .ok (.invokestatic 109, 3) := by decide +kernel
theorem dL_law_238 : decode cL_law 238 = .ok (.aload_n 1, 1) := by decide +kernel
theorem dL_law_239 : decode cL_law 239 = .ok (.iload 6, 2) := by decide +kernel
theorem dL_law_241 : decode cL_law 241 = .ok (.iconst 2, 1) := by decide +kernel
theorem dL_law_242 : decode cL_law 242 = .ok (.invokestatic 109, 3) := by decide +kernel
theorem dL_law_245 : decode cL_law 245 = .ok (.if_icmp .ne 7, 3) := by decide +kernel
theorem dL_law_248 : decode cL_law 248 = .ok (.iconst 1, 1) := by decide +kernel
theorem dL_law_249 : decode cL_law 249 = .ok (.goto 4, 3) := by decide +kernel
theorem dL_law_252 : decode cL_law 252 = .ok (.iconst 0, 1) := by decide +kernel
theorem dL_law_253 : decode cL_law 253 = .ok (.istore 9, 2) := by decide +kernel
theorem dL_law_255 : decode cL_law 255 = .ok (.iload 7, 2) := by decide +kernel
theorem dL_law_257 : decode cL_law 257 = .ok (.iconst 4, 1) := by decide +kernel
theorem dL_law_258 : decode cL_law 258 = .ok (.if_icmp .ge 12, 3) := by decide +kernel
theorem dL_law_261 : decode cL_law 261 = .ok (.aload_n 1, 1) := by decide +kernel
theorem dL_law_262 : decode cL_law 262 = .ok (.iload 6, 2) := by decide +kernel
theorem dL_law_264 : decode cL_law 264 = .ok (.invokestatic 147, 3) := by decide +kernel
theorem dL_law_267 : decode cL_law 267 = .ok (.goto 87, 3) := by decide +kernel
theorem dL_law_270 : decode cL_law 270 = .ok (.iload 7, 2) := by decide +kernel
theorem dL_law_272 : decode cL_law 272 = .ok (.iconst 4, 1) := by decide +kernel
theorem dL_law_273 : decode cL_law 273 = .ok (.if_icmp .ne 20, 3) := by decide +kernel
theorem dL_law_276 : decode cL_law 276 = .ok (.aload_n 1, 1) := by decide +kernel
theorem dL_law_277 : decode cL_law 277 = .ok (.iload 5, 2) := by decide +kernel
theorem dL_law_279 : decode cL_law 279 = .ok (.bipush 7, 2) := by decide +kernel
theorem dL_law_281 : decode cL_law 281 = .ok (.ishr, 1) := by decide +kernel
theorem dL_law_282 : decode cL_law 282 = .ok (.bipush 30, 2) := by decide +kernel
theorem dL_law_284 : decode cL_law 284 = .ok (.invokestatic 89, 3) := by decide +kernel
theorem dL_law_287 : decode cL_law 287 = .ok (.invokestatic 149, 3) := by decide +kernel
theorem dL_law_290 : decode cL_law 290 = .ok (.goto 64, 3) := by decide +kernel
theorem dL_law_293 : decode cL_law 293 = .ok (.iload 7, 2) := by decide +kernel
theorem dL_law_295 : decode cL_law 295 = .ok (.iconst 5, 1) := by decide +kernel
theorem dL_law_296 : decode cL_law 296 = .ok (.if_icmp .ne 29, 3) := by decide +kernel
theorem dL_law_299 : decode cL_law 299 = .ok (.aload_n 1, 1) := by decide +kernel
theorem dL_law_300 : decode cL_law 300 = .ok (.iload 5, 2) := by decide +kernel
theorem dL_law_302 : decode cL_law 302 = .ok (.bipush 7, 2) := by decide +kernel
theorem dL_law_304 : decode cL_law 304 = .ok (.ishr, 1) := by decide +kernel
theorem dL_law_305 : decode cL_law 305 = .ok (.iconst 3, 1) := by decide +kernel
theorem dL_law_306 : decode cL_law 306 = .ok (.invokestatic 89, 3) := by decide +kernel
theorem dL_law_309 : decode cL_law 309 = .ok (.iload 5, 2) := by decide +kernel
theorem dL_law_311 : decode cL_law 311 = .ok (.bipush 9, 2) := by decide +kernel
theorem dL_law_313 : decode cL_law 313 = .ok (.ishr, 1) := by decide +kernel
theorem dL_law_314 : decode cL_law 314 = .ok (.bipush 90, 2) := by decide +kernel
theorem dL_law_316 : decode cL_law 316 = .ok (.invokestatic 89, 3) := by decide +kernel
theorem dL_law_319 : decode cL_law 319 = .ok (.invokestatic 151, 3) := by decide +kernel
theorem dL_law_322 : decode cL_law 322 = .ok (.goto 32, 3) := by decide +kernel
theorem dL_law_325 : decode cL_law 325 = .ok (.iload 7, 2) := by decide +kernel
theorem dL_law_327 : decode cL_law 327 = .ok (.bipush 6, 2) := by decide +kernel
theorem dL_law_329 : decode cL_law 329 = .ok (.if_icmp .ne 12, 3) := by decide +kernel
theorem dL_law_332 : decode cL_law 332 = .ok (.aload_n 1, 1) := by decide +kernel
theorem dL_law_333 : decode cL_law 333 = .ok (.iload 6, 2) := by decide +kernel
theorem dL_law_335 : decode cL_law 335 = .ok (.invokestatic 145, 3) := by decide +kernel
theorem dL_law_338 : decode cL_law 338 = .ok (.goto 16, 3) := by decide +kernel
theorem dL_law_341 : decode cL_law 341 = .ok (.aload_n 1, 1) := by decide +kernel
theorem dL_law_342 : decode cL_law 342 = .ok (.iload 5, 2) := by decide +kernel
theorem dL_law_344 : decode cL_law 344 = .ok (.bipush 7, 2) := by decide +kernel
theorem dL_law_346 : decode cL_law 346 = .ok (.ishr, 1) := by decide +kernel
theorem dL_law_347 : decode cL_law 347 = .ok (.iconst 3, 1) := by decide +kernel
theorem dL_law_348 : decode cL_law 348 = .ok (.invokestatic 89, 3) := by decide +kernel
theorem dL_law_351 : decode cL_law 351 = .ok (.invokestatic 139, 3) := by decide +kernel
theorem dL_law_354 : decode cL_law 354 = .ok (.istore 10, 2) := by decide +kernel
theorem dL_law_356 : decode cL_law 356 = .ok (.iload 10, 2) := by decide +kernel
theorem dL_law_358 : decode cL_law 358 = .ok (.ifCond .ge 10, 3) := by decide +kernel
theorem dL_law_361 : decode cL_law 361 = .ok (.iload 10, 2) := by decide +kernel
theorem dL_law_363 : decode cL_law 363 = .ok (.ldc 30, 2) := by decide +kernel
theorem dL_law_365 : decode cL_law 365 = .ok (.if_icmp .ne 68, 3) := by decide +kernel
theorem dL_law_368 : decode cL_law 368 = .ok (.iload 7, 2) := by decide +kernel
theorem dL_law_370 : decode cL_law 370 = .ok (.iconst 4, 1) := by decide +kernel
theorem dL_law_371 : decode cL_law 371 = .ok (.if_icmp .ge 29, 3) := by decide +kernel
theorem dL_law_374 : decode cL_law 374 = .ok (.iload 10, 2) := by decide +kernel
theorem dL_law_376 : decode cL_law 376 = .ok (.ldc 30, 2) := by decide +kernel
theorem dL_law_378 : decode cL_law 378 = .ok (.if_icmp .ne 7, 3) := by decide +kernel
theorem dL_law_381 : decode cL_law 381 = .ok (.iconst 1, 1) := by decide +kernel
theorem dL_law_382 : decode cL_law 382 = .ok (.goto 4, 3) := by decide +kernel
theorem dL_law_385 : decode cL_law 385 = .ok (.iconst 0, 1) := by decide +kernel
theorem dL_law_386 : decode cL_law 386 = .ok (.iload 9, 2) := by decide +kernel
theorem dL_law_388 : decode cL_law 388 = .ok (.iconst 1, 1) := by decide +kernel
theorem dL_law_389 : decode cL_law 389 = .ok (.if_icmp .ne 7, 3) := by decide +kernel
theorem dL_law_392 : decode cL_law 392 = .ok (.iconst 1, 1) := by decide +kernel
theorem dL_law_393 : decode cL_law 393 = .ok (.goto 4, 3) := by decide +kernel
theorem dL_law_396 : decode cL_law 396 = .ok (.iconst 0, 1) := by decide +kernel
theorem dL_law_397 : decode cL_law 397 = .ok (.if_icmp .ne 36, 3) := by decide +kernel
theorem dL_law_400 : decode cL_law 400 = .ok (.iload 7, 2) := by decide +kernel
theorem dL_law_402 : decode cL_law 402 = .ok (.iconst 4, 1) := by decide +kernel
theorem dL_law_403 : decode cL_law 403 = .ok (.if_icmp .ge 23, 3) := by decide +kernel
theorem dL_law_406 : decode cL_law 406 = .ok (.iload 10, 2) := by decide +kernel
theorem dL_law_408 : decode cL_law 408 = .ok (.ldc 30, 2) := by decide +kernel
theorem dL_law_410 : decode cL_law 410 = .ok (.if_icmp .eq 16, 3) := by decide +kernel
theorem dL_law_413 : decode cL_law 413 = .ok (.aload_n 1, 1) := by decide +kernel
theorem dL_law_414 : decode cL_law 414 = .ok (.bipush 7, 2) := by decide +kernel
theorem dL_law_416 : decode cL_law 416 = .ok (.invokestatic 114, 3) := by decide +kernel
theorem dL_law_419 : decode cL_law 419 = .ok (.iload 8, 2) := by decide +kernel
theorem dL_law_421 : decode cL_law 421 = .ok (.iconst 1, 1) := by decide +kernel
theorem dL_law_422 : decode cL_law 422 = .ok (.iadd, 1) := by decide +kernel
theorem dL_law_423 : decode cL_law 423 = .ok (.if_icmp .ne 10, 3) := by decide +kernel
theorem dL_law_426 : decode cL_law 426 = .ok (.aload_n 1, 1) := by decide +kernel
theorem dL_law_427 : decode cL_law 427 = .ok (.invokestatic 157, 3) := by decide +kernel
theorem dL_law_430 : decode cL_law 430 = .ok (.ifCond .ne 5, 3) := by decide +kernel
theorem dL_law_433 : decode cL_law 433 = .ok (.iconst 0, 1) := by decide +kernel
theorem dL_law_434 : decode cL_law 434 = .ok (.ireturn, 1) := by decide +kernel
theorem dL_law_435 : decode cL_law 435 = .ok (.iload 4, 2) := by decide +kernel
theorem dL_law_437 : decode cL_law 437 = .ok (.iconst 5, 1) := by decide +kernel
theorem dL_law_438 : decode cL_law 438 = .ok (.irem, 1) := by decide +kernel
theorem dL_law_439 : decode cL_law 439 = .ok (.iconst 4, 1) := by decide +kernel
theorem dL_law_440 : decode cL_law 440 = .ok (.if_icmp .ne 16, 3) := by decide +kernel
theorem dL_law_443 : decode cL_law 443 = .ok (.aload_n 1, 1) := by decide +kernel
theorem dL_law_444 : decode cL_law 444 = .ok (.iload 5, 2) := by decide +kernel
theorem dL_law_446 : decode cL_law 446 = .ok (.iconst 5, 1) := by decide +kernel
theorem dL_law_447 : decode cL_law 447 = .ok (.ishr, 1) := by decide +kernel
theorem dL_law_448 : decode cL_law 448 = .ok (.invokestatic 178, 3) := by decide +kernel
theorem dL_law_451 : decode cL_law 451 = .ok (.ifCond .ne 5, 3) := by decide +kernel
theorem dL_law_454 : decode cL_law 454 = .ok (.iconst 0, 1) := by decide +kernel
theorem dL_law_455 : decode cL_law 455 = .ok (.ireturn, 1) := by decide +kernel
theorem dL_law_456 : decode cL_law 456 = .ok (.iload 4, 2) := by decide +kernel
theorem dL_law_458 : decode cL_law 458 = .ok (.iconst 4, 1) := by decide +kernel
theorem dL_law_459 : decode cL_law 459 = .ok (.irem, 1) := by decide +kernel
theorem dL_law_460 : decode cL_law 460 = .ok (.iconst 3, 1) := by decide +kernel
theorem dL_law_461 : decode cL_law 461 = .ok (.if_icmp .ne 58, 3) := by decide +kernel
theorem dL_law_464 : decode cL_law 464 = .ok (.aload_n 1, 1) := by decide +kernel
theorem dL_law_465 : decode cL_law 465 = .ok (.invokestatic 182, 3) := by decide +kernel
theorem dL_law_468 : decode cL_law 468 = .ok (.i2l, 1) := by decide +kernel
theorem dL_law_469 : decode cL_law 469 = .ok (.lstore 11, 2) := by decide +kernel
theorem dL_law_471 : decode cL_law 471 = .ok (.aload_n 1, 1) := by decide +kernel
theorem dL_law_472 : decode cL_law 472 = .ok (.iconst 4, 1) := by decide +kernel
theorem dL_law_473 : decode cL_law 473 = .ok (.invokestatic 97, 3) := by decide +kernel
theorem dL_law_476 : decode cL_law 476 = .ok (.istore 13, 2) := by decide +kernel
theorem dL_law_478 : decode cL_law 478 = .ok (.aload_n 1, 1) := by decide +kernel
theorem dL_law_479 : decode cL_law 479 = .ok (.iload 6, 2) := by decide +kernel
theorem dL_law_481 : decode cL_law 481 = .ok (.invokestatic 147, 3) := by decide +kernel
theorem dL_law_484 : decode cL_law 484 = .ok (.ldc 30, 2) := by decide +kernel
theorem dL_law_486 : decode cL_law 486 = .ok (.if_icmp .eq 33, 3) := by decide +kernel
theorem dL_law_489 : decode cL_law 489 = .ok (.aload_n 1, 1) := by decide +kernel
theorem dL_law_490 : decode cL_law 490 = .ok (.invokestatic 161, 3) := by decide +kernel
theorem dL_law_493 : decode cL_law 493 = .ok (.ifCond .lt 24, 3) := by decide +kernel
theorem dL_law_496 : decode cL_law 496 = .ok (.aload_n 1, 1) := by decide +kernel
theorem dL_law_497 : decode cL_law 497 = .ok (.invokestatic 182, 3) := by decide +kernel
theorem dL_law_500 : decode cL_law 500 = .ok (.i2l, 1) := by decide +kernel
theorem dL_law_501 : decode cL_law 501 = .ok (.lload 11, 2) := by decide +kernel
theorem dL_law_503 : decode cL_law 503 = .ok (.lcmp, 1) := by decide +kernel
theorem dL_law_504 : decode cL_law 504 = .ok (.ifCond .ne 13, 3) := by decide +kernel
theorem dL_law_507 : decode cL_law 507 = .ok (.aload_n 1, 1) := by decide +kernel
theorem dL_law_508 : decode cL_law 508 = .ok (.iconst 4, 1) := by decide +kernel
theorem dL_law_509 : decode cL_law 509 = .ok (.invokestatic 97, 3) := by decide +kernel
theorem dL_law_512 : decode cL_law 512 = .ok (.iload 13, 2) := by decide +kernel
theorem dL_law_514 : decode cL_law 514 = .ok (.if_icmp .eq 5, 3) := by decide +kernel
theorem dL_law_517 : decode cL_law 517 = .ok (.iconst 0, 1) := by decide +kernel
theorem dL_law_518 : decode cL_law 518 = .ok (.ireturn, 1) := by decide +kernel
theorem dL_law_519 : decode cL_law 519 = .ok (.iinc 4 1, 3) := by decide +kernel
theorem dL_law_522 : decode cL_law 522 = .ok (.goto (-336), 3) := by decide +kernel
theorem dL_law_525 : decode cL_law 525 = .ok (.aload_n 1, 1) := by decide +kernel
theorem dL_law_526 : decode cL_law 526 = .ok (.invokestatic 169, 3) := by decide +kernel
theorem dL_law_529 : decode cL_law 529 = .ok (.ifCond .eq 14, 3) := by decide +kernel
theorem dL_law_532 : decode cL_law 532 = .ok (.aload_n 1, 1) := by decide +kernel
theorem dL_law_533 : decode cL_law 533 = .ok (.invokestatic 157, 3) := by decide +kernel
theorem dL_law_536 : decode cL_law 536 = .ok (.ifCond .eq 7, 3) := by decide +kernel
theorem dL_law_539 : decode cL_law 539 = .ok (.iconst 1, 1) := by decide +kernel
theorem dL_law_540 : decode cL_law 540 = .ok (.goto 4, 3) := by decide +kernel
theorem dL_law_543 : decode cL_law 543 = .ok (.iconst 0, 1) := by decide +kernel
theorem dL_law_544 : decode cL_law 544 = .ok (.ireturn, 1) := by decide +kernel
theorem dL_commits_0 : decode cL_commits 0 = .ok (.aload_n 0, 1) := by decide +kernel
theorem dL_commits_1 : decode cL_commits 1 = .ok (.invokevirtual 120, 3) := by decide +kernel
theorem dL_commits_4 : decode cL_commits 4 = .ok (.ireturn, 1) := by decide +kernel
