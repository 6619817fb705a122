theorem dX0_init_0 : decode cX0_init 0 = .ok (.aload_n 0, 1) := by decide +kernel
theorem dX0_init_1 : decode cX0_init 1 = .ok (.invokespecial 3, 3) := by decide +kernel
theorem dX0_init_4 : decode cX0_init 4 = .ok (.aload_n 0, 1) := by decide +kernel
theorem dX0_init_5 : decode cX0_init 5 = .ok (.bipush 8, 2) := by decide +kernel
theorem dX0_init_7 : decode cX0_init 7 = .ok (.newarray .int, 2) := by decide +kernel
theorem dX0_init_9 : decode cX0_init 9 = .ok (.putfield 9, 3) := by decide +kernel
theorem dX0_init_12 : decode cX0_init 12 = .ok (.aload_n 0, 1) := by decide +kernel
theorem dX0_init_13 : decode cX0_init 13 = .ok (.bipush 8, 2) := by decide +kernel
theorem dX0_init_15 : decode cX0_init 15 = .ok (.newarray .int, 2) := by decide +kernel
theorem dX0_init_17 : decode cX0_init 17 = .ok (.putfield 15, 3) := by decide +kernel
theorem dX0_init_20 : decode cX0_init 20 = .ok (.aload_n 0, 1) := by decide +kernel
theorem dX0_init_21 : decode cX0_init 21 = .ok (.new 18, 3) := by decide +kernel
theorem dX0_init_24 : decode cX0_init 24 = .ok (.dup, 1) := by decide +kernel
theorem dX0_init_25 : decode cX0_init 25 = .ok (.invokespecial 20, 3) := by decide +kernel
theorem dX0_init_28 : decode cX0_init 28 = .ok (.putfield 21, 3) := by decide +kernel
theorem dX0_init_31 : decode cX0_init 31 = .ok (.aload_n 0, 1) := by decide +kernel
theorem dX0_init_32 : decode cX0_init 32 = .ok (.bipush 8, 2) := by decide +kernel
theorem dX0_init_34 : decode cX0_init 34 = .ok (.newarray .int, 2) := by decide +kernel
theorem dX0_init_36 : decode cX0_init 36 = .ok (.putfield 25, 3) := by decide +kernel
theorem dX0_init_39 : decode cX0_init 39 = .ok (.aload_n 0, 1) := by decide +kernel
theorem dX0_init_40 : decode cX0_init 40 = .ok (.iconst (-1), 1) := by decide +kernel
theorem dX0_init_41 : decode cX0_init 41 = .ok (.putfield 28, 3) := by decide +kernel
theorem dX0_init_44 : decode cX0_init 44 = .ok (.aload_n 0, 1) := by decide +kernel
theorem dX0_init_45 : decode cX0_init 45 = .ok (.iconst (-1), 1) := by decide +kernel
theorem dX0_init_46 : decode cX0_init 46 = .ok (.putfield 32, 3) := by decide +kernel
theorem dX0_init_49 : decode cX0_init 49 = .ok (.return_, 1) := by decide +kernel
theorem dX0_clear_0 : decode cX0_clear 0 = .ok (.iconst 0, 1) := by decide +kernel
theorem dX0_clear_1 : decode cX0_clear 1 = .ok (.istore_n 1, 1) := by decide +kernel
theorem dX0_clear_2 : decode cX0_clear 2 = .ok (.iload_n 1, 1) := by decide +kernel
theorem dX0_clear_3 : decode cX0_clear 3 = .ok (.bipush 8, 2) := by decide +kernel
theorem dX0_clear_5 : decode cX0_clear 5 = .ok (.if_icmp .ge 23, 3) := by decide +kernel
theorem dX0_clear_8 : decode cX0_clear 8 = .ok (.aload_n 0, 1) := by decide +kernel
theorem dX0_clear_9 : decode cX0_clear 9 = .ok (.getfield 9, 3) := by decide +kernel
theorem dX0_clear_12 : decode cX0_clear 12 = .ok (.iload_n 1, 1) := by decide +kernel
theorem dX0_clear_13 : decode cX0_clear 13 = .ok (.iconst 0, 1) := by decide +kernel
theorem dX0_clear_14 : decode cX0_clear 14 = .ok (.iastore, 1) := by decide +kernel
theorem dX0_clear_15 : decode cX0_clear 15 = .ok (.aload_n 0, 1) := by decide +kernel
theorem dX0_clear_16 : decode cX0_clear 16 = .ok (.getfield 15, 3) := by decide +kernel
theorem dX0_clear_19 : decode cX0_clear 19 = .ok (.iload_n 1, 1) := by decide +kernel
theorem dX0_clear_20 : decode cX0_clear 20 = .ok (.iconst 0, 1) := by decide +kernel
theorem dX0_clear_21 : decode cX0_clear 21 = .ok (.iastore, 1) := by decide +kernel
theorem dX0_clear_22 : decode cX0_clear 22 = .ok (.iinc 1 1, 3) := by decide +kernel
theorem dX0_clear_25 : decode cX0_clear 25 = .ok (.goto (-23), 3) := by decide +kernel
theorem dX0_clear_28 : decode cX0_clear 28 = .ok (.aload_n 0, 1) := by decide +kernel
theorem dX0_clear_29 : decode cX0_clear 29 = .ok (.getfield 21, 3) := by decide +kernel
theorem dX0_clear_32 : decode cX0_clear 32 = .ok (.iconst 0, 1) := by decide +kernel
theorem dX0_clear_33 : decode cX0_clear 33 = .ok (.putfield 35, 3) := by decide +kernel
theorem dX0_clear_36 : decode cX0_clear 36 = .ok (.aload_n 0, 1) := by decide +kernel
theorem dX0_clear_37 : decode cX0_clear 37 = .ok (.iconst 0, 1) := by decide +kernel
theorem dX0_clear_38 : decode cX0_clear 38 = .ok (.putfield 38, 3) := by decide +kernel
theorem dX0_clear_41 : decode cX0_clear 41 = .ok (.aload_n 0, 1) := by decide +kernel
theorem dX0_clear_42 : decode cX0_clear 42 = .ok (.iconst 0, 1) := by decide +kernel
theorem dX0_clear_43 : decode cX0_clear 43 = .ok (.putfield 41, 3) := by decide +kernel
theorem dX0_clear_46 : decode cX0_clear 46 = .ok (.aload_n 0, 1) := by decide +kernel
theorem dX0_clear_47 : decode cX0_clear 47 = .ok (.invokevirtual 44, 3) := by decide +kernel
theorem dX0_clear_50 : decode cX0_clear 50 = .ok (.aload_n 0, 1) := by decide +kernel
theorem dX0_clear_51 : decode cX0_clear 51 = .ok (.iconst (-1), 1) := by decide +kernel
theorem dX0_clear_52 : decode cX0_clear 52 = .ok (.putfield 32, 3) := by decide +kernel
theorem dX0_clear_55 : decode cX0_clear 55 = .ok (.aload_n 0, 1) := by decide +kernel
theorem dX0_clear_56 : decode cX0_clear 56 = .ok (.iconst 0, 1) := by decide +kernel
theorem dX0_clear_57 : decode cX0_clear 57 = .ok (.putfield 47, 3) := by decide +kernel
theorem dX0_clear_60 : decode cX0_clear 60 = .ok (.aload_n 0, 1) := by decide +kernel
theorem dX0_clear_61 : decode cX0_clear 61 = .ok (.iconst 0, 1) := by decide +kernel
theorem dX0_clear_62 : decode cX0_clear 62 = .ok (.putfield 50, 3) := by decide +kernel
theorem dX0_clear_65 : decode cX0_clear 65 = .ok (.return_, 1) := by decide +kernel
theorem dX0_copyFrom_0 : decode cX0_copyFrom 0 = .ok (.aload_n 1, 1) := by decide +kernel
theorem dX0_copyFrom_1 : decode cX0_copyFrom 1 = .ok (.getfield 9, 3) := by decide +kernel
theorem dX0_copyFrom_4 : decode cX0_copyFrom 4 = .ok (.iconst 0, 1) := by decide +kernel
theorem dX0_copyFrom_5 : decode cX0_copyFrom 5 = .ok (.aload_n 0, 1) := by decide +kernel
theorem dX0_copyFrom_6 : decode cX0_copyFrom 6 = .ok (.getfield 9, 3) := by decide +kernel
theorem dX0_copyFrom_9 : decode cX0_copyFrom 9 = .ok (.iconst 0, 1) := by decide +kernel
theorem dX0_copyFrom_10 : decode cX0_copyFrom 10 = .ok (.bipush 8, 2) := by decide +kernel
theorem dX0_copyFrom_12 : decode cX0_copyFrom 12 = .ok (.invokestatic 53, 3) := by decide +kernel
theorem dX0_copyFrom_15 : decode cX0_copyFrom 15 = .ok (.aload_n 1, 1) := by decide +kernel
theorem dX0_copyFrom_16 : decode cX0_copyFrom 16 = .ok (.getfield 15, 3) := by decide +kernel
theorem dX0_copyFrom_19 : decode cX0_copyFrom 19 = .ok (.iconst 0, 1) := by decide +kernel
theorem dX0_copyFrom_20 : decode cX0_copyFrom 20 = .ok (.aload_n 0, 1) := by decide +kernel
theorem dX0_copyFrom_21 : decode cX0_copyFrom 21 = .ok (.getfield 15, 3) := by decide +kernel
theorem dX0_copyFrom_24 : decode cX0_copyFrom 24 = .ok (.iconst 0, 1) := by decide +kernel
theorem dX0_copyFrom_25 : decode cX0_copyFrom 25 = .ok (.bipush 8, 2) := by decide +kernel
theorem dX0_copyFrom_27 : decode cX0_copyFrom 27 = .ok (.invokestatic 53, 3) := by decide +kernel
theorem dX0_copyFrom_30 : decode cX0_copyFrom 30 = .ok (.aload_n 0, 1) := by decide +kernel
theorem dX0_copyFrom_31 : decode cX0_copyFrom 31 = .ok (.getfield 21, 3) := by decide +kernel
theorem dX0_copyFrom_34 : decode cX0_copyFrom 34 = .ok (.aload_n 1, 1) := by decide +kernel
theorem dX0_copyFrom_35 : decode cX0_copyFrom 35 = .ok (.getfield 21, 3) := by decide +kernel
theorem dX0_copyFrom_38 : decode cX0_copyFrom 38 = .ok (.invokevirtual 59, 3) := by decide +kernel
theorem dX0_copyFrom_41 : decode cX0_copyFrom 41 = .ok (.aload_n 0, 1) := by decide +kernel
theorem dX0_copyFrom_42 : decode cX0_copyFrom 42 = .ok (.aload_n 1, 1) := by decide +kernel
theorem dX0_copyFrom_43 : decode cX0_copyFrom 43 = .ok (.getfield 38, 3) := by decide +kernel
theorem dX0_copyFrom_46 : decode cX0_copyFrom 46 = .ok (.putfield 38, 3) := by decide +kernel
theorem dX0_copyFrom_49 : decode cX0_copyFrom 49 = .ok (.aload_n 0, 1) := by decide +kernel
theorem dX0_copyFrom_50 : decode cX0_copyFrom 50 = .ok (.aload_n 1, 1) := by decide +kernel
theorem dX0_copyFrom_51 : decode cX0_copyFrom 51 = .ok (.getfield 41, 3) := by decide +kernel
theorem dX0_copyFrom_54 : decode cX0_copyFrom 54 = .ok (.putfield 41, 3) := by decide +kernel
theorem dX0_copyFrom_57 : decode cX0_copyFrom 57 = .ok (.aload_n 0, 1) := by decide +kernel
theorem dX0_copyFrom_58 : decode cX0_copyFrom 58 = .ok (.aload_n 1, 1) := by decide +kernel
theorem dX0_copyFrom_59 : decode cX0_copyFrom 59 = .ok (.getfield 28, 3) := by decide +kernel
theorem dX0_copyFrom_62 : decode cX0_copyFrom 62 = .ok (.putfield 28, 3) := by decide +kernel
theorem dX0_copyFrom_65 : decode cX0_copyFrom 65 = .ok (.aload_n 0, 1) := by decide +kernel
theorem dX0_copyFrom_66 : decode cX0_copyFrom 66 = .ok (.aload_n 1, 1) := by decide +kernel
theorem dX0_copyFrom_67 : decode cX0_copyFrom 67 = .ok (.getfield 32, 3) := by decide +kernel
theorem dX0_copyFrom_70 : decode cX0_copyFrom 70 = .ok (.putfield 32, 3) := by decide +kernel
theorem dX0_copyFrom_73 : decode cX0_copyFrom 73 = .ok (.aload_n 0, 1) := by decide +kernel
theorem dX0_copyFrom_74 : decode cX0_copyFrom 74 = .ok (.aload_n 1, 1) := by decide +kernel
theorem dX0_copyFrom_75 : decode cX0_copyFrom 75 = .ok (.getfield 63, 3) := by decide +kernel
theorem dX0_copyFrom_78 : decode cX0_copyFrom 78 = .ok (.putfield 63, 3) := by decide +kernel
theorem dX0_copyFrom_81 : decode cX0_copyFrom 81 = .ok (.aload_n 0, 1) := by decide +kernel
theorem dX0_copyFrom_82 : decode cX0_copyFrom 82 = .ok (.aload_n 1, 1) := by decide +kernel
theorem dX0_copyFrom_83 : decode cX0_copyFrom 83 = .ok (.getfield 66, 3) := by decide +kernel
theorem dX0_copyFrom_86 : decode cX0_copyFrom 86 = .ok (.putfield 66, 3) := by decide +kernel
theorem dX0_copyFrom_89 : decode cX0_copyFrom 89 = .ok (.aload_n 0, 1) := by decide +kernel
theorem dX0_copyFrom_90 : decode cX0_copyFrom 90 = .ok (.aload_n 1, 1) := by decide +kernel
theorem dX0_copyFrom_91 : decode cX0_copyFrom 91 = .ok (.getfield 69, 3) := by decide +kernel
theorem dX0_copyFrom_94 : decode cX0_copyFrom 94 = .ok (.putfield 69, 3) := by decide +kernel
theorem dX0_copyFrom_97 : decode cX0_copyFrom 97 = .ok (.aload_n 0, 1) := by decide +kernel
theorem dX0_copyFrom_98 : decode cX0_copyFrom 98 = .ok (.aload_n 1, 1) := by decide +kernel
theorem dX0_copyFrom_99 : decode cX0_copyFrom 99 = .ok (.getfield 72, 3) := by decide +kernel
theorem dX0_copyFrom_102 : decode cX0_copyFrom 102 = .ok (.putfield 72, 3) := by decide +kernel
theorem dX0_copyFrom_105 : decode cX0_copyFrom 105 = .ok (.aload_n 0, 1) := by decide +kernel
theorem dX0_copyFrom_106 : decode cX0_copyFrom 106 = .ok (.aload_n 1, 1) := by decide +kernel
theorem dX0_copyFrom_107 : decode cX0_copyFrom 107 = .ok (.getfield 75, 3) := by decide +kernel
theorem dX0_copyFrom_110 : decode cX0_copyFrom 110 = .ok (.putfield 75, 3) := by decide +kernel
theorem dX0_copyFrom_113 : decode cX0_copyFrom 113 = .ok (.aload_n 1, 1) := by decide +kernel
theorem dX0_copyFrom_114 : decode cX0_copyFrom 114 = .ok (.getfield 25, 3) := by decide +kernel
theorem dX0_copyFrom_117 : decode cX0_copyFrom 117 = .ok (.iconst 0, 1) := by decide +kernel
theorem dX0_copyFrom_118 : decode cX0_copyFrom 118 = .ok (.aload_n 0, 1) := by decide +kernel
theorem dX0_copyFrom_119 : decode cX0_copyFrom 119 = .ok (.getfield 25, 3) := by decide +kernel
theorem dX0_copyFrom_122 : decode cX0_copyFrom 122 = .ok (.iconst 0, 1) := by decide +kernel
theorem dX0_copyFrom_123 : decode cX0_copyFrom 123 = .ok (.bipush 8, 2) := by decide +kernel
theorem dX0_copyFrom_125 : decode cX0_copyFrom 125 = .ok (.invokestatic 53, 3) := by decide +kernel
theorem dX0_copyFrom_128 : decode cX0_copyFrom 128 = .ok (.aload_n 0, 1) := by decide +kernel
theorem dX0_copyFrom_129 : decode cX0_copyFrom 129 = .ok (.aload_n 1, 1) := by decide +kernel
theorem dX0_copyFrom_130 : decode cX0_copyFrom 130 = .ok (.getfield 47, 3) := by decide +kernel
theorem dX0_copyFrom_133 : decode cX0_copyFrom 133 = .ok (.putfield 47, 3) := by decide +kernel
theorem dX0_copyFrom_136 : decode cX0_copyFrom 136 = .ok (.aload_n 0, 1) := by decide +kernel
theorem dX0_copyFrom_137 : decode cX0_copyFrom 137 = .ok (.aload_n 1, 1) := by decide +kernel
theorem dX0_copyFrom_138 : decode cX0_copyFrom 138 = .ok (.getfield 50, 3) := by decide +kernel
theorem dX0_copyFrom_141 : decode cX0_copyFrom 141 = .ok (.putfield 50, 3) := by decide +kernel
theorem dX0_copyFrom_144 : decode cX0_copyFrom 144 = .ok (.return_, 1) := by decide +kernel
theorem dX0_takeProgram_0 : decode cX0_takeProgram 0 = .ok (.aload_n 0, 1) := by decide +kernel
theorem dX0_takeProgram_1 : decode cX0_takeProgram 1 = .ok (.getfield 21, 3) := by decide +kernel
theorem dX0_takeProgram_4 : decode cX0_takeProgram 4 = .ok (.aload_n 1, 1) := by decide +kernel
theorem dX0_takeProgram_5 : decode cX0_takeProgram 5 = .ok (.invokevirtual 59, 3) := by decide +kernel
theorem dX0_takeProgram_8 : decode cX0_takeProgram 8 = .ok (.aload_n 0, 1) := by decide +kernel
theorem dX0_takeProgram_9 : decode cX0_takeProgram 9 = .ok (.iconst 0, 1) := by decide +kernel
theorem dX0_takeProgram_10 : decode cX0_takeProgram 10 = .ok (.putfield 38, 3) := by decide +kernel
theorem dX0_takeProgram_13 : decode cX0_takeProgram 13 = .ok (.aload_n 0, 1) := by decide +kernel
theorem dX0_takeProgram_14 : decode cX0_takeProgram 14 = .ok (.iconst 0, 1) := by decide +kernel
theorem dX0_takeProgram_15 : decode cX0_takeProgram 15 = .ok (.putfield 41, 3) := by decide +kernel
theorem dX0_takeProgram_18 : decode cX0_takeProgram 18 = .ok (.aload_n 0, 1) := by decide +kernel
theorem dX0_takeProgram_19 : decode cX0_takeProgram 19 = .ok (.iconst (-1), 1) := by decide +kernel
theorem dX0_takeProgram_20 : decode cX0_takeProgram 20 = .ok (.putfield 32, 3) := by decide +kernel
theorem dX0_takeProgram_23 : decode cX0_takeProgram 23 = .ok (.return_, 1) := by decide +kernel
theorem dX0_isFinished_0 : decode cX0_isFinished 0 = .ok (.aload_n 0, 1) := by decide +kernel
theorem dX0_isFinished_1 : decode cX0_isFinished 1 = .ok (.getfield 38, 3) := by decide +kernel
theorem dX0_isFinished_4 : decode cX0_isFinished 4 = .ok (.ifCond .lt 17, 3) := by decide +kernel
theorem dX0_isFinished_7 : decode cX0_isFinished 7 = .ok (.aload_n 0, 1) := by decide +kernel
theorem dX0_isFinished_8 : decode cX0_isFinished 8 = .ok (.getfield 38, 3) := by decide +kernel
theorem dX0_isFinished_11 : decode cX0_isFinished 11 = .ok (.aload_n 0, 1) := by decide +kernel
theorem dX0_isFinished_12 : decode cX0_isFinished 12 = .ok (.getfield 21, 3) := by decide +kernel
theorem dX0_isFinished_15 : decode cX0_isFinished 15 = .ok (.getfield 35, 3) := by decide +kernel
theorem dX0_isFinished_18 : decode cX0_isFinished 18 = .ok (.if_icmp .lt 7, 3) := by decide +kernel
theorem dX0_isFinished_21 : decode cX0_isFinished 21 = .ok (.iconst 1, 1) := by decide +kernel
theorem dX0_isFinished_22 : decode cX0_isFinished 22 = .ok (.goto 4, 3) := by decide +kernel
theorem dX0_isFinished_25 : decode cX0_isFinished 25 = .ok (.iconst 0, 1) := by decide +kernel
theorem dX0_isFinished_26 : decode cX0_isFinished 26 = .ok (.ireturn, 1) := by decide +kernel
theorem dX0_inTransaction_0 : decode cX0_inTransaction 0 = .ok (.aload_n 0, 1) := by decide +kernel
theorem dX0_inTransaction_1 : decode cX0_inTransaction 1 = .ok (.getfield 28, 3) := by decide +kernel
theorem dX0_inTransaction_4 : decode cX0_inTransaction 4 = .ok (.iconst (-1), 1) := by decide +kernel
theorem dX0_inTransaction_5 : decode cX0_inTransaction 5 = .ok (.if_icmp .eq 7, 3) := by decide +kernel
theorem dX0_inTransaction_8 : decode cX0_inTransaction 8 = .ok (.iconst 1, 1) := by decide +kernel
theorem dX0_inTransaction_9 : decode cX0_inTransaction 9 = .ok (.goto 4, 3) := by decide +kernel
theorem dX0_inTransaction_12 : decode cX0_inTransaction 12 = .ok (.iconst 0, 1) := by decide +kernel
theorem dX0_inTransaction_13 : decode cX0_inTransaction 13 = .ok (.ireturn, 1) := by decide +kernel
theorem dX0_beginTransaction_0 : decode cX0_beginTransaction 0 = .ok (.aload_n 0, 1) := by decide +kernel
theorem dX0_beginTransaction_1 : decode cX0_beginTransaction 1 = .ok (.iload_n 1, 1) := by decide +kernel
theorem dX0_beginTransaction_2 : decode cX0_beginTransaction 2 = .ok (.putfield 28, 3) := by decide +kernel
theorem dX0_beginTransaction_5 : decode cX0_beginTransaction 5 = .ok (.aload_n 0, 1) := by decide +kernel
theorem dX0_beginTransaction_6 : decode cX0_beginTransaction 6 = .ok (.iconst (-1), 1) := by decide +kernel
theorem dX0_beginTransaction_7 : decode cX0_beginTransaction 7 = .ok (.putfield 32, 3) := by decide +kernel
theorem dX0_beginTransaction_10 : decode cX0_beginTransaction 10 = .ok (.aload_n 0, 1) := by decide +kernel
theorem dX0_beginTransaction_11 : decode cX0_beginTransaction 11 = .ok (.aload_n 0, 1) := by decide +kernel
theorem dX0_beginTransaction_12 : decode cX0_beginTransaction 12 = .ok (.getfield 38, 3) := by decide +kernel
theorem dX0_beginTransaction_15 : decode cX0_beginTransaction 15 = .ok (.putfield 63, 3) := by decide +kernel
theorem dX0_beginTransaction_18 : decode cX0_beginTransaction 18 = .ok (.aload_n 0, 1) := by decide +kernel
theorem dX0_beginTransaction_19 : decode cX0_beginTransaction 19 = .ok (.aload_n 0, 1) := by decide +kernel
theorem dX0_beginTransaction_20 : decode cX0_beginTransaction 20 = .ok (.getfield 41, 3) := by decide +kernel
theorem dX0_beginTransaction_23 : decode cX0_beginTransaction 23 = .ok (.putfield 66, 3) := by decide +kernel
theorem dX0_beginTransaction_26 : decode cX0_beginTransaction 26 = .ok (.return_, 1) := by decide +kernel
theorem dX0_endTransaction_0 : decode cX0_endTransaction 0 = .ok (.aload_n 0, 1) := by decide +kernel
theorem dX0_endTransaction_1 : decode cX0_endTransaction 1 = .ok (.iconst (-1), 1) := by decide +kernel
theorem dX0_endTransaction_2 : decode cX0_endTransaction 2 = .ok (.putfield 28, 3) := by decide +kernel
theorem dX0_endTransaction_5 : decode cX0_endTransaction 5 = .ok (.aload_n 0, 1) := by decide +kernel
theorem dX0_endTransaction_6 : decode cX0_endTransaction 6 = .ok (.iconst 0, 1) := by decide +kernel
theorem dX0_endTransaction_7 : decode cX0_endTransaction 7 = .ok (.putfield 69, 3) := by decide +kernel
theorem dX0_endTransaction_10 : decode cX0_endTransaction 10 = .ok (.aload_n 0, 1) := by decide +kernel
theorem dX0_endTransaction_11 : decode cX0_endTransaction 11 = .ok (.iconst 0, 1) := by decide +kernel
theorem dX0_endTransaction_12 : decode cX0_endTransaction 12 = .ok (.putfield 72, 3) := by decide +kernel
theorem dX0_endTransaction_15 : decode cX0_endTransaction 15 = .ok (.aload_n 0, 1) := by decide +kernel
theorem dX0_endTransaction_16 : decode cX0_endTransaction 16 = .ok (.iconst 0, 1) := by decide +kernel
theorem dX0_endTransaction_17 : decode cX0_endTransaction 17 = .ok (.putfield 75, 3) := by decide +kernel
theorem dX0_endTransaction_20 : decode cX0_endTransaction 20 = .ok (.return_, 1) := by decide +kernel
theorem dX0_rollBack_0 : decode cX0_rollBack 0 = .ok (.iconst 0, 1) := by decide +kernel
theorem dX0_rollBack_1 : decode cX0_rollBack 1 = .ok (.istore_n 1, 1) := by decide +kernel
theorem dX0_rollBack_2 : decode cX0_rollBack 2 = .ok (.iload_n 1, 1) := by decide +kernel
theorem dX0_rollBack_3 : decode cX0_rollBack 3 = .ok (.bipush 8, 2) := by decide +kernel
theorem dX0_rollBack_5 : decode cX0_rollBack 5 = .ok (.if_icmp .ge 27, 3) := by decide +kernel
theorem dX0_rollBack_8 : decode cX0_rollBack 8 = .ok (.aload_n 0, 1) := by decide +kernel
theorem dX0_rollBack_9 : decode cX0_rollBack 9 = .ok (.getfield 72, 3) := by decide +kernel
theorem dX0_rollBack_12 : decode cX0_rollBack 12 = .ok (.iload_n 1, 1) := by decide +kernel
theorem dX0_rollBack_13 : decode cX0_rollBack 13 = .ok (.invokestatic 78, 3) := by decide +kernel
theorem dX0_rollBack_16 : decode cX0_rollBack 16 = .ok (.ifCond .eq 10, 3) := by decide +kernel
theorem dX0_rollBack_19 : decode cX0_rollBack 19 = .ok (.aload_n 0, 1) := by decide +kernel
theorem dX0_rollBack_20 : decode cX0_rollBack 20 = .ok (.getfield 9, 3) := by decide +kernel
theorem dX0_rollBack_23 : decode cX0_rollBack 23 = .ok (.iload_n 1, 1) := by decide +kernel
theorem dX0_rollBack_24 : decode cX0_rollBack 24 = .ok (.iconst 0, 1) := by decide +kernel
theorem dX0_rollBack_25 : decode cX0_rollBack 25 = .ok (.iastore, 1) := by decide +kernel
theorem dX0_rollBack_26 : decode cX0_rollBack 26 = .ok (.iinc 1 1, 3) := by decide +kernel
theorem dX0_rollBack_29 : decode cX0_rollBack 29 = .ok (.goto (-27), 3) := by decide +kernel
theorem dX0_rollBack_32 : decode cX0_rollBack 32 = .ok (.aload_n 0, 1) := by decide +kernel
theorem dX0_rollBack_33 : decode cX0_rollBack 33 = .ok (.aload_n 0, 1) := by decide +kernel
theorem dX0_rollBack_34 : decode cX0_rollBack 34 = .ok (.getfield 28, 3) := by decide +kernel
theorem dX0_rollBack_37 : decode cX0_rollBack 37 = .ok (.putfield 32, 3) := by decide +kernel
theorem dX0_rollBack_40 : decode cX0_rollBack 40 = .ok (.aload_n 0, 1) := by decide +kernel
theorem dX0_rollBack_41 : decode cX0_rollBack 41 = .ok (.invokevirtual 44, 3) := by decide +kernel
theorem dX0_rollBack_44 : decode cX0_rollBack 44 = .ok (.aload_n 0, 1) := by decide +kernel
theorem dX0_rollBack_45 : decode cX0_rollBack 45 = .ok (.aload_n 0, 1) := by decide +kernel
theorem dX0_rollBack_46 : decode cX0_rollBack 46 = .ok (.getfield 63, 3) := by decide +kernel
theorem dX0_rollBack_49 : decode cX0_rollBack 49 = .ok (.putfield 38, 3) := by decide +kernel
theorem dX0_rollBack_52 : decode cX0_rollBack 52 = .ok (.aload_n 0, 1) := by decide +kernel
theorem dX0_rollBack_53 : decode cX0_rollBack 53 = .ok (.aload_n 0, 1) := by decide +kernel
theorem dX0_rollBack_54 : decode cX0_rollBack 54 = .ok (.getfield 66, 3) := by decide +kernel
theorem dX0_rollBack_57 : decode cX0_rollBack 57 = .ok (.putfield 41, 3) := by decide +kernel
theorem dX0_rollBack_60 : decode cX0_rollBack 60 = .ok (.aload_n 0, 1) := by decide +kernel
theorem dX0_rollBack_61 : decode cX0_rollBack 61 = .ok (.dup, 1) := by decide +kernel
theorem dX0_rollBack_62 : decode cX0_rollBack 62 = .ok (.getfield 50, 3) := by decide +kernel
theorem dX0_rollBack_65 : decode cX0_rollBack 65 = .ok (.iconst 1, 1) := by decide +kernel
theorem dX0_rollBack_66 : decode cX0_rollBack 66 = .ok (.iadd, 1) := by decide +kernel
theorem dX0_rollBack_67 : decode cX0_rollBack 67 = .ok (.putfield 50, 3) := by decide +kernel
theorem dX0_rollBack_70 : decode cX0_rollBack 70 = .ok (.return_, 1) := by decide +kernel
theorem dX0_isHurtBy_0 : decode cX0_isHurtBy 0 = .ok (.iload_n 2, 1) := by decide +kernel
theorem dX0_isHurtBy_1 : decode cX0_isHurtBy 1 = .ok (.ifCond .eq 15, 3) := by decide +kernel
theorem dX0_isHurtBy_4 : decode cX0_isHurtBy 4 = .ok (.aload_n 0, 1) := by decide +kernel
theorem dX0_isHurtBy_5 : decode cX0_isHurtBy 5 = .ok (.getfield 69, 3) := by decide +kernel
theorem dX0_isHurtBy_8 : decode cX0_isHurtBy 8 = .ok (.aload_n 0, 1) := by decide +kernel
theorem dX0_isHurtBy_9 : decode cX0_isHurtBy 9 = .ok (.getfield 72, 3) := by decide +kernel
theorem dX0_isHurtBy_12 : decode cX0_isHurtBy 12 = .ok (.ior, 1) := by decide +kernel
theorem dX0_isHurtBy_13 : decode cX0_isHurtBy 13 = .ok (.goto 7, 3) := by decide +kernel
theorem dX0_isHurtBy_16 : decode cX0_isHurtBy 16 = .ok (.aload_n 0, 1) := by decide +kernel
theorem dX0_isHurtBy_17 : decode cX0_isHurtBy 17 = .ok (.getfield 72, 3) := by decide +kernel
theorem dX0_isHurtBy_20 : decode cX0_isHurtBy 20 = .ok (.iload_n 1, 1) := by decide +kernel
theorem dX0_isHurtBy_21 : decode cX0_isHurtBy 21 = .ok (.invokestatic 78, 3) := by decide +kernel
theorem dX0_isHurtBy_24 : decode cX0_isHurtBy 24 = .ok (.ireturn, 1) := by decide +kernel
theorem dX0_hasNoRoomFor_0 : decode cX0_hasNoRoomFor 0 = .ok (.aload_n 0, 1) := by decide +kernel
theorem dX0_hasNoRoomFor_1 : decode cX0_hasNoRoomFor 1 = .ok (.invokevirtual 82, 3) := by decide +kernel
theorem dX0_hasNoRoomFor_4 : decode cX0_hasNoRoomFor 4 = .ok (.ifCond .eq 29, 3) := by decide +kernel
theorem dX0_hasNoRoomFor_7 : decode cX0_hasNoRoomFor 7 = .ok (.aload_n 0, 1) := by decide +kernel
theorem dX0_hasNoRoomFor_8 : decode cX0_hasNoRoomFor 8 = .ok (.getfield 72, 3) := by decide +kernel
theorem dX0_hasNoRoomFor_11 : decode cX0_hasNoRoomFor 11 = .ok (.iload_n 1, 1) := by decide +kernel
theorem dX0_hasNoRoomFor_12 : decode cX0_hasNoRoomFor 12 = .ok (.invokestatic 78, 3) := by decide +kernel
theorem dX0_hasNoRoomFor_15 : decode cX0_hasNoRoomFor 15 = .ok (.ifCond .ne 18, 3) := by decide +kernel
theorem dX0_hasNoRoomFor_18 : decode cX0_hasNoRoomFor 18 = .ok (.aload_n 0, 1) := by decide +kernel
theorem dX0_hasNoRoomFor_19 : decode cX0_hasNoRoomFor 19 = .ok (.getfield 72, 3) := by decide +kernel
theorem dX0_hasNoRoomFor_22 : decode cX0_hasNoRoomFor 22 = .ok (.invokestatic 86, 3) := by decide +kernel
theorem dX0_hasNoRoomFor_25 : decode cX0_hasNoRoomFor 25 = .ok (.iload_n 2, 1) := by decide +kernel
theorem dX0_hasNoRoomFor_26 : decode cX0_hasNoRoomFor 26 = .ok (.if_icmp .lt 7, 3) := by decide +kernel
theorem dX0_hasNoRoomFor_29 : decode cX0_hasNoRoomFor 29 = .ok (.iconst 1, 1) := by decide +kernel
theorem dX0_hasNoRoomFor_30 : decode cX0_hasNoRoomFor 30 = .ok (.goto 4, 3) := by decide +kernel
theorem dX0_hasNoRoomFor_33 : decode cX0_hasNoRoomFor 33 = .ok (.iconst 0, 1) := by decide +kernel
theorem dX0_hasNoRoomFor_34 : decode cX0_hasNoRoomFor 34 = .ok (.ireturn, 1) := by decide +kernel
theorem dX0_noteRead_0 : decode cX0_noteRead 0 = .ok (.aload_n 0, 1) := by decide +kernel
theorem dX0_noteRead_1 : decode cX0_noteRead 1 = .ok (.invokevirtual 82, 3) := by decide +kernel
theorem dX0_noteRead_4 : decode cX0_noteRead 4 = .ok (.ifCond .ne 4, 3) := by decide +kernel
theorem dX0_noteRead_7 : decode cX0_noteRead 7 = .ok (.return_, 1) := by decide +kernel
theorem dX0_noteRead_8 : decode cX0_noteRead 8 = .ok (.aload_n 0, 1) := by decide +kernel
theorem dX0_noteRead_9 : decode cX0_noteRead 9 = .ok (.getfield 72, 3) := by decide +kernel
theorem dX0_noteRead_12 : decode cX0_noteRead 12 = .ok (.aload_n 0, 1) := by decide +kernel
theorem dX0_noteRead_13 : decode cX0_noteRead 13 = .ok (.getfield 75, 3) := by decide +kernel
theorem dX0_noteRead_16 : decode cX0_noteRead 16 = .ok (.ior, 1) := by decide +kernel
theorem dX0_noteRead_17 : decode cX0_noteRead 17 = .ok (.iload_n 1, 1) := by decide +kernel
theorem dX0_noteRead_18 : decode cX0_noteRead 18 = .ok (.invokestatic 78, 3) := by decide +kernel
theorem dX0_noteRead_21 : decode cX0_noteRead 21 = .ok (.ifCond .ne 27, 3) := by decide +kernel
theorem dX0_noteRead_24 : decode cX0_noteRead 24 = .ok (.aload_n 0, 1) := by decide +kernel
theorem dX0_noteRead_25 : decode cX0_noteRead 25 = .ok (.dup, 1) := by decide +kernel
theorem dX0_noteRead_26 : decode cX0_noteRead 26 = .ok (.getfield 75, 3) := by decide +kernel
theorem dX0_noteRead_29 : decode cX0_noteRead 29 = .ok (.iconst 1, 1) := by decide +kernel
theorem dX0_noteRead_30 : decode cX0_noteRead 30 = .ok (.iload_n 1, 1) := by decide +kernel
theorem dX0_noteRead_31 : decode cX0_noteRead 31 = .ok (.ishl, 1) := by decide +kernel
theorem dX0_noteRead_32 : decode cX0_noteRead 32 = .ok (.ior, 1) := by decide +kernel
theorem dX0_noteRead_33 : decode cX0_noteRead 33 = .ok (.putfield 75, 3) := by decide +kernel
theorem dX0_noteRead_36 : decode cX0_noteRead 36 = .ok (.aload_n 0, 1) := by decide +kernel
theorem dX0_noteRead_37 : decode cX0_noteRead 37 = .ok (.getfield 25, 3) := by decide +kernel
theorem dX0_noteRead_40 : decode cX0_noteRead 40 = .ok (.iload_n 1, 1) := by decide +kernel
theorem dX0_noteRead_41 : decode cX0_noteRead 41 = .ok (.aload_n 0, 1) := by decide +kernel
theorem dX0_noteRead_42 : decode cX0_noteRead 42 = .ok (.getfield 15, 3) := by decide +kernel
theorem dX0_noteRead_45 : decode cX0_noteRead 45 = .ok (.iload_n 1, 1) := by decide +kernel
theorem dX0_noteRead_46 : decode cX0_noteRead 46 = .ok (.iaload, 1) := by decide +kernel
theorem dX0_noteRead_47 : decode cX0_noteRead 47 = .ok (.iastore, 1) := by decide +kernel
theorem dX0_noteRead_48 : decode cX0_noteRead 48 = .ok (.aload_n 0, 1) := by decide +kernel
theorem dX0_noteRead_49 : decode cX0_noteRead 49 = .ok (.dup, 1) := by decide +kernel
theorem dX0_noteRead_50 : decode cX0_noteRead 50 = .ok (.getfield 69, 3) := by decide +kernel
theorem dX0_noteRead_53 : decode cX0_noteRead 53 = .ok (.iconst 1, 1) := by decide +kernel
theorem dX0_noteRead_54 : decode cX0_noteRead 54 = .ok (.iload_n 1, 1) := by decide +kernel
theorem dX0_noteRead_55 : decode cX0_noteRead 55 = .ok (.ishl, 1) := by decide +kernel
theorem dX0_noteRead_56 : decode cX0_noteRead 56 = .ok (.ior, 1) := by decide +kernel
theorem dX0_noteRead_57 : decode cX0_noteRead 57 = .ok (.putfield 69, 3) := by decide +kernel
theorem dX0_noteRead_60 : decode cX0_noteRead 60 = .ok (.return_, 1) := by decide +kernel
theorem dX0_fact_0 : decode cX0_fact 0 = .ok (.iload_n 1, 1) := by decide +kernel
theorem dX0_fact_1 : decode cX0_fact 1 = .ok (.tableswitch 63 0 4 #[35, 40, 45, 53, 58], 35) := by decide +kernel
theorem dX0_fact_36 : decode cX0_fact 36 = .ok (.aload_n 0, 1) := by decide +kernel
theorem dX0_fact_37 : decode cX0_fact 37 = .ok (.getfield 41, 3) := by decide +kernel
theorem dX0_fact_40 : decode cX0_fact 40 = .ok (.ireturn, 1) := by decide +kernel
theorem dX0_fact_41 : decode cX0_fact 41 = .ok (.aload_n 0, 1) := by decide +kernel
theorem dX0_fact_42 : decode cX0_fact 42 = .ok (.getfield 38, 3) := by decide +kernel
theorem dX0_fact_45 : decode cX0_fact 45 = .ok (.ireturn, 1) := by decide +kernel
theorem dX0_fact_46 : decode cX0_fact 46 = .ok (.aload_n 0, 1) := by decide +kernel
theorem dX0_fact_47 : decode cX0_fact 47 = .ok (.getfield 21, 3) := by decide +kernel
theorem dX0_fact_50 : decode cX0_fact 50 = .ok (.getfield 35, 3) := by decide +kernel
theorem dX0_fact_53 : decode cX0_fact 53 = .ok (.ireturn, 1) := by decide +kernel
theorem dX0_fact_54 : decode cX0_fact 54 = .ok (.aload_n 0, 1) := by decide +kernel
theorem dX0_fact_55 : decode cX0_fact 55 = .ok (.getfield 28, 3) := by decide +kernel
theorem dX0_fact_58 : decode cX0_fact 58 = .ok (.ireturn, 1) := by decide +kernel
theorem dX0_fact_59 : decode cX0_fact 59 = .ok (.aload_n 0, 1) := by decide +kernel
theorem dX0_fact_60 : decode cX0_fact 60 = .ok (.getfield 47, 3) := by decide +kernel
theorem dX0_fact_63 : decode cX0_fact 63 = .ok (.ireturn, 1) := by decide +kernel
theorem dX0_fact_64 : decode cX0_fact 64 = .ok (.aload_n 0, 1) := by decide +kernel
theorem dX0_fact_65 : decode cX0_fact 65 = .ok (.getfield 50, 3) := by decide +kernel
theorem dX0_fact_68 : decode cX0_fact 68 = .ok (.ireturn, 1) := by decide +kernel
theorem dX1_init_0 : decode cX1_init 0 = .ok (.aload_n 0, 1) := by decide +kernel
theorem dX1_init_1 : decode cX1_init 1 = .ok (.invokespecial 3, 3) := by decide +kernel
theorem dX1_init_4 : decode cX1_init 4 = .ok (.aload_n 0, 1) := by decide +kernel
theorem dX1_init_5 : decode cX1_init 5 = .ok (.iload_n 1, 1) := by decide +kernel
theorem dX1_init_6 : decode cX1_init 6 = .ok (.ifCond .ge 7, 3) := by decide +kernel
theorem dX1_init_9 : decode cX1_init 9 = .ok (.iconst 0, 1) := by decide +kernel
theorem dX1_init_10 : decode cX1_init 10 = .ok (.goto 4, 3) := by decide +kernel
theorem dX1_init_13 : decode cX1_init 13 = .ok (.iload_n 1, 1) := by decide +kernel
theorem dX1_init_14 : decode cX1_init 14 = .ok (.putfield 9, 3) := by decide +kernel
theorem dX1_init_17 : decode cX1_init 17 = .ok (.aload_n 0, 1) := by decide +kernel
theorem dX1_init_18 : decode cX1_init 18 = .ok (.aload_n 0, 1) := by decide +kernel
theorem dX1_init_19 : decode cX1_init 19 = .ok (.getfield 9, 3) := by decide +kernel
theorem dX1_init_22 : decode cX1_init 22 = .ok (.newarray .int, 2) := by decide +kernel
theorem dX1_init_24 : decode cX1_init 24 = .ok (.putfield 15, 3) := by decide +kernel
theorem dX1_init_27 : decode cX1_init 27 = .ok (.aload_n 0, 1) := by decide +kernel
theorem dX1_init_28 : decode cX1_init 28 = .ok (.aload_n 0, 1) := by decide +kernel
theorem dX1_init_29 : decode cX1_init 29 = .ok (.getfield 9, 3) := by decide +kernel
theorem dX1_init_32 : decode cX1_init 32 = .ok (.newarray .int, 2) := by decide +kernel
theorem dX1_init_34 : decode cX1_init 34 = .ok (.putfield 19, 3) := by decide +kernel
theorem dX1_init_37 : decode cX1_init 37 = .ok (.aload_n 0, 1) := by decide +kernel
theorem dX1_init_38 : decode cX1_init 38 = .ok (.aload_n 0, 1) := by decide +kernel
theorem dX1_init_39 : decode cX1_init 39 = .ok (.getfield 9, 3) := by decide +kernel
theorem dX1_init_42 : decode cX1_init 42 = .ok (.newarray .int, 2) := by decide +kernel
theorem dX1_init_44 : decode cX1_init 44 = .ok (.putfield 22, 3) := by decide +kernel
theorem dX1_init_47 : decode cX1_init 47 = .ok (.aload_n 0, 1) := by decide +kernel
theorem dX1_init_48 : decode cX1_init 48 = .ok (.aload_n 0, 1) := by decide +kernel
theorem dX1_init_49 : decode cX1_init 49 = .ok (.getfield 9, 3) := by decide +kernel
theorem dX1_init_52 : decode cX1_init 52 = .ok (.newarray .int, 2) := by decide +kernel
theorem dX1_init_54 : decode cX1_init 54 = .ok (.putfield 25, 3) := by decide +kernel
theorem dX1_init_57 : decode cX1_init 57 = .ok (.aload_n 0, 1) := by decide +kernel
theorem dX1_init_58 : decode cX1_init 58 = .ok (.aload_n 0, 1) := by decide +kernel
theorem dX1_init_59 : decode cX1_init 59 = .ok (.getfield 9, 3) := by decide +kernel
theorem dX1_init_62 : decode cX1_init 62 = .ok (.bipush 8, 2) := by decide +kernel
theorem dX1_init_64 : decode cX1_init 64 = .ok (.imul, 1) := by decide +kernel
theorem dX1_init_65 : decode cX1_init 65 = .ok (.newarray .int, 2) := by decide +kernel
theorem dX1_init_67 : decode cX1_init 67 = .ok (.putfield 28, 3) := by decide +kernel
theorem dX1_init_70 : decode cX1_init 70 = .ok (.aload_n 0, 1) := by decide +kernel
theorem dX1_init_71 : decode cX1_init 71 = .ok (.aload_n 0, 1) := by decide +kernel
theorem dX1_init_72 : decode cX1_init 72 = .ok (.getfield 9, 3) := by decide +kernel
theorem dX1_init_75 : decode cX1_init 75 = .ok (.bipush 8, 2) := by decide +kernel
theorem dX1_init_77 : decode cX1_init 77 = .ok (.imul, 1) := by decide +kernel
theorem dX1_init_78 : decode cX1_init 78 = .ok (.newarray .int, 2) := by decide +kernel
theorem dX1_init_80 : decode cX1_init 80 = .ok (.putfield 31, 3) := by decide +kernel
theorem dX1_init_83 : decode cX1_init 83 = .ok (.aload_n 0, 1) := by decide +kernel
theorem dX1_init_84 : decode cX1_init 84 = .ok (.iconst 0, 1) := by decide +kernel
theorem dX1_init_85 : decode cX1_init 85 = .ok (.putfield 34, 3) := by decide +kernel
theorem dX1_init_88 : decode cX1_init 88 = .ok (.return_, 1) := by decide +kernel
theorem dX1_hasEntry_0 : decode cX1_hasEntry 0 = .ok (.iload_n 1, 1) := by decide +kernel
theorem dX1_hasEntry_1 : decode cX1_hasEntry 1 = .ok (.ifCond .lt 23, 3) := by decide +kernel
theorem dX1_hasEntry_4 : decode cX1_hasEntry 4 = .ok (.iload_n 1, 1) := by decide +kernel
theorem dX1_hasEntry_5 : decode cX1_hasEntry 5 = .ok (.aload_n 0, 1) := by decide +kernel
theorem dX1_hasEntry_6 : decode cX1_hasEntry 6 = .ok (.getfield 34, 3) := by decide +kernel
theorem dX1_hasEntry_9 : decode cX1_hasEntry 9 = .ok (.if_icmp .ge 15, 3) := by decide +kernel
theorem dX1_hasEntry_12 : decode cX1_hasEntry 12 = .ok (.iload_n 1, 1) := by decide +kernel
theorem dX1_hasEntry_13 : decode cX1_hasEntry 13 = .ok (.aload_n 0, 1) := by decide +kernel
theorem dX1_hasEntry_14 : decode cX1_hasEntry 14 = .ok (.getfield 9, 3) := by decide +kernel
theorem dX1_hasEntry_17 : decode cX1_hasEntry 17 = .ok (.if_icmp .ge 7, 3) := by decide +kernel
theorem dX1_hasEntry_20 : decode cX1_hasEntry 20 = .ok (.iconst 1, 1) := by decide +kernel
theorem dX1_hasEntry_21 : decode cX1_hasEntry 21 = .ok (.goto 4, 3) := by decide +kernel
theorem dX1_hasEntry_24 : decode cX1_hasEntry 24 = .ok (.iconst 0, 1) := by decide +kernel
theorem dX1_hasEntry_25 : decode cX1_hasEntry 25 = .ok (.ireturn, 1) := by decide +kernel
theorem dX1_addTransaction_0 : decode cX1_addTransaction 0 = .ok (.aload_n 0, 1) := by decide +kernel
theorem dX1_addTransaction_1 : decode cX1_addTransaction 1 = .ok (.iload_n 1, 1) := by decide +kernel
theorem dX1_addTransaction_2 : decode cX1_addTransaction 2 = .ok (.aload_n 2, 1) := by decide +kernel
theorem dX1_addTransaction_3 : decode cX1_addTransaction 3 = .ok (.getfield 37, 3) := by decide +kernel
theorem dX1_addTransaction_6 : decode cX1_addTransaction 6 = .ok (.aload_n 2, 1) := by decide +kernel
theorem dX1_addTransaction_7 : decode cX1_addTransaction 7 = .ok (.getfield 42, 3) := by decide +kernel
theorem dX1_addTransaction_10 : decode cX1_addTransaction 10 = .ok (.aload_n 2, 1) := by decide +kernel
theorem dX1_addTransaction_11 : decode cX1_addTransaction 11 = .ok (.getfield 45, 3) := by decide +kernel
theorem dX1_addTransaction_14 : decode cX1_addTransaction 14 = .ok (.aload_n 2, 1) := by decide +kernel
theorem dX1_addTransaction_15 : decode cX1_addTransaction 15 = .ok (.getfield 48, 3) := by decide +kernel
theorem dX1_addTransaction_18 : decode cX1_addTransaction 18 = .ok (.aload_n 2, 1) := by decide +kernel
theorem dX1_addTransaction_19 : decode cX1_addTransaction 19 = .ok (.getfield 51, 3) := by decide +kernel
theorem dX1_addTransaction_22 : decode cX1_addTransaction 22 = .ok (.invokevirtual 54, 3) := by decide +kernel
theorem dX1_addTransaction_25 : decode cX1_addTransaction 25 = .ok (.return_, 1) := by decide +kernel
theorem dX1_addWrite_0 : decode cX1_addWrite 0 = .ok (.aload_n 0, 1) := by decide +kernel
theorem dX1_addWrite_1 : decode cX1_addWrite 1 = .ok (.iload_n 1, 1) := by decide +kernel
theorem dX1_addWrite_2 : decode cX1_addWrite 2 = .ok (.iconst (-1), 1) := by decide +kernel
theorem dX1_addWrite_3 : decode cX1_addWrite 3 = .ok (.iconst 0, 1) := by decide +kernel
theorem dX1_addWrite_4 : decode cX1_addWrite 4 = .ok (.aload_n 3, 1) := by decide +kernel
theorem dX1_addWrite_5 : decode cX1_addWrite 5 = .ok (.iconst 1, 1) := by decide +kernel
theorem dX1_addWrite_6 : decode cX1_addWrite 6 = .ok (.iload_n 2, 1) := by decide +kernel
theorem dX1_addWrite_7 : decode cX1_addWrite 7 = .ok (.ishl, 1) := by decide +kernel
theorem dX1_addWrite_8 : decode cX1_addWrite 8 = .ok (.aload_n 3, 1) := by decide +kernel
theorem dX1_addWrite_9 : decode cX1_addWrite 9 = .ok (.invokevirtual 54, 3) := by decide +kernel
theorem dX1_addWrite_12 : decode cX1_addWrite 12 = .ok (.return_, 1) := by decide +kernel
theorem dX1_addEntry_0 : decode cX1_addEntry 0 = .ok (.aload_n 0, 1) := by decide +kernel
theorem dX1_addEntry_1 : decode cX1_addEntry 1 = .ok (.getfield 34, 3) := by decide +kernel
theorem dX1_addEntry_4 : decode cX1_addEntry 4 = .ok (.ifCond .lt 14, 3) := by decide +kernel
theorem dX1_addEntry_7 : decode cX1_addEntry 7 = .ok (.aload_n 0, 1) := by decide +kernel
theorem dX1_addEntry_8 : decode cX1_addEntry 8 = .ok (.getfield 34, 3) := by decide +kernel
theorem dX1_addEntry_11 : decode cX1_addEntry 11 = .ok (.aload_n 0, 1) := by decide +kernel
theorem dX1_addEntry_12 : decode cX1_addEntry 12 = .ok (.getfield 9, 3) := by decide +kernel
theorem dX1_addEntry_15 : decode cX1_addEntry 15 = .ok (.if_icmp .lt 4, 3) := by decide +kernel
theorem dX1_addEntry_18 : decode cX1_addEntry 18 = .ok (.return_, 1) := by decide +kernel
theorem dX1_addEntry_19 : decode cX1_addEntry 19 = .ok (.aload_n 0, 1) := by decide +kernel
theorem dX1_addEntry_20 : decode cX1_addEntry 20 = .ok (.getfield 15, 3) := by decide +kernel
theorem dX1_addEntry_23 : decode cX1_addEntry 23 = .ok (.aload_n 0, 1) := by decide +kernel
theorem dX1_addEntry_24 : decode cX1_addEntry 24 = .ok (.getfield 34, 3) := by decide +kernel
theorem dX1_addEntry_27 : decode cX1_addEntry 27 = .ok (.iload_n 1, 1) := by decide +kernel
theorem dX1_addEntry_28 : decode cX1_addEntry 28 = .ok (.iastore, 1) := by decide +kernel
theorem dX1_addEntry_29 : decode cX1_addEntry 29 = .ok (.aload_n 0, 1) := by decide +kernel
theorem dX1_addEntry_30 : decode cX1_addEntry 30 = .ok (.getfield 19, 3) := by decide +kernel
theorem dX1_addEntry_33 : decode cX1_addEntry 33 = .ok (.aload_n 0, 1) := by decide +kernel
theorem dX1_addEntry_34 : decode cX1_addEntry 34 = .ok (.getfield 34, 3) := by decide +kernel
theorem dX1_addEntry_37 : decode cX1_addEntry 37 = .ok (.iload_n 2, 1) := by decide +kernel
theorem dX1_addEntry_38 : decode cX1_addEntry 38 = .ok (.iastore, 1) := by decide +kernel
theorem dX1_addEntry_39 : decode cX1_addEntry 39 = .ok (.aload_n 0, 1) := by decide +kernel
theorem dX1_addEntry_40 : decode cX1_addEntry 40 = .ok (.getfield 22, 3) := by decide +kernel
theorem dX1_addEntry_43 : decode cX1_addEntry 43 = .ok (.aload_n 0, 1) := by decide +kernel
theorem dX1_addEntry_44 : decode cX1_addEntry 44 = .ok (.getfield 34, 3) := by decide +kernel
theorem dX1_addEntry_47 : decode cX1_addEntry 47 = .ok (.iload_n 3, 1) := by decide +kernel
theorem dX1_addEntry_48 : decode cX1_addEntry 48 = .ok (.iastore, 1) := by decide +kernel
theorem dX1_addEntry_49 : decode cX1_addEntry 49 = .ok (.aload_n 0, 1) := by decide +kernel
theorem dX1_addEntry_50 : decode cX1_addEntry 50 = .ok (.getfield 25, 3) := by decide +kernel
theorem dX1_addEntry_53 : decode cX1_addEntry 53 = .ok (.aload_n 0, 1) := by decide +kernel
theorem dX1_addEntry_54 : decode cX1_addEntry 54 = .ok (.getfield 34, 3) := by decide +kernel
theorem dX1_addEntry_57 : decode cX1_addEntry 57 = .ok (.iload 5, 2) := by decide +kernel
theorem dX1_addEntry_59 : decode cX1_addEntry 59 = .ok (.iastore, 1) := by decide +kernel
theorem dX1_addEntry_60 : decode cX1_addEntry 60 = .ok (.iconst 0, 1) := by decide +kernel
theorem dX1_addEntry_61 : decode cX1_addEntry 61 = .ok (.istore 7, 2) := by decide +kernel
theorem dX1_addEntry_63 : decode cX1_addEntry 63 = .ok (.iload 7, 2) := by decide +kernel
theorem dX1_addEntry_65 : decode cX1_addEntry 65 = .ok (.bipush 8, 2) := by decide +kernel
theorem dX1_addEntry_67 : decode cX1_addEntry 67 = .ok (.if_icmp .ge 76, 3) := by decide +kernel
theorem dX1_addEntry_70 : decode cX1_addEntry 70 = .ok (.aload_n 0, 1) := by decide +kernel
theorem dX1_addEntry_71 : decode cX1_addEntry 71 = .ok (.getfield 28, 3) := by decide +kernel
theorem dX1_addEntry_74 : decode cX1_addEntry 74 = .ok (.aload_n 0, 1) := by decide +kernel
theorem dX1_addEntry_75 : decode cX1_addEntry 75 = .ok (.getfield 34, 3) := by decide +kernel
theorem dX1_addEntry_78 : decode cX1_addEntry 78 = .ok (.bipush 8, 2) := by decide +kernel
theorem dX1_addEntry_80 : decode cX1_addEntry 80 = .ok (.imul, 1) := by decide +kernel
theorem dX1_addEntry_81 : decode cX1_addEntry 81 = .ok (.iload 7, 2) := by decide +kernel
theorem dX1_addEntry_83 : decode cX1_addEntry 83 = .ok (.iadd, 1) := by decide +kernel
theorem dX1_addEntry_84 : decode cX1_addEntry 84 = .ok (.iload_n 3, 1) := by decide +kernel
theorem dX1_addEntry_85 : decode cX1_addEntry 85 = .ok (.iload 7, 2) := by decide +kernel
theorem dX1_addEntry_87 : decode cX1_addEntry 87 = .ok (.invokestatic 58, 3) := by decide +kernel
theorem dX1_addEntry_90 : decode cX1_addEntry 90 = .ok (.ifCond .eq 11, 3) := by decide +kernel
theorem dX1_addEntry_93 : decode cX1_addEntry 93 = .ok (.aload 4, 2) := by decide +kernel
theorem dX1_addEntry_95 : decode cX1_addEntry 95 = .ok (.iload 7, 2) := by decide +kernel
theorem dX1_addEntry_97 : decode cX1_addEntry 97 = .ok (.iaload, 1) := by decide +kernel
theorem dX1_addEntry_98 : decode cX1_addEntry 98 = .ok (.goto 4, 3) := by decide +kernel
theorem dX1_addEntry_101 : decode cX1_addEntry 101 = .ok (.iconst 0, 1) := by decide +kernel
theorem dX1_addEntry_102 : decode cX1_addEntry 102 = .ok (.iastore, 1) := by decide +kernel
theorem dX1_addEntry_103 : decode cX1_addEntry 103 = .ok (.aload_n 0, 1) := by decide +kernel
theorem dX1_addEntry_104 : decode cX1_addEntry 104 = .ok (.getfield 31, 3) := by decide +kernel
theorem dX1_addEntry_107 : decode cX1_addEntry 107 = .ok (.aload_n 0, 1) := by decide +kernel
theorem dX1_addEntry_108 : decode cX1_addEntry 108 = .ok (.getfield 34, 3) := by decide +kernel
theorem dX1_addEntry_111 : decode cX1_addEntry 111 = .ok (.bipush 8, 2) := by decide +kernel
theorem dX1_addEntry_113 : decode cX1_addEntry 113 = .ok (.imul, 1) := by decide +kernel
theorem dX1_addEntry_114 : decode cX1_addEntry 114 = .ok (.iload 7, 2) := by decide +kernel
theorem dX1_addEntry_116 : decode cX1_addEntry 116 = .ok (.iadd, 1) := by decide +kernel
theorem dX1_addEntry_117 : decode cX1_addEntry 117 = .ok (.iload 5, 2) := by decide +kernel
theorem dX1_addEntry_119 : decode cX1_addEntry 119 = .ok (.iload 7, 2) := by decide +kernel
theorem dX1_addEntry_121 : decode cX1_addEntry 121 = .ok (.invokestatic 58, 3) := by decide +kernel
theorem dX1_addEntry_124 : decode cX1_addEntry 124 = .ok (.ifCond .eq 11, 3) := by decide +kernel
theorem dX1_addEntry_127 : decode cX1_addEntry 127 = .ok (.aload 6, 2) := by decide +kernel
theorem dX1_addEntry_129 : decode cX1_addEntry 129 = .ok (.iload 7, 2) := by decide +kernel
theorem dX1_addEntry_131 : decode cX1_addEntry 131 = .ok (.iaload, 1) := by decide +kernel
theorem dX1_addEntry_132 : decode cX1_addEntry 132 = .ok (.goto 4, 3) := by decide +kernel
theorem dX1_addEntry_135 : decode cX1_addEntry 135 = .ok (.iconst 0, 1) := by decide +kernel
theorem dX1_addEntry_136 : decode cX1_addEntry 136 = .ok (.iastore, 1) := by decide +kernel
theorem dX1_addEntry_137 : decode cX1_addEntry 137 = .ok (.iinc 7 1, 3) := by decide +kernel
theorem dX1_addEntry_140 : decode cX1_addEntry 140 = .ok (.goto (-77), 3) := by decide +kernel
theorem dX1_addEntry_143 : decode cX1_addEntry 143 = .ok (.aload_n 0, 1) := by decide +kernel
theorem dX1_addEntry_144 : decode cX1_addEntry 144 = .ok (.dup, 1) := by decide +kernel
theorem dX1_addEntry_145 : decode cX1_addEntry 145 = .ok (.getfield 34, 3) := by decide +kernel
theorem dX1_addEntry_148 : decode cX1_addEntry 148 = .ok (.iconst 1, 1) := by decide +kernel
theorem dX1_addEntry_149 : decode cX1_addEntry 149 = .ok (.iadd, 1) := by decide +kernel
theorem dX1_addEntry_150 : decode cX1_addEntry 150 = .ok (.putfield 34, 3) := by decide +kernel
theorem dX1_addEntry_153 : decode cX1_addEntry 153 = .ok (.return_, 1) := by decide +kernel
theorem dX1_fact_0 : decode cX1_fact 0 = .ok (.iload_n 2, 1) := by decide +kernel
theorem dX1_fact_1 : decode cX1_fact 1 = .ok (.tableswitch 48 0 2 #[27, 34, 41], 27) := by decide +kernel
theorem dX1_fact_28 : decode cX1_fact 28 = .ok (.aload_n 0, 1) := by decide +kernel
theorem dX1_fact_29 : decode cX1_fact 29 = .ok (.getfield 15, 3) := by decide +kernel
theorem dX1_fact_32 : decode cX1_fact 32 = .ok (.iload_n 1, 1) := by decide +kernel
theorem dX1_fact_33 : decode cX1_fact 33 = .ok (.iaload, 1) := by decide +kernel
theorem dX1_fact_34 : decode cX1_fact 34 = .ok (.ireturn, 1) := by decide +kernel
theorem dX1_fact_35 : decode cX1_fact 35 = .ok (.aload_n 0, 1) := by decide +kernel
theorem dX1_fact_36 : decode cX1_fact 36 = .ok (.getfield 19, 3) := by decide +kernel
theorem dX1_fact_39 : decode cX1_fact 39 = .ok (.iload_n 1, 1) := by decide +kernel
theorem dX1_fact_40 : decode cX1_fact 40 = .ok (.iaload, 1) := by decide +kernel
theorem dX1_fact_41 : decode cX1_fact 41 = .ok (.ireturn, 1) := by decide +kernel
theorem dX1_fact_42 : decode cX1_fact 42 = .ok (.aload_n 0, 1) := by decide +kernel
theorem dX1_fact_43 : decode cX1_fact 43 = .ok (.getfield 22, 3) := by decide +kernel
theorem dX1_fact_46 : decode cX1_fact 46 = .ok (.iload_n 1, 1) := by decide +kernel
theorem dX1_fact_47 : decode cX1_fact 47 = .ok (.iaload, 1) := by decide +kernel
theorem dX1_fact_48 : decode cX1_fact 48 = .ok (.ireturn, 1) := by decide +kernel
theorem dX1_fact_49 : decode cX1_fact 49 = .ok (.aload_n 0, 1) := by decide +kernel
theorem dX1_fact_50 : decode cX1_fact 50 = .ok (.getfield 25, 3) := by decide +kernel
theorem dX1_fact_53 : decode cX1_fact 53 = .ok (.iload_n 1, 1) := by decide +kernel
theorem dX1_fact_54 : decode cX1_fact 54 = .ok (.iaload, 1) := by decide +kernel
theorem dX1_fact_55 : decode cX1_fact 55 = .ok (.ireturn, 1) := by decide +kernel
theorem dX1_lineValue_0 : decode cX1_lineValue 0 = .ok (.iload_n 3, 1) := by decide +kernel
theorem dX1_lineValue_1 : decode cX1_lineValue 1 = .ok (.ifCond .eq 17, 3) := by decide +kernel
theorem dX1_lineValue_4 : decode cX1_lineValue 4 = .ok (.aload_n 0, 1) := by decide +kernel
theorem dX1_lineValue_5 : decode cX1_lineValue 5 = .ok (.getfield 31, 3) := by decide +kernel
theorem dX1_lineValue_8 : decode cX1_lineValue 8 = .ok (.iload_n 1, 1) := by decide +kernel
theorem dX1_lineValue_9 : decode cX1_lineValue 9 = .ok (.bipush 8, 2) := by decide +kernel
theorem dX1_lineValue_11 : decode cX1_lineValue 11 = .ok (.imul, 1) := by decide +kernel
theorem dX1_lineValue_12 : decode cX1_lineValue 12 = .ok (.iload_n 2, 1) := by decide +kernel
theorem dX1_lineValue_13 : decode cX1_lineValue 13 = .ok (.iadd, 1) := by decide +kernel
theorem dX1_lineValue_14 : decode cX1_lineValue 14 = .ok (.iaload, 1) := by decide +kernel
theorem dX1_lineValue_15 : decode cX1_lineValue 15 = .ok (.goto 14, 3) := by decide +kernel
theorem dX1_lineValue_18 : decode cX1_lineValue 18 = .ok (.aload_n 0, 1) := by decide +kernel
theorem dX1_lineValue_19 : decode cX1_lineValue 19 = .ok (.getfield 28, 3) := by decide +kernel
theorem dX1_lineValue_22 : decode cX1_lineValue 22 = .ok (.iload_n 1, 1) := by decide +kernel
theorem dX1_lineValue_23 : decode cX1_lineValue 23 = .ok (.bipush 8, 2) := by decide +kernel
theorem dX1_lineValue_25 : decode cX1_lineValue 25 = .ok (.imul, 1) := by decide +kernel
theorem dX1_lineValue_26 : decode cX1_lineValue 26 = .ok (.iload_n 2, 1) := by decide +kernel
theorem dX1_lineValue_27 : decode cX1_lineValue 27 = .ok (.iadd, 1) := by decide +kernel
theorem dX1_lineValue_28 : decode cX1_lineValue 28 = .ok (.iaload, 1) := by decide +kernel
theorem dX1_lineValue_29 : decode cX1_lineValue 29 = .ok (.ireturn, 1) := by decide +kernel
theorem dX1_replaysOn_0 : decode cX1_replaysOn 0 = .ok (.iconst 0, 1) := by decide +kernel
theorem dX1_replaysOn_1 : decode cX1_replaysOn 1 = .ok (.istore_n 2, 1) := by decide +kernel
theorem dX1_replaysOn_2 : decode cX1_replaysOn 2 = .ok (.iload_n 2, 1) := by decide +kernel
theorem dX1_replaysOn_3 : decode cX1_replaysOn 3 = .ok (.bipush 8, 2) := by decide +kernel
theorem dX1_replaysOn_5 : decode cX1_replaysOn 5 = .ok (.if_icmp .ge 13, 3) := by decide +kernel
theorem dX1_replaysOn_8 : decode cX1_replaysOn 8 = .ok (.aload_n 1, 1) := by decide +kernel
theorem dX1_replaysOn_9 : decode cX1_replaysOn 9 = .ok (.iload_n 2, 1) := by decide +kernel
theorem dX1_replaysOn_10 : decode cX1_replaysOn 10 = .ok (.iconst 0, 1) := by decide +kernel
theorem dX1_replaysOn_11 : decode cX1_replaysOn 11 = .ok (.iastore, 1) := by decide +kernel
theorem dX1_replaysOn_12 : decode cX1_replaysOn 12 = .ok (.iinc 2 1, 3) := by decide +kernel
theorem dX1_replaysOn_15 : decode cX1_replaysOn 15 = .ok (.goto (-13), 3) := by decide +kernel
theorem dX1_replaysOn_18 : decode cX1_replaysOn 18 = .ok (.iconst 0, 1) := by decide +kernel
theorem dX1_replaysOn_19 : decode cX1_replaysOn 19 = .ok (.istore_n 2, 1) := by decide +kernel
theorem dX1_replaysOn_20 : decode cX1_replaysOn 20 = .ok (.iload_n 2, 1) := by decide +kernel
theorem dX1_replaysOn_21 : decode cX1_replaysOn 21 = .ok (.aload_n 0, 1) := by decide +kernel
theorem dX1_replaysOn_22 : decode cX1_replaysOn 22 = .ok (.getfield 34, 3) := by decide +kernel
theorem dX1_replaysOn_25 : decode cX1_replaysOn 25 = .ok (.if_icmp .ge 26, 3) := by decide +kernel
theorem dX1_replaysOn_28 : decode cX1_replaysOn 28 = .ok (.aload_n 0, 1) := by decide +kernel
theorem dX1_replaysOn_29 : decode cX1_replaysOn 29 = .ok (.iload_n 2, 1) := by decide +kernel
theorem dX1_replaysOn_30 : decode cX1_replaysOn 30 = .ok (.aload_n 1, 1) := by decide +kernel
theorem dX1_replaysOn_31 : decode cX1_replaysOn 31 = .ok (.invokevirtual 62, 3) := by decide +kernel
theorem dX1_replaysOn_34 : decode cX1_replaysOn 34 = .ok (.ifCond .ne 5, 3) := by decide +kernel
theorem dX1_replaysOn_37 : decode cX1_replaysOn 37 = .ok (.iconst 0, 1) := by decide +kernel
theorem dX1_replaysOn_38 : decode cX1_replaysOn 38 = .ok (.ireturn, 1) := by decide +kernel
theorem dX1_replaysOn_39 : decode cX1_replaysOn 39 = .ok (.aload_n 0, 1) := by decide +kernel
theorem dX1_replaysOn_40 : decode cX1_replaysOn 40 = .ok (.iload_n 2, 1) := by decide +kernel
theorem dX1_replaysOn_41 : decode cX1_replaysOn 41 = .ok (.aload_n 1, 1) := by decide +kernel
theorem dX1_replaysOn_42 : decode cX1_replaysOn 42 = .ok (.invokevirtual 66, 3) := by decide +kernel
theorem dX1_replaysOn_45 : decode cX1_replaysOn 45 = .ok (.iinc 2 1, 3) := by decide +kernel
theorem dX1_replaysOn_48 : decode cX1_replaysOn 48 = .ok (.goto (-28), 3) := by decide +kernel
theorem dX1_replaysOn_51 : decode cX1_replaysOn 51 = .ok (.iconst 1, 1) := by decide +kernel
theorem dX1_replaysOn_52 : decode cX1_replaysOn 52 = .ok (.ireturn, 1) := by decide +kernel
theorem dX1_readsMatch_0 : decode cX1_readsMatch 0 = .ok (.iconst 0, 1) := by decide +kernel
theorem dX1_readsMatch_1 : decode cX1_readsMatch 1 = .ok (.istore_n 3, 1) := by decide +kernel
theorem dX1_readsMatch_2 : decode cX1_readsMatch 2 = .ok (.iload_n 3, 1) := by decide +kernel
theorem dX1_readsMatch_3 : decode cX1_readsMatch 3 = .ok (.bipush 8, 2) := by decide +kernel
theorem dX1_readsMatch_5 : decode cX1_readsMatch 5 = .ok (.if_icmp .ge 37, 3) := by decide +kernel
theorem dX1_readsMatch_8 : decode cX1_readsMatch 8 = .ok (.aload_n 0, 1) := by decide +kernel
theorem dX1_readsMatch_9 : decode cX1_readsMatch 9 = .ok (.getfield 22, 3) := by decide +kernel
theorem dX1_readsMatch_12 : decode cX1_readsMatch 12 = .ok (.iload_n 1, 1) := by decide +kernel
theorem dX1_readsMatch_13 : decode cX1_readsMatch 13 = .ok (.iaload, 1) := by decide +kernel
theorem dX1_readsMatch_14 : decode cX1_readsMatch 14 = .ok (.iload_n 3, 1) := by decide +kernel
theorem dX1_readsMatch_15 : decode cX1_readsMatch 15 = .ok (.invokestatic 58, 3) := by decide +kernel
theorem dX1_readsMatch_18 : decode cX1_readsMatch 18 = .ok (.ifCond .eq 18, 3) := by decide +kernel
theorem dX1_readsMatch_21 : decode cX1_readsMatch 21 = .ok (.aload_n 0, 1) := by decide +kernel
theorem dX1_readsMatch_22 : decode cX1_readsMatch 22 = .ok (.iload_n 1, 1) := by decide +kernel
theorem dX1_readsMatch_23 : decode cX1_readsMatch 23 = .ok (.iload_n 3, 1) := by decide +kernel
theorem dX1_readsMatch_24 : decode cX1_readsMatch 24 = .ok (.iconst 0, 1) := by decide +kernel
theorem dX1_readsMatch_25 : decode cX1_readsMatch 25 = .ok (.invokevirtual 70, 3) := by decide +kernel
theorem dX1_readsMatch_28 : decode cX1_readsMatch 28 = .ok (.aload_n 2, 1) := by decide +kernel
theorem dX1_readsMatch_29 : decode cX1_readsMatch 29 = .ok (.iload_n 3, 1) := by decide +kernel
theorem dX1_readsMatch_30 : decode cX1_readsMatch 30 = .ok (.iaload, 1) := by decide +kernel
theorem dX1_readsMatch_31 : decode cX1_readsMatch 31 = .ok (.if_icmp .eq 5, 3) := by decide +kernel
theorem dX1_readsMatch_34 : decode cX1_readsMatch 34 = .ok (.iconst 0, 1) := by decide +kernel
theorem dX1_readsMatch_35 : decode cX1_readsMatch 35 = .ok (.ireturn, 1) := by decide +kernel
theorem dX1_readsMatch_36 : decode cX1_readsMatch 36 = .ok (.iinc 3 1, 3) := by decide +kernel
theorem dX1_readsMatch_39 : decode cX1_readsMatch 39 = .ok (.goto (-37), 3) := by decide +kernel
theorem dX1_readsMatch_42 : decode cX1_readsMatch 42 = .ok (.iconst 1, 1) := by decide +kernel
theorem dX1_readsMatch_43 : decode cX1_readsMatch 43 = .ok (.ireturn, 1) := by decide +kernel
theorem dX1_applyWrites_0 : decode cX1_applyWrites 0 = .ok (.iconst 0, 1) := by decide +kernel
theorem dX1_applyWrites_1 : decode cX1_applyWrites 1 = .ok (.istore_n 3, 1) := by decide +kernel
theorem dX1_applyWrites_2 : decode cX1_applyWrites 2 = .ok (.iload_n 3, 1) := by decide +kernel
theorem dX1_applyWrites_3 : decode cX1_applyWrites 3 = .ok (.bipush 8, 2) := by decide +kernel
theorem dX1_applyWrites_5 : decode cX1_applyWrites 5 = .ok (.if_icmp .ge 32, 3) := by decide +kernel
theorem dX1_applyWrites_8 : decode cX1_applyWrites 8 = .ok (.aload_n 0, 1) := by decide +kernel
theorem dX1_applyWrites_9 : decode cX1_applyWrites 9 = .ok (.getfield 25, 3) := by decide +kernel
theorem dX1_applyWrites_12 : decode cX1_applyWrites 12 = .ok (.iload_n 1, 1) := by decide +kernel
theorem dX1_applyWrites_13 : decode cX1_applyWrites 13 = .ok (.iaload, 1) := by decide +kernel
theorem dX1_applyWrites_14 : decode cX1_applyWrites 14 = .ok (.iload_n 3, 1) := by decide +kernel
theorem dX1_applyWrites_15 : decode cX1_applyWrites 15 = .ok (.invokestatic 58, 3) := by decide +kernel
theorem dX1_applyWrites_18 : decode cX1_applyWrites 18 = .ok (.ifCond .eq 13, 3) := by decide +kernel
theorem dX1_applyWrites_21 : decode cX1_applyWrites 21 = .ok (.aload_n 2, 1) := by decide +kernel
theorem dX1_applyWrites_22 : decode cX1_applyWrites 22 = .ok (.iload_n 3, 1) := by decide +kernel
theorem dX1_applyWrites_23 : decode cX1_applyWrites 23 = .ok (.aload_n 0, 1) := by decide +kernel
theorem dX1_applyWrites_24 : decode cX1_applyWrites 24 = .ok (.iload_n 1, 1) := by decide +kernel
theorem dX1_applyWrites_25 : decode cX1_applyWrites 25 = .ok (.iload_n 3, 1) := by decide +kernel
theorem dX1_applyWrites_26 : decode cX1_applyWrites 26 = .ok (.iconst 1, 1) := by decide +kernel
theorem dX1_applyWrites_27 : decode cX1_applyWrites 27 = .ok (.invokevirtual 70, 3) := by decide +kernel
theorem dX1_applyWrites_30 : decode cX1_applyWrites 30 = .ok (.iastore, 1) := by decide +kernel
theorem dX1_applyWrites_31 : decode cX1_applyWrites 31 = .ok (.iinc 3 1, 3) := by decide +kernel
theorem dX1_applyWrites_34 : decode cX1_applyWrites 34 = .ok (.goto (-32), 3) := by decide +kernel
theorem dX1_applyWrites_37 : decode cX1_applyWrites 37 = .ok (.return_, 1) := by decide +kernel
theorem dX1_copyFrom_0 : decode cX1_copyFrom 0 = .ok (.aload_n 1, 1) := by decide +kernel
theorem dX1_copyFrom_1 : decode cX1_copyFrom 1 = .ok (.getfield 34, 3) := by decide +kernel
theorem dX1_copyFrom_4 : decode cX1_copyFrom 4 = .ok (.aload_n 0, 1) := by decide +kernel
theorem dX1_copyFrom_5 : decode cX1_copyFrom 5 = .ok (.getfield 9, 3) := by decide +kernel
theorem dX1_copyFrom_8 : decode cX1_copyFrom 8 = .ok (.invokestatic 74, 3) := by decide +kernel
theorem dX1_copyFrom_11 : decode cX1_copyFrom 11 = .ok (.istore_n 2, 1) := by decide +kernel
theorem dX1_copyFrom_12 : decode cX1_copyFrom 12 = .ok (.aload_n 1, 1) := by decide +kernel
theorem dX1_copyFrom_13 : decode cX1_copyFrom 13 = .ok (.getfield 15, 3) := by decide +kernel
theorem dX1_copyFrom_16 : decode cX1_copyFrom 16 = .ok (.iconst 0, 1) := by decide +kernel
theorem dX1_copyFrom_17 : decode cX1_copyFrom 17 = .ok (.aload_n 0, 1) := by decide +kernel
theorem dX1_copyFrom_18 : decode cX1_copyFrom 18 = .ok (.getfield 15, 3) := by decide +kernel
theorem dX1_copyFrom_21 : decode cX1_copyFrom 21 = .ok (.iconst 0, 1) := by decide +kernel
theorem dX1_copyFrom_22 : decode cX1_copyFrom 22 = .ok (.iload_n 2, 1) := by decide +kernel
theorem dX1_copyFrom_23 : decode cX1_copyFrom 23 = .ok (.invokestatic 80, 3) := by decide +kernel
theorem dX1_copyFrom_26 : decode cX1_copyFrom 26 = .ok (.aload_n 1, 1) := by decide +kernel
theorem dX1_copyFrom_27 : decode cX1_copyFrom 27 = .ok (.getfield 19, 3) := by decide +kernel
theorem dX1_copyFrom_30 : decode cX1_copyFrom 30 = .ok (.iconst 0, 1) := by decide +kernel
theorem dX1_copyFrom_31 : decode cX1_copyFrom 31 = .ok (.aload_n 0, 1) := by decide +kernel
theorem dX1_copyFrom_32 : decode cX1_copyFrom 32 = .ok (.getfield 19, 3) := by decide +kernel
theorem dX1_copyFrom_35 : decode cX1_copyFrom 35 = .ok (.iconst 0, 1) := by decide +kernel
theorem dX1_copyFrom_36 : decode cX1_copyFrom 36 = .ok (.iload_n 2, 1) := by decide +kernel
theorem dX1_copyFrom_37 : decode cX1_copyFrom 37 = .ok (.invokestatic 80, 3) := by decide +kernel
theorem dX1_copyFrom_40 : decode cX1_copyFrom 40 = .ok (.aload_n 1, 1) := by decide +kernel
theorem dX1_copyFrom_41 : decode cX1_copyFrom 41 = .ok (.getfield 22, 3) := by decide +kernel
theorem dX1_copyFrom_44 : decode cX1_copyFrom 44 = .ok (.iconst 0, 1) := by decide +kernel
theorem dX1_copyFrom_45 : decode cX1_copyFrom 45 = .ok (.aload_n 0, 1) := by decide +kernel
theorem dX1_copyFrom_46 : decode cX1_copyFrom 46 = .ok (.getfield 22, 3) := by decide +kernel
theorem dX1_copyFrom_49 : decode cX1_copyFrom 49 = .ok (.iconst 0, 1) := by decide +kernel
theorem dX1_copyFrom_50 : decode cX1_copyFrom 50 = .ok (.iload_n 2, 1) := by decide +kernel
theorem dX1_copyFrom_51 : decode cX1_copyFrom 51 = .ok (.invokestatic 80, 3) := by decide +kernel
theorem dX1_copyFrom_54 : decode cX1_copyFrom 54 = .ok (.aload_n 1, 1) := by decide +kernel
theorem dX1_copyFrom_55 : decode cX1_copyFrom 55 = .ok (.getfield 25, 3) := by decide +kernel
theorem dX1_copyFrom_58 : decode cX1_copyFrom 58 = .ok (.iconst 0, 1) := by decide +kernel
theorem dX1_copyFrom_59 : decode cX1_copyFrom 59 = .ok (.aload_n 0, 1) := by decide +kernel
theorem dX1_copyFrom_60 : decode cX1_copyFrom 60 = .ok (.getfield 25, 3) := by decide +kernel
theorem dX1_copyFrom_63 : decode cX1_copyFrom 63 = .ok (.iconst 0, 1) := by decide +kernel
theorem dX1_copyFrom_64 : decode cX1_copyFrom 64 = .ok (.iload_n 2, 1) := by decide +kernel
theorem dX1_copyFrom_65 : decode cX1_copyFrom 65 = .ok (.invokestatic 80, 3) := by decide +kernel
theorem dX1_copyFrom_68 : decode cX1_copyFrom 68 = .ok (.aload_n 1, 1) := by decide +kernel
theorem dX1_copyFrom_69 : decode cX1_copyFrom 69 = .ok (.getfield 28, 3) := by decide +kernel
theorem dX1_copyFrom_72 : decode cX1_copyFrom 72 = .ok (.iconst 0, 1) := by decide +kernel
theorem dX1_copyFrom_73 : decode cX1_copyFrom 73 = .ok (.aload_n 0, 1) := by decide +kernel
theorem dX1_copyFrom_74 : decode cX1_copyFrom 74 = .ok (.getfield 28, 3) := by decide +kernel
theorem dX1_copyFrom_77 : decode cX1_copyFrom 77 = .ok (.iconst 0, 1) := by decide +kernel
theorem dX1_copyFrom_78 : decode cX1_copyFrom 78 = .ok (.iload_n 2, 1) := by decide +kernel
theorem dX1_copyFrom_79 : decode cX1_copyFrom 79 = .ok (.bipush 8, 2) := by decide +kernel
theorem dX1_copyFrom_81 : decode cX1_copyFrom 81 = .ok (.imul, 1) := by decide +kernel
theorem dX1_copyFrom_82 : decode cX1_copyFrom 82 = .ok (.invokestatic 80, 3) := by decide +kernel
theorem dX1_copyFrom_85 : decode cX1_copyFrom 85 = .ok (.aload_n 1, 1) := by decide +kernel
theorem dX1_copyFrom_86 : decode cX1_copyFrom 86 = .ok (.getfield 31, 3) := by decide +kernel
theorem dX1_copyFrom_89 : decode cX1_copyFrom 89 = .ok (.iconst 0, 1) := by decide +kernel
theorem dX1_copyFrom_90 : decode cX1_copyFrom 90 = .ok (.aload_n 0, 1) := by decide +kernel
theorem dX1_copyFrom_91 : decode cX1_copyFrom 91 = .ok (.getfield 31, 3) := by decide +kernel
theorem dX1_copyFrom_94 : decode cX1_copyFrom 94 = .ok (.iconst 0, 1) := by decide +kernel
theorem dX1_copyFrom_95 : decode cX1_copyFrom 95 = .ok (.iload_n 2, 1) := by decide +kernel
theorem dX1_copyFrom_96 : decode cX1_copyFrom 96 = .ok (.bipush 8, 2) := by decide +kernel
theorem dX1_copyFrom_98 : decode cX1_copyFrom 98 = .ok (.imul, 1) := by decide +kernel
theorem dX1_copyFrom_99 : decode cX1_copyFrom 99 = .ok (.invokestatic 80, 3) := by decide +kernel
theorem dX1_copyFrom_102 : decode cX1_copyFrom 102 = .ok (.aload_n 0, 1) := by decide +kernel
theorem dX1_copyFrom_103 : decode cX1_copyFrom 103 = .ok (.iload_n 2, 1) := by decide +kernel
theorem dX1_copyFrom_104 : decode cX1_copyFrom 104 = .ok (.putfield 34, 3) := by decide +kernel
theorem dX1_copyFrom_107 : decode cX1_copyFrom 107 = .ok (.return_, 1) := by decide +kernel
theorem dX2_init_0 : decode cX2_init 0 = .ok (.aload_n 0, 1) := by decide +kernel
theorem dX2_init_1 : decode cX2_init 1 = .ok (.invokespecial 3, 3) := by decide +kernel
theorem dX2_init_4 : decode cX2_init 4 = .ok (.aload_n 0, 1) := by decide +kernel
theorem dX2_init_5 : decode cX2_init 5 = .ok (.iconst 4, 1) := by decide +kernel
theorem dX2_init_6 : decode cX2_init 6 = .ok (.anewarray 9, 3) := by decide +kernel
theorem dX2_init_9 : decode cX2_init 9 = .ok (.putfield 11, 3) := by decide +kernel
theorem dX2_init_12 : decode cX2_init 12 = .ok (.iconst 0, 1) := by decide +kernel
theorem dX2_init_13 : decode cX2_init 13 = .ok (.istore_n 2, 1) := by decide +kernel
theorem dX2_init_14 : decode cX2_init 14 = .ok (.iload_n 2, 1) := by decide +kernel
theorem dX2_init_15 : decode cX2_init 15 = .ok (.iconst 4, 1) := by decide +kernel
theorem dX2_init_16 : decode cX2_init 16 = .ok (.if_icmp .ge 22, 3) := by decide +kernel
theorem dX2_init_19 : decode cX2_init 19 = .ok (.aload_n 0, 1) := by decide +kernel
theorem dX2_init_20 : decode cX2_init 20 = .ok (.getfield 11, 3) := by decide +kernel
theorem dX2_init_23 : decode cX2_init 23 = .ok (.iload_n 2, 1) := by decide +kernel
theorem dX2_init_24 : decode cX2_init 24 = .ok (.new 9, 3) := by decide +kernel
theorem dX2_init_27 : decode cX2_init 27 = .ok (.dup, 1) := by decide +kernel
theorem dX2_init_28 : decode cX2_init 28 = .ok (.invokespecial 17, 3) := by decide +kernel
theorem dX2_init_31 : decode cX2_init 31 = .ok (.aastore, 1) := by decide +kernel
theorem dX2_init_32 : decode cX2_init 32 = .ok (.iinc 2 1, 3) := by decide +kernel
theorem dX2_init_35 : decode cX2_init 35 = .ok (.goto (-21), 3) := by decide +kernel
theorem dX2_init_38 : decode cX2_init 38 = .ok (.aload_n 0, 1) := by decide +kernel
theorem dX2_init_39 : decode cX2_init 39 = .ok (.bipush 8, 2) := by decide +kernel
theorem dX2_init_41 : decode cX2_init 41 = .ok (.newarray .int, 2) := by decide +kernel
theorem dX2_init_43 : decode cX2_init 43 = .ok (.putfield 18, 3) := by decide +kernel
theorem dX2_init_46 : decode cX2_init 46 = .ok (.aload_n 0, 1) := by decide +kernel
theorem dX2_init_47 : decode cX2_init 47 = .ok (.bipush 8, 2) := by decide +kernel
theorem dX2_init_49 : decode cX2_init 49 = .ok (.newarray .int, 2) := by decide +kernel
theorem dX2_init_51 : decode cX2_init 51 = .ok (.putfield 22, 3) := by decide +kernel
theorem dX2_init_54 : decode cX2_init 54 = .ok (.aload_n 0, 1) := by decide +kernel
theorem dX2_init_55 : decode cX2_init 55 = .ok (.new 25, 3) := by decide +kernel
theorem dX2_init_58 : decode cX2_init 58 = .ok (.dup, 1) := by decide +kernel
theorem dX2_init_59 : decode cX2_init 59 = .ok (.iload_n 1, 1) := by decide +kernel
theorem dX2_init_60 : decode cX2_init 60 = .ok (.invokespecial 27, 3) := by decide +kernel
theorem dX2_init_63 : decode cX2_init 63 = .ok (.putfield 30, 3) := by decide +kernel
theorem dX2_init_66 : decode cX2_init 66 = .ok (.aload_n 0, 1) := by decide +kernel
theorem dX2_init_67 : decode cX2_init 67 = .ok (.iconst 2, 1) := by decide +kernel
theorem dX2_init_68 : decode cX2_init 68 = .ok (.putfield 34, 3) := by decide +kernel
theorem dX2_init_71 : decode cX2_init 71 = .ok (.aload_n 0, 1) := by decide +kernel
theorem dX2_init_72 : decode cX2_init 72 = .ok (.iconst 0, 1) := by decide +kernel
theorem dX2_init_73 : decode cX2_init 73 = .ok (.putfield 38, 3) := by decide +kernel
theorem dX2_init_76 : decode cX2_init 76 = .ok (.aload_n 0, 1) := by decide +kernel
theorem dX2_init_77 : decode cX2_init 77 = .ok (.iconst 4, 1) := by decide +kernel
theorem dX2_init_78 : decode cX2_init 78 = .ok (.putfield 41, 3) := by decide +kernel
theorem dX2_init_81 : decode cX2_init 81 = .ok (.aload_n 0, 1) := by decide +kernel
theorem dX2_init_82 : decode cX2_init 82 = .ok (.iconst 1, 1) := by decide +kernel
theorem dX2_init_83 : decode cX2_init 83 = .ok (.putfield 44, 3) := by decide +kernel
theorem dX2_init_86 : decode cX2_init 86 = .ok (.aload_n 0, 1) := by decide +kernel
theorem dX2_init_87 : decode cX2_init 87 = .ok (.iconst 0, 1) := by decide +kernel
theorem dX2_init_88 : decode cX2_init 88 = .ok (.putfield 47, 3) := by decide +kernel
theorem dX2_init_91 : decode cX2_init 91 = .ok (.return_, 1) := by decide +kernel
theorem dX2_startAnew_0 : decode cX2_startAnew 0 = .ok (.aload_n 0, 1) := by decide +kernel
theorem dX2_startAnew_1 : decode cX2_startAnew 1 = .ok (.iload_n 1, 1) := by decide +kernel
theorem dX2_startAnew_2 : decode cX2_startAnew 2 = .ok (.putfield 34, 3) := by decide +kernel
theorem dX2_startAnew_5 : decode cX2_startAnew 5 = .ok (.aload_n 0, 1) := by decide +kernel
theorem dX2_startAnew_6 : decode cX2_startAnew 6 = .ok (.iload_n 2, 1) := by decide +kernel
theorem dX2_startAnew_7 : decode cX2_startAnew 7 = .ok (.putfield 38, 3) := by decide +kernel
theorem dX2_startAnew_10 : decode cX2_startAnew 10 = .ok (.aload_n 0, 1) := by decide +kernel
theorem dX2_startAnew_11 : decode cX2_startAnew 11 = .ok (.iload_n 3, 1) := by decide +kernel
theorem dX2_startAnew_12 : decode cX2_startAnew 12 = .ok (.putfield 41, 3) := by decide +kernel
theorem dX2_startAnew_15 : decode cX2_startAnew 15 = .ok (.aload_n 0, 1) := by decide +kernel
theorem dX2_startAnew_16 : decode cX2_startAnew 16 = .ok (.iconst 0, 1) := by decide +kernel
theorem dX2_startAnew_17 : decode cX2_startAnew 17 = .ok (.putfield 47, 3) := by decide +kernel
theorem dX2_startAnew_20 : decode cX2_startAnew 20 = .ok (.aload_n 0, 1) := by decide +kernel
theorem dX2_startAnew_21 : decode cX2_startAnew 21 = .ok (.getfield 30, 3) := by decide +kernel
theorem dX2_startAnew_24 : decode cX2_startAnew 24 = .ok (.iconst 0, 1) := by decide +kernel
theorem dX2_startAnew_25 : decode cX2_startAnew 25 = .ok (.putfield 50, 3) := by decide +kernel
theorem dX2_startAnew_28 : decode cX2_startAnew 28 = .ok (.iconst 0, 1) := by decide +kernel
theorem dX2_startAnew_29 : decode cX2_startAnew 29 = .ok (.istore 4, 2) := by decide +kernel
theorem dX2_startAnew_31 : decode cX2_startAnew 31 = .ok (.iload 4, 2) := by decide +kernel
theorem dX2_startAnew_33 : decode cX2_startAnew 33 = .ok (.iconst 4, 1) := by decide +kernel
theorem dX2_startAnew_34 : decode cX2_startAnew 34 = .ok (.if_icmp .ge 19, 3) := by decide +kernel
theorem dX2_startAnew_37 : decode cX2_startAnew 37 = .ok (.aload_n 0, 1) := by decide +kernel
theorem dX2_startAnew_38 : decode cX2_startAnew 38 = .ok (.getfield 11, 3) := by decide +kernel
theorem dX2_startAnew_41 : decode cX2_startAnew 41 = .ok (.iload 4, 2) := by decide +kernel
theorem dX2_startAnew_43 : decode cX2_startAnew 43 = .ok (.aaload, 1) := by decide +kernel
theorem dX2_startAnew_44 : decode cX2_startAnew 44 = .ok (.invokevirtual 53, 3) := by decide +kernel
theorem dX2_startAnew_47 : decode cX2_startAnew 47 = .ok (.iinc 4 1, 3) := by decide +kernel
theorem dX2_startAnew_50 : decode cX2_startAnew 50 = .ok (.goto (-19), 3) := by decide +kernel
theorem dX2_startAnew_53 : decode cX2_startAnew 53 = .ok (.iconst 0, 1) := by decide +kernel
theorem dX2_startAnew_54 : decode cX2_startAnew 54 = .ok (.istore 4, 2) := by decide +kernel
theorem dX2_startAnew_56 : decode cX2_startAnew 56 = .ok (.iload 4, 2) := by decide +kernel
theorem dX2_startAnew_58 : decode cX2_startAnew 58 = .ok (.bipush 8, 2) := by decide +kernel
theorem dX2_startAnew_60 : decode cX2_startAnew 60 = .ok (.if_icmp .ge 17, 3) := by decide +kernel
theorem dX2_startAnew_63 : decode cX2_startAnew 63 = .ok (.aload_n 0, 1) := by decide +kernel
theorem dX2_startAnew_64 : decode cX2_startAnew 64 = .ok (.getfield 18, 3) := by decide +kernel
theorem dX2_startAnew_67 : decode cX2_startAnew 67 = .ok (.iload 4, 2) := by decide +kernel
theorem dX2_startAnew_69 : decode cX2_startAnew 69 = .ok (.iconst 0, 1) := by decide +kernel
theorem dX2_startAnew_70 : decode cX2_startAnew 70 = .ok (.iastore, 1) := by decide +kernel
theorem dX2_startAnew_71 : decode cX2_startAnew 71 = .ok (.iinc 4 1, 3) := by decide +kernel
theorem dX2_startAnew_74 : decode cX2_startAnew 74 = .ok (.goto (-18), 3) := by decide +kernel
theorem dX2_startAnew_77 : decode cX2_startAnew 77 = .ok (.iconst 0, 1) := by decide +kernel
theorem dX2_startAnew_78 : decode cX2_startAnew 78 = .ok (.istore 4, 2) := by decide +kernel
theorem dX2_startAnew_80 : decode cX2_startAnew 80 = .ok (.iload 4, 2) := by decide +kernel
theorem dX2_startAnew_82 : decode cX2_startAnew 82 = .ok (.bipush 8, 2) := by decide +kernel
theorem dX2_startAnew_84 : decode cX2_startAnew 84 = .ok (.if_icmp .ge 17, 3) := by decide +kernel
theorem dX2_startAnew_87 : decode cX2_startAnew 87 = .ok (.aload_n 0, 1) := by decide +kernel
theorem dX2_startAnew_88 : decode cX2_startAnew 88 = .ok (.getfield 22, 3) := by decide +kernel
theorem dX2_startAnew_91 : decode cX2_startAnew 91 = .ok (.iload 4, 2) := by decide +kernel
theorem dX2_startAnew_93 : decode cX2_startAnew 93 = .ok (.iconst 0, 1) := by decide +kernel
theorem dX2_startAnew_94 : decode cX2_startAnew 94 = .ok (.iastore, 1) := by decide +kernel
theorem dX2_startAnew_95 : decode cX2_startAnew 95 = .ok (.iinc 4 1, 3) := by decide +kernel
theorem dX2_startAnew_98 : decode cX2_startAnew 98 = .ok (.goto (-18), 3) := by decide +kernel
theorem dX2_startAnew_101 : decode cX2_startAnew 101 = .ok (.return_, 1) := by decide +kernel
theorem dX2_copyFrom_0 : decode cX2_copyFrom 0 = .ok (.iconst 0, 1) := by decide +kernel
theorem dX2_copyFrom_1 : decode cX2_copyFrom 1 = .ok (.istore_n 2, 1) := by decide +kernel
theorem dX2_copyFrom_2 : decode cX2_copyFrom 2 = .ok (.iload_n 2, 1) := by decide +kernel
theorem dX2_copyFrom_3 : decode cX2_copyFrom 3 = .ok (.iconst 4, 1) := by decide +kernel
theorem dX2_copyFrom_4 : decode cX2_copyFrom 4 = .ok (.if_icmp .ge 24, 3) := by decide +kernel
theorem dX2_copyFrom_7 : decode cX2_copyFrom 7 = .ok (.aload_n 0, 1) := by decide +kernel
theorem dX2_copyFrom_8 : decode cX2_copyFrom 8 = .ok (.getfield 11, 3) := by decide +kernel
theorem dX2_copyFrom_11 : decode cX2_copyFrom 11 = .ok (.iload_n 2, 1) := by decide +kernel
theorem dX2_copyFrom_12 : decode cX2_copyFrom 12 = .ok (.aaload, 1) := by decide +kernel
theorem dX2_copyFrom_13 : decode cX2_copyFrom 13 = .ok (.aload_n 1, 1) := by decide +kernel
theorem dX2_copyFrom_14 : decode cX2_copyFrom 14 = .ok (.getfield 11, 3) := by decide +kernel
theorem dX2_copyFrom_17 : decode cX2_copyFrom 17 = .ok (.iload_n 2, 1) := by decide +kernel
theorem dX2_copyFrom_18 : decode cX2_copyFrom 18 = .ok (.aaload, 1) := by decide +kernel
theorem dX2_copyFrom_19 : decode cX2_copyFrom 19 = .ok (.invokevirtual 56, 3) := by decide +kernel
theorem dX2_copyFrom_22 : decode cX2_copyFrom 22 = .ok (.iinc 2 1, 3) := by decide +kernel
theorem dX2_copyFrom_25 : decode cX2_copyFrom 25 = .ok (.goto (-23), 3) := by decide +kernel
theorem dX2_copyFrom_28 : decode cX2_copyFrom 28 = .ok (.aload_n 1, 1) := by decide +kernel
theorem dX2_copyFrom_29 : decode cX2_copyFrom 29 = .ok (.getfield 18, 3) := by decide +kernel
theorem dX2_copyFrom_32 : decode cX2_copyFrom 32 = .ok (.iconst 0, 1) := by decide +kernel
theorem dX2_copyFrom_33 : decode cX2_copyFrom 33 = .ok (.aload_n 0, 1) := by decide +kernel
theorem dX2_copyFrom_34 : decode cX2_copyFrom 34 = .ok (.getfield 18, 3) := by decide +kernel
theorem dX2_copyFrom_37 : decode cX2_copyFrom 37 = .ok (.iconst 0, 1) := by decide +kernel
theorem dX2_copyFrom_38 : decode cX2_copyFrom 38 = .ok (.bipush 8, 2) := by decide +kernel
theorem dX2_copyFrom_40 : decode cX2_copyFrom 40 = .ok (.invokestatic 60, 3) := by decide +kernel
theorem dX2_copyFrom_43 : decode cX2_copyFrom 43 = .ok (.aload_n 1, 1) := by decide +kernel
theorem dX2_copyFrom_44 : decode cX2_copyFrom 44 = .ok (.getfield 22, 3) := by decide +kernel
theorem dX2_copyFrom_47 : decode cX2_copyFrom 47 = .ok (.iconst 0, 1) := by decide +kernel
theorem dX2_copyFrom_48 : decode cX2_copyFrom 48 = .ok (.aload_n 0, 1) := by decide +kernel
theorem dX2_copyFrom_49 : decode cX2_copyFrom 49 = .ok (.getfield 22, 3) := by decide +kernel
theorem dX2_copyFrom_52 : decode cX2_copyFrom 52 = .ok (.iconst 0, 1) := by decide +kernel
theorem dX2_copyFrom_53 : decode cX2_copyFrom 53 = .ok (.bipush 8, 2) := by decide +kernel
theorem dX2_copyFrom_55 : decode cX2_copyFrom 55 = .ok (.invokestatic 60, 3) := by decide +kernel
theorem dX2_copyFrom_58 : decode cX2_copyFrom 58 = .ok (.aload_n 0, 1) := by decide +kernel
theorem dX2_copyFrom_59 : decode cX2_copyFrom 59 = .ok (.getfield 30, 3) := by decide +kernel
theorem dX2_copyFrom_62 : decode cX2_copyFrom 62 = .ok (.aload_n 1, 1) := by decide +kernel
theorem dX2_copyFrom_63 : decode cX2_copyFrom 63 = .ok (.getfield 30, 3) := by decide +kernel
theorem dX2_copyFrom_66 : decode cX2_copyFrom 66 = .ok (.invokevirtual 66, 3) := by decide +kernel
theorem dX2_copyFrom_69 : decode cX2_copyFrom 69 = .ok (.aload_n 0, 1) := by decide +kernel
theorem dX2_copyFrom_70 : decode cX2_copyFrom 70 = .ok (.aload_n 1, 1) := by decide +kernel
theorem dX2_copyFrom_71 : decode cX2_copyFrom 71 = .ok (.getfield 34, 3) := by decide +kernel
theorem dX2_copyFrom_74 : decode cX2_copyFrom 74 = .ok (.putfield 34, 3) := by decide +kernel
theorem dX2_copyFrom_77 : decode cX2_copyFrom 77 = .ok (.aload_n 0, 1) := by decide +kernel
theorem dX2_copyFrom_78 : decode cX2_copyFrom 78 = .ok (.aload_n 1, 1) := by decide +kernel
theorem dX2_copyFrom_79 : decode cX2_copyFrom 79 = .ok (.getfield 38, 3) := by decide +kernel
theorem dX2_copyFrom_82 : decode cX2_copyFrom 82 = .ok (.putfield 38, 3) := by decide +kernel
theorem dX2_copyFrom_85 : decode cX2_copyFrom 85 = .ok (.aload_n 0, 1) := by decide +kernel
theorem dX2_copyFrom_86 : decode cX2_copyFrom 86 = .ok (.aload_n 1, 1) := by decide +kernel
theorem dX2_copyFrom_87 : decode cX2_copyFrom 87 = .ok (.getfield 41, 3) := by decide +kernel
theorem dX2_copyFrom_90 : decode cX2_copyFrom 90 = .ok (.putfield 41, 3) := by decide +kernel
theorem dX2_copyFrom_93 : decode cX2_copyFrom 93 = .ok (.aload_n 0, 1) := by decide +kernel
theorem dX2_copyFrom_94 : decode cX2_copyFrom 94 = .ok (.aload_n 1, 1) := by decide +kernel
theorem dX2_copyFrom_95 : decode cX2_copyFrom 95 = .ok (.getfield 44, 3) := by decide +kernel
theorem dX2_copyFrom_98 : decode cX2_copyFrom 98 = .ok (.putfield 44, 3) := by decide +kernel
theorem dX2_copyFrom_101 : decode cX2_copyFrom 101 = .ok (.aload_n 0, 1) := by decide +kernel
theorem dX2_copyFrom_102 : decode cX2_copyFrom 102 = .ok (.aload_n 1, 1) := by decide +kernel
theorem dX2_copyFrom_103 : decode cX2_copyFrom 103 = .ok (.getfield 47, 3) := by decide +kernel
theorem dX2_copyFrom_106 : decode cX2_copyFrom 106 = .ok (.putfield 47, 3) := by decide +kernel
theorem dX2_copyFrom_109 : decode cX2_copyFrom 109 = .ok (.return_, 1) := by decide +kernel
theorem dX2_hasCore_0 : decode cX2_hasCore 0 = .ok (.iload_n 1, 1) := by decide +kernel
theorem dX2_hasCore_1 : decode cX2_hasCore 1 = .ok (.ifCond .lt 20, 3) := by decide +kernel
theorem dX2_hasCore_4 : decode cX2_hasCore 4 = .ok (.iload_n 1, 1) := by decide +kernel
theorem dX2_hasCore_5 : decode cX2_hasCore 5 = .ok (.aload_n 0, 1) := by decide +kernel
theorem dX2_hasCore_6 : decode cX2_hasCore 6 = .ok (.getfield 34, 3) := by decide +kernel
theorem dX2_hasCore_9 : decode cX2_hasCore 9 = .ok (.if_icmp .ge 12, 3) := by decide +kernel
theorem dX2_hasCore_12 : decode cX2_hasCore 12 = .ok (.iload_n 1, 1) := by decide +kernel
theorem dX2_hasCore_13 : decode cX2_hasCore 13 = .ok (.iconst 4, 1) := by decide +kernel
theorem dX2_hasCore_14 : decode cX2_hasCore 14 = .ok (.if_icmp .ge 7, 3) := by decide +kernel
theorem dX2_hasCore_17 : decode cX2_hasCore 17 = .ok (.iconst 1, 1) := by decide +kernel
theorem dX2_hasCore_18 : decode cX2_hasCore 18 = .ok (.goto 4, 3) := by decide +kernel
theorem dX2_hasCore_21 : decode cX2_hasCore 21 = .ok (.iconst 0, 1) := by decide +kernel
theorem dX2_hasCore_22 : decode cX2_hasCore 22 = .ok (.ireturn, 1) := by decide +kernel
theorem dX2_fact_0 : decode cX2_fact 0 = .ok (.iload_n 1, 1) := by decide +kernel
theorem dX2_fact_1 : decode cX2_fact 1 = .ok (.tableswitch 51 0 3 #[31, 36, 41, 46], 31) := by decide +kernel
theorem dX2_fact_32 : decode cX2_fact 32 = .ok (.aload_n 0, 1) := by decide +kernel
theorem dX2_fact_33 : decode cX2_fact 33 = .ok (.getfield 34, 3) := by decide +kernel
theorem dX2_fact_36 : decode cX2_fact 36 = .ok (.ireturn, 1) := by decide +kernel
theorem dX2_fact_37 : decode cX2_fact 37 = .ok (.aload_n 0, 1) := by decide +kernel
theorem dX2_fact_38 : decode cX2_fact 38 = .ok (.getfield 38, 3) := by decide +kernel
theorem dX2_fact_41 : decode cX2_fact 41 = .ok (.ireturn, 1) := by decide +kernel
theorem dX2_fact_42 : decode cX2_fact 42 = .ok (.aload_n 0, 1) := by decide +kernel
theorem dX2_fact_43 : decode cX2_fact 43 = .ok (.getfield 41, 3) := by decide +kernel
theorem dX2_fact_46 : decode cX2_fact 46 = .ok (.ireturn, 1) := by decide +kernel
theorem dX2_fact_47 : decode cX2_fact 47 = .ok (.aload_n 0, 1) := by decide +kernel
theorem dX2_fact_48 : decode cX2_fact 48 = .ok (.invokevirtual 69, 3) := by decide +kernel
theorem dX2_fact_51 : decode cX2_fact 51 = .ok (.ireturn, 1) := by decide +kernel
theorem dX2_fact_52 : decode cX2_fact 52 = .ok (.aload_n 0, 1) := by decide +kernel
theorem dX2_fact_53 : decode cX2_fact 53 = .ok (.getfield 47, 3) := by decide +kernel
theorem dX2_fact_56 : decode cX2_fact 56 = .ok (.ireturn, 1) := by decide +kernel
theorem dX2_finishedCores_0 : decode cX2_finishedCores 0 = .ok (.iconst 0, 1) := by decide +kernel
theorem dX2_finishedCores_1 : decode cX2_finishedCores 1 = .ok (.istore_n 1, 1) := by decide +kernel
theorem dX2_finishedCores_2 : decode cX2_finishedCores 2 = .ok (.iconst 0, 1) := by decide +kernel
theorem dX2_finishedCores_3 : decode cX2_finishedCores 3 = .ok (.istore_n 2, 1) := by decide +kernel
theorem dX2_finishedCores_4 : decode cX2_finishedCores 4 = .ok (.iload_n 2, 1) := by decide +kernel
theorem dX2_finishedCores_5 : decode cX2_finishedCores 5 = .ok (.aload_n 0, 1) := by decide +kernel
theorem dX2_finishedCores_6 : decode cX2_finishedCores 6 = .ok (.getfield 34, 3) := by decide +kernel
theorem dX2_finishedCores_9 : decode cX2_finishedCores 9 = .ok (.if_icmp .ge 24, 3) := by decide +kernel
theorem dX2_finishedCores_12 : decode cX2_finishedCores 12 = .ok (.aload_n 0, 1) := by decide +kernel
theorem dX2_finishedCores_13 : decode cX2_finishedCores 13 = .ok (.getfield 11, 3) := by decide +kernel
theorem dX2_finishedCores_16 : decode cX2_finishedCores 16 = .ok (.iload_n 2, 1) := by decide +kernel
theorem dX2_finishedCores_17 : decode cX2_finishedCores 17 = .ok (.aaload, 1) := by decide +kernel
theorem dX2_finishedCores_18 : decode cX2_finishedCores 18 = .ok (.invokevirtual 73, 3) := by decide +kernel
theorem dX2_finishedCores_21 : decode cX2_finishedCores 21 = .ok (.ifCond .eq 6, 3) := by decide +kernel
theorem dX2_finishedCores_24 : decode cX2_finishedCores 24 = .ok (.iinc 1 1, 3) := by decide +kernel
theorem dX2_finishedCores_27 : decode cX2_finishedCores 27 = .ok (.iinc 2 1, 3) := by decide +kernel
theorem dX2_finishedCores_30 : decode cX2_finishedCores 30 = .ok (.goto (-26), 3) := by decide +kernel
theorem dX2_finishedCores_33 : decode cX2_finishedCores 33 = .ok (.iload_n 1, 1) := by decide +kernel
theorem dX2_finishedCores_34 : decode cX2_finishedCores 34 = .ok (.ireturn, 1) := by decide +kernel
theorem dX2_abortsSoFar_0 : decode cX2_abortsSoFar 0 = .ok (.aload_n 0, 1) := by decide +kernel
theorem dX2_abortsSoFar_1 : decode cX2_abortsSoFar 1 = .ok (.getfield 22, 3) := by decide +kernel
theorem dX2_abortsSoFar_4 : decode cX2_abortsSoFar 4 = .ok (.iconst 5, 1) := by decide +kernel
theorem dX2_abortsSoFar_5 : decode cX2_abortsSoFar 5 = .ok (.iaload, 1) := by decide +kernel
theorem dX2_abortsSoFar_6 : decode cX2_abortsSoFar 6 = .ok (.aload_n 0, 1) := by decide +kernel
theorem dX2_abortsSoFar_7 : decode cX2_abortsSoFar 7 = .ok (.getfield 22, 3) := by decide +kernel
theorem dX2_abortsSoFar_10 : decode cX2_abortsSoFar 10 = .ok (.bipush 6, 2) := by decide +kernel
theorem dX2_abortsSoFar_12 : decode cX2_abortsSoFar 12 = .ok (.iaload, 1) := by decide +kernel
theorem dX2_abortsSoFar_13 : decode cX2_abortsSoFar 13 = .ok (.iadd, 1) := by decide +kernel
theorem dX2_abortsSoFar_14 : decode cX2_abortsSoFar 14 = .ok (.ireturn, 1) := by decide +kernel
theorem dX2_committedValue_0 : decode cX2_committedValue 0 = .ok (.iconst 0, 1) := by decide +kernel
theorem dX2_committedValue_1 : decode cX2_committedValue 1 = .ok (.istore_n 2, 1) := by decide +kernel
theorem dX2_committedValue_2 : decode cX2_committedValue 2 = .ok (.iload_n 2, 1) := by decide +kernel
theorem dX2_committedValue_3 : decode cX2_committedValue 3 = .ok (.aload_n 0, 1) := by decide +kernel
theorem dX2_committedValue_4 : decode cX2_committedValue 4 = .ok (.getfield 34, 3) := by decide +kernel
theorem dX2_committedValue_7 : decode cX2_committedValue 7 = .ok (.if_icmp .ge 44, 3) := by decide +kernel
theorem dX2_committedValue_10 : decode cX2_committedValue 10 = .ok (.aload_n 0, 1) := by decide +kernel
theorem dX2_committedValue_11 : decode cX2_committedValue 11 = .ok (.getfield 11, 3) := by decide +kernel
theorem dX2_committedValue_14 : decode cX2_committedValue 14 = .ok (.iload_n 2, 1) := by decide +kernel
theorem dX2_committedValue_15 : decode cX2_committedValue 15 = .ok (.aaload, 1) := by decide +kernel
theorem dX2_committedValue_16 : decode cX2_committedValue 16 = .ok (.astore_n 3, 1) := by decide +kernel
theorem dX2_committedValue_17 : decode cX2_committedValue 17 = .ok (.aload_n 3, 1) := by decide +kernel
theorem dX2_committedValue_18 : decode cX2_committedValue 18 = .ok (.getfield 77, 3) := by decide +kernel
theorem dX2_committedValue_21 : decode cX2_committedValue 21 = .ok (.iload_n 1, 1) := by decide +kernel
theorem dX2_committedValue_22 : decode cX2_committedValue 22 = .ok (.iaload, 1) := by decide +kernel
theorem dX2_committedValue_23 : decode cX2_committedValue 23 = .ok (.iconst 2, 1) := by decide +kernel
theorem dX2_committedValue_24 : decode cX2_committedValue 24 = .ok (.if_icmp .ne 21, 3) := by decide +kernel
theorem dX2_committedValue_27 : decode cX2_committedValue 27 = .ok (.aload_n 3, 1) := by decide +kernel
theorem dX2_committedValue_28 : decode cX2_committedValue 28 = .ok (.getfield 80, 3) := by decide +kernel
theorem dX2_committedValue_31 : decode cX2_committedValue 31 = .ok (.iload_n 1, 1) := by decide +kernel
theorem dX2_committedValue_32 : decode cX2_committedValue 32 = .ok (.invokestatic 83, 3) := by decide +kernel
theorem dX2_committedValue_35 : decode cX2_committedValue 35 = .ok (.ifCond .ne 10, 3) := by decide +kernel
theorem dX2_committedValue_38 : decode cX2_committedValue 38 = .ok (.aload_n 3, 1) := by decide +kernel
theorem dX2_committedValue_39 : decode cX2_committedValue 39 = .ok (.getfield 87, 3) := by decide +kernel
theorem dX2_committedValue_42 : decode cX2_committedValue 42 = .ok (.iload_n 1, 1) := by decide +kernel
theorem dX2_committedValue_43 : decode cX2_committedValue 43 = .ok (.iaload, 1) := by decide +kernel
theorem dX2_committedValue_44 : decode cX2_committedValue 44 = .ok (.ireturn, 1) := by decide +kernel
theorem dX2_committedValue_45 : decode cX2_committedValue 45 = .ok (.iinc 2 1, 3) := by decide +kernel
theorem dX2_committedValue_48 : decode cX2_committedValue 48 = .ok (.goto (-46), 3) := by decide +kernel
theorem dX2_committedValue_51 : decode cX2_committedValue 51 = .ok (.aload_n 0, 1) := by decide +kernel
theorem dX2_committedValue_52 : decode cX2_committedValue 52 = .ok (.getfield 18, 3) := by decide +kernel
theorem dX2_committedValue_55 : decode cX2_committedValue 55 = .ok (.iload_n 1, 1) := by decide +kernel
theorem dX2_committedValue_56 : decode cX2_committedValue 56 = .ok (.iaload, 1) := by decide +kernel
theorem dX2_committedValue_57 : decode cX2_committedValue 57 = .ok (.ireturn, 1) := by decide +kernel
theorem dX2_stepOften_0 : decode cX2_stepOften 0 = .ok (.iconst 0, 1) := by decide +kernel
theorem dX2_stepOften_1 : decode cX2_stepOften 1 = .ok (.istore_n 2, 1) := by decide +kernel
theorem dX2_stepOften_2 : decode cX2_stepOften 2 = .ok (.iload_n 2, 1) := by decide +kernel
theorem dX2_stepOften_3 : decode cX2_stepOften 3 = .ok (.iload_n 1, 1) := by decide +kernel
theorem dX2_stepOften_4 : decode cX2_stepOften 4 = .ok (.if_icmp .ge 26, 3) := by decide +kernel
theorem dX2_stepOften_7 : decode cX2_stepOften 7 = .ok (.aload_n 0, 1) := by decide +kernel
theorem dX2_stepOften_8 : decode cX2_stepOften 8 = .ok (.invokevirtual 90, 3) := by decide +kernel
theorem dX2_stepOften_11 : decode cX2_stepOften 11 = .ok (.istore_n 3, 1) := by decide +kernel
theorem dX2_stepOften_12 : decode cX2_stepOften 12 = .ok (.iload_n 3, 1) := by decide +kernel
theorem dX2_stepOften_13 : decode cX2_stepOften 13 = .ok (.iconst (-1), 1) := by decide +kernel
theorem dX2_stepOften_14 : decode cX2_stepOften 14 = .ok (.if_icmp .ne 4, 3) := by decide +kernel
theorem dX2_stepOften_17 : decode cX2_stepOften 17 = .ok (.return_, 1) := by decide +kernel
theorem dX2_stepOften_18 : decode cX2_stepOften 18 = .ok (.aload_n 0, 1) := by decide +kernel
theorem dX2_stepOften_19 : decode cX2_stepOften 19 = .ok (.iload_n 3, 1) := by decide +kernel
theorem dX2_stepOften_20 : decode cX2_stepOften 20 = .ok (.invokevirtual 93, 3) := by decide +kernel
theorem dX2_stepOften_23 : decode cX2_stepOften 23 = .ok (.pop, 1) := by decide +kernel
theorem dX2_stepOften_24 : decode cX2_stepOften 24 = .ok (.iinc 2 1, 3) := by decide +kernel
theorem dX2_stepOften_27 : decode cX2_stepOften 27 = .ok (.goto (-25), 3) := by decide +kernel
theorem dX2_stepOften_30 : decode cX2_stepOften 30 = .ok (.return_, 1) := by decide +kernel
theorem dX2_stepsUntilFinished_0 : decode cX2_stepsUntilFinished 0 = .ok (.iconst 0, 1) := by decide +kernel
theorem dX2_stepsUntilFinished_1 : decode cX2_stepsUntilFinished 1 = .ok (.istore_n 1, 1) := by decide +kernel
theorem dX2_stepsUntilFinished_2 : decode cX2_stepsUntilFinished 2 = .ok (.iload_n 1, 1) := by decide +kernel
theorem dX2_stepsUntilFinished_3 : decode cX2_stepsUntilFinished 3 = .ok (.sipush 2000, 3) := by decide +kernel
theorem dX2_stepsUntilFinished_6 : decode cX2_stepsUntilFinished 6 = .ok (.if_icmp .ge 27, 3) := by decide +kernel
theorem dX2_stepsUntilFinished_9 : decode cX2_stepsUntilFinished 9 = .ok (.aload_n 0, 1) := by decide +kernel
theorem dX2_stepsUntilFinished_10 : decode cX2_stepsUntilFinished 10 = .ok (.invokevirtual 90, 3) := by decide +kernel
theorem dX2_stepsUntilFinished_13 : decode cX2_stepsUntilFinished 13 = .ok (.istore_n 2, 1) := by decide +kernel
theorem dX2_stepsUntilFinished_14 : decode cX2_stepsUntilFinished 14 = .ok (.iload_n 2, 1) := by decide +kernel
theorem dX2_stepsUntilFinished_15 : decode cX2_stepsUntilFinished 15 = .ok (.iconst (-1), 1) := by decide +kernel
theorem dX2_stepsUntilFinished_16 : decode cX2_stepsUntilFinished 16 = .ok (.if_icmp .ne 5, 3) := by decide +kernel
theorem dX2_stepsUntilFinished_19 : decode cX2_stepsUntilFinished 19 = .ok (.iload_n 1, 1) := by decide +kernel
theorem dX2_stepsUntilFinished_20 : decode cX2_stepsUntilFinished 20 = .ok (.ireturn, 1) := by decide +kernel
theorem dX2_stepsUntilFinished_21 : decode cX2_stepsUntilFinished 21 = .ok (.aload_n 0, 1) := by decide +kernel
theorem dX2_stepsUntilFinished_22 : decode cX2_stepsUntilFinished 22 = .ok (.iload_n 2, 1) := by decide +kernel
theorem dX2_stepsUntilFinished_23 : decode cX2_stepsUntilFinished 23 = .ok (.invokevirtual 93, 3) := by decide +kernel
theorem dX2_stepsUntilFinished_26 : decode cX2_stepsUntilFinished 26 = .ok (.pop, 1) := by decide +kernel
theorem dX2_stepsUntilFinished_27 : decode cX2_stepsUntilFinished 27 = .ok (.iinc 1 1, 3) := by decide +kernel
theorem dX2_stepsUntilFinished_30 : decode cX2_stepsUntilFinished 30 = .ok (.goto (-28), 3) := by decide +kernel
theorem dX2_stepsUntilFinished_33 : decode cX2_stepsUntilFinished 33 = .ok (.aload_n 0, 1) := by decide +kernel
theorem dX2_stepsUntilFinished_34 : decode cX2_stepsUntilFinished 34 = .ok (.invokevirtual 69, 3) := by decide +kernel
theorem dX2_stepsUntilFinished_37 : decode cX2_stepsUntilFinished 37 = .ok (.aload_n 0, 1) := by decide +kernel
theorem dX2_stepsUntilFinished_38 : decode cX2_stepsUntilFinished 38 = .ok (.getfield 34, 3) := by decide +kernel
theorem dX2_stepsUntilFinished_41 : decode cX2_stepsUntilFinished 41 = .ok (.if_icmp .ne 9, 3) := by decide +kernel
theorem dX2_stepsUntilFinished_44 : decode cX2_stepsUntilFinished 44 = .ok (.sipush 2000, 3) := by decide +kernel
theorem dX2_stepsUntilFinished_47 : decode cX2_stepsUntilFinished 47 = .ok (.goto 4, 3) := by decide +kernel
theorem dX2_stepsUntilFinished_50 : decode cX2_stepsUntilFinished 50 = .ok (.iconst (-1), 1) := by decide +kernel
theorem dX2_stepsUntilFinished_51 : decode cX2_stepsUntilFinished 51 = .ok (.ireturn, 1) := by decide +kernel
theorem dX2_drawCore_0 : decode cX2_drawCore 0 = .ok (.aload_n 0, 1) := by decide +kernel
theorem dX2_drawCore_1 : decode cX2_drawCore 1 = .ok (.getfield 34, 3) := by decide +kernel
theorem dX2_drawCore_4 : decode cX2_drawCore 4 = .ok (.aload_n 0, 1) := by decide +kernel
theorem dX2_drawCore_5 : decode cX2_drawCore 5 = .ok (.invokevirtual 69, 3) := by decide +kernel
theorem dX2_drawCore_8 : decode cX2_drawCore 8 = .ok (.isub, 1) := by decide +kernel
theorem dX2_drawCore_9 : decode cX2_drawCore 9 = .ok (.istore_n 1, 1) := by decide +kernel
theorem dX2_drawCore_10 : decode cX2_drawCore 10 = .ok (.iload_n 1, 1) := by decide +kernel
theorem dX2_drawCore_11 : decode cX2_drawCore 11 = .ok (.ifCond .gt 5, 3) := by decide +kernel
theorem dX2_drawCore_14 : decode cX2_drawCore 14 = .ok (.iconst (-1), 1) := by decide +kernel
theorem dX2_drawCore_15 : decode cX2_drawCore 15 = .ok (.ireturn, 1) := by decide +kernel
theorem dX2_drawCore_16 : decode cX2_drawCore 16 = .ok (.aload_n 0, 1) := by decide +kernel
theorem dX2_drawCore_17 : decode cX2_drawCore 17 = .ok (.ldc2_w 97, 3) := by decide +kernel
theorem dX2_drawCore_20 : decode cX2_drawCore 20 = .ok (.aload_n 0, 1) := by decide +kernel
theorem dX2_drawCore_21 : decode cX2_drawCore 21 = .ok (.getfield 44, 3) := by decide +kernel
theorem dX2_drawCore_24 : decode cX2_drawCore 24 = .ok (.i2l, 1) := by decide +kernel
theorem dX2_drawCore_25 : decode cX2_drawCore 25 = .ok (.lmul, 1) := by decide +kernel
theorem dX2_drawCore_26 : decode cX2_drawCore 26 = .ok (.ldc2_w 99, 3) := by decide +kernel
theorem dX2_drawCore_29 : decode cX2_drawCore 29 = .ok (.ladd, 1) := by decide +kernel
theorem dX2_drawCore_30 : decode cX2_drawCore 30 = .ok (.ldc2_w 101, 3) := by decide +kernel
theorem dX2_drawCore_33 : decode cX2_drawCore 33 = .ok (.lrem, 1) := by decide +kernel
theorem dX2_drawCore_34 : decode cX2_drawCore 34 = .ok (.l2i, 1) := by decide +kernel
theorem dX2_drawCore_35 : decode cX2_drawCore 35 = .ok (.putfield 44, 3) := by decide +kernel
theorem dX2_drawCore_38 : decode cX2_drawCore 38 = .ok (.aload_n 0, 1) := by decide +kernel
theorem dX2_drawCore_39 : decode cX2_drawCore 39 = .ok (.getfield 44, 3) := by decide +kernel
theorem dX2_drawCore_42 : decode cX2_drawCore 42 = .ok (.ldc 103, 2) := by decide +kernel
theorem dX2_drawCore_44 : decode cX2_drawCore 44 = .ok (.idiv, 1) := by decide +kernel
theorem dX2_drawCore_45 : decode cX2_drawCore 45 = .ok (.iload_n 1, 1) := by decide +kernel
theorem dX2_drawCore_46 : decode cX2_drawCore 46 = .ok (.irem, 1) := by decide +kernel
theorem dX2_drawCore_47 : decode cX2_drawCore 47 = .ok (.istore_n 2, 1) := by decide +kernel
theorem dX2_drawCore_48 : decode cX2_drawCore 48 = .ok (.iconst 0, 1) := by decide +kernel
theorem dX2_drawCore_49 : decode cX2_drawCore 49 = .ok (.istore_n 3, 1) := by decide +kernel
theorem dX2_drawCore_50 : decode cX2_drawCore 50 = .ok (.iload_n 3, 1) := by decide +kernel
theorem dX2_drawCore_51 : decode cX2_drawCore 51 = .ok (.aload_n 0, 1) := by decide +kernel
theorem dX2_drawCore_52 : decode cX2_drawCore 52 = .ok (.getfield 34, 3) := by decide +kernel
theorem dX2_drawCore_55 : decode cX2_drawCore 55 = .ok (.if_icmp .ge 33, 3) := by decide +kernel
theorem dX2_drawCore_58 : decode cX2_drawCore 58 = .ok (.aload_n 0, 1) := by decide +kernel
theorem dX2_drawCore_59 : decode cX2_drawCore 59 = .ok (.getfield 11, 3) := by decide +kernel
theorem dX2_drawCore_62 : decode cX2_drawCore 62 = .ok (.iload_n 3, 1) := by decide +kernel
theorem dX2_drawCore_63 : decode cX2_drawCore 63 = .ok (.aaload, 1) := by decide +kernel
theorem dX2_drawCore_64 : decode cX2_drawCore 64 = .ok (.invokevirtual 73, 3) := by decide +kernel
theorem dX2_drawCore_67 : decode cX2_drawCore 67 = .ok (.ifCond .eq 6, 3) := by decide +kernel
theorem dX2_drawCore_70 : decode cX2_drawCore 70 = .ok (.goto 12, 3) := by decide +kernel
theorem dX2_drawCore_73 : decode cX2_drawCore 73 = .ok (.iload_n 2, 1) := by decide +kernel
theorem dX2_drawCore_74 : decode cX2_drawCore 74 = .ok (.ifCond .ne 5, 3) := by decide +kernel
theorem dX2_drawCore_77 : decode cX2_drawCore 77 = .ok (.iload_n 3, 1) := by decide +kernel
theorem dX2_drawCore_78 : decode cX2_drawCore 78 = .ok (.ireturn, 1) := by decide +kernel
theorem dX2_drawCore_79 : decode cX2_drawCore 79 = .ok (.iinc 2 (-1), 3) := by decide +kernel
theorem dX2_drawCore_82 : decode cX2_drawCore 82 = .ok (.iinc 3 1, 3) := by decide +kernel
theorem dX2_drawCore_85 : decode cX2_drawCore 85 = .ok (.goto (-35), 3) := by decide +kernel
theorem dX2_drawCore_88 : decode cX2_drawCore 88 = .ok (.iconst (-1), 1) := by decide +kernel
theorem dX2_drawCore_89 : decode cX2_drawCore 89 = .ok (.ireturn, 1) := by decide +kernel
theorem dX2_stepCore_0 : decode cX2_stepCore 0 = .ok (.aload_n 0, 1) := by decide +kernel
theorem dX2_stepCore_1 : decode cX2_stepCore 1 = .ok (.getfield 11, 3) := by decide +kernel
theorem dX2_stepCore_4 : decode cX2_stepCore 4 = .ok (.iload_n 1, 1) := by decide +kernel
theorem dX2_stepCore_5 : decode cX2_stepCore 5 = .ok (.aaload, 1) := by decide +kernel
theorem dX2_stepCore_6 : decode cX2_stepCore 6 = .ok (.astore_n 2, 1) := by decide +kernel
theorem dX2_stepCore_7 : decode cX2_stepCore 7 = .ok (.aload_n 2, 1) := by decide +kernel
theorem dX2_stepCore_8 : decode cX2_stepCore 8 = .ok (.invokevirtual 73, 3) := by decide +kernel
theorem dX2_stepCore_11 : decode cX2_stepCore 11 = .ok (.ifCond .eq 5, 3) := by decide +kernel
theorem dX2_stepCore_14 : decode cX2_stepCore 14 = .ok (.iconst 0, 1) := by decide +kernel
theorem dX2_stepCore_15 : decode cX2_stepCore 15 = .ok (.ireturn, 1) := by decide +kernel
theorem dX2_stepCore_16 : decode cX2_stepCore 16 = .ok (.aload_n 2, 1) := by decide +kernel
theorem dX2_stepCore_17 : decode cX2_stepCore 17 = .ok (.getfield 104, 3) := by decide +kernel
theorem dX2_stepCore_20 : decode cX2_stepCore 20 = .ok (.getfield 108, 3) := by decide +kernel
theorem dX2_stepCore_23 : decode cX2_stepCore 23 = .ok (.aload_n 2, 1) := by decide +kernel
theorem dX2_stepCore_24 : decode cX2_stepCore 24 = .ok (.getfield 113, 3) := by decide +kernel
theorem dX2_stepCore_27 : decode cX2_stepCore 27 = .ok (.iaload, 1) := by decide +kernel
theorem dX2_stepCore_28 : decode cX2_stepCore 28 = .ok (.istore_n 3, 1) := by decide +kernel
theorem dX2_stepCore_29 : decode cX2_stepCore 29 = .ok (.aload_n 0, 1) := by decide +kernel
theorem dX2_stepCore_30 : decode cX2_stepCore 30 = .ok (.invokevirtual 116, 3) := by decide +kernel
theorem dX2_stepCore_33 : decode cX2_stepCore 33 = .ok (.istore 4, 2) := by decide +kernel
theorem dX2_stepCore_35 : decode cX2_stepCore 35 = .ok (.aload_n 2, 1) := by decide +kernel
theorem dX2_stepCore_36 : decode cX2_stepCore 36 = .ok (.getfield 119, 3) := by decide +kernel
theorem dX2_stepCore_39 : decode cX2_stepCore 39 = .ok (.istore 5, 2) := by decide +kernel
theorem dX2_stepCore_41 : decode cX2_stepCore 41 = .ok (.aload_n 0, 1) := by decide +kernel
theorem dX2_stepCore_42 : decode cX2_stepCore 42 = .ok (.getfield 22, 3) := by decide +kernel
theorem dX2_stepCore_45 : decode cX2_stepCore 45 = .ok (.bipush 7, 2) := by decide +kernel
theorem dX2_stepCore_47 : decode cX2_stepCore 47 = .ok (.dup2, 1) := by decide +kernel
theorem dX2_stepCore_48 : decode cX2_stepCore 48 = .ok (.iaload, 1) := by decide +kernel
theorem dX2_stepCore_49 : decode cX2_stepCore 49 = .ok (.iconst 1, 1) := by decide +kernel
theorem dX2_stepCore_50 : decode cX2_stepCore 50 = .ok (.iadd, 1) := by decide +kernel
theorem dX2_stepCore_51 : decode cX2_stepCore 51 = .ok (.iastore, 1) := by decide +kernel
theorem dX2_stepCore_52 : decode cX2_stepCore 52 = .ok (.aload_n 2, 1) := by decide +kernel
theorem dX2_stepCore_53 : decode cX2_stepCore 53 = .ok (.getfield 104, 3) := by decide +kernel
theorem dX2_stepCore_56 : decode cX2_stepCore 56 = .ok (.getfield 122, 3) := by decide +kernel
theorem dX2_stepCore_59 : decode cX2_stepCore 59 = .ok (.aload_n 2, 1) := by decide +kernel
theorem dX2_stepCore_60 : decode cX2_stepCore 60 = .ok (.getfield 113, 3) := by decide +kernel
theorem dX2_stepCore_63 : decode cX2_stepCore 63 = .ok (.iaload, 1) := by decide +kernel
theorem dX2_stepCore_64 : decode cX2_stepCore 64 = .ok (.tableswitch 66 0 3 #[32, 40, 48, 57], 32) := by decide +kernel
theorem dX2_stepCore_96 : decode cX2_stepCore 96 = .ok (.aload_n 0, 1) := by decide +kernel
theorem dX2_stepCore_97 : decode cX2_stepCore 97 = .ok (.aload_n 2, 1) := by decide +kernel
theorem dX2_stepCore_98 : decode cX2_stepCore 98 = .ok (.invokevirtual 125, 3) := by decide +kernel
theorem dX2_stepCore_101 : decode cX2_stepCore 101 = .ok (.goto 39, 3) := by decide +kernel
theorem dX2_stepCore_104 : decode cX2_stepCore 104 = .ok (.aload_n 0, 1) := by decide +kernel
theorem dX2_stepCore_105 : decode cX2_stepCore 105 = .ok (.iload_n 1, 1) := by decide +kernel
theorem dX2_stepCore_106 : decode cX2_stepCore 106 = .ok (.invokevirtual 128, 3) := by decide +kernel
theorem dX2_stepCore_109 : decode cX2_stepCore 109 = .ok (.goto 31, 3) := by decide +kernel
theorem dX2_stepCore_112 : decode cX2_stepCore 112 = .ok (.aload_n 0, 1) := by decide +kernel
theorem dX2_stepCore_113 : decode cX2_stepCore 113 = .ok (.iload_n 1, 1) := by decide +kernel
theorem dX2_stepCore_114 : decode cX2_stepCore 114 = .ok (.iload_n 3, 1) := by decide +kernel
theorem dX2_stepCore_115 : decode cX2_stepCore 115 = .ok (.invokevirtual 131, 3) := by decide +kernel
theorem dX2_stepCore_118 : decode cX2_stepCore 118 = .ok (.goto 22, 3) := by decide +kernel
theorem dX2_stepCore_121 : decode cX2_stepCore 121 = .ok (.aload_n 0, 1) := by decide +kernel
theorem dX2_stepCore_122 : decode cX2_stepCore 122 = .ok (.iload_n 1, 1) := by decide +kernel
theorem dX2_stepCore_123 : decode cX2_stepCore 123 = .ok (.iload_n 3, 1) := by decide +kernel
theorem dX2_stepCore_124 : decode cX2_stepCore 124 = .ok (.invokevirtual 135, 3) := by decide +kernel
theorem dX2_stepCore_127 : decode cX2_stepCore 127 = .ok (.goto 13, 3) := by decide +kernel
theorem dX2_stepCore_130 : decode cX2_stepCore 130 = .ok (.aload_n 2, 1) := by decide +kernel
theorem dX2_stepCore_131 : decode cX2_stepCore 131 = .ok (.dup, 1) := by decide +kernel
theorem dX2_stepCore_132 : decode cX2_stepCore 132 = .ok (.getfield 138, 3) := by decide +kernel
theorem dX2_stepCore_135 : decode cX2_stepCore 135 = .ok (.iload_n 3, 1) := by decide +kernel
theorem dX2_stepCore_136 : decode cX2_stepCore 136 = .ok (.iadd, 1) := by decide +kernel
theorem dX2_stepCore_137 : decode cX2_stepCore 137 = .ok (.putfield 138, 3) := by decide +kernel
theorem dX2_stepCore_140 : decode cX2_stepCore 140 = .ok (.aload_n 0, 1) := by decide +kernel
theorem dX2_stepCore_141 : decode cX2_stepCore 141 = .ok (.invokevirtual 116, 3) := by decide +kernel
theorem dX2_stepCore_144 : decode cX2_stepCore 144 = .ok (.iload 4, 2) := by decide +kernel
theorem dX2_stepCore_146 : decode cX2_stepCore 146 = .ok (.isub, 1) := by decide +kernel
theorem dX2_stepCore_147 : decode cX2_stepCore 147 = .ok (.istore 6, 2) := by decide +kernel
theorem dX2_stepCore_149 : decode cX2_stepCore 149 = .ok (.aload_n 2, 1) := by decide +kernel
theorem dX2_stepCore_150 : decode cX2_stepCore 150 = .ok (.getfield 119, 3) := by decide +kernel
theorem dX2_stepCore_153 : decode cX2_stepCore 153 = .ok (.iload 5, 2) := by decide +kernel
theorem dX2_stepCore_155 : decode cX2_stepCore 155 = .ok (.if_icmp .eq 9, 3) := by decide +kernel
theorem dX2_stepCore_158 : decode cX2_stepCore 158 = .ok (.iload 6, 2) := by decide +kernel
theorem dX2_stepCore_160 : decode cX2_stepCore 160 = .ok (.bipush 8, 2) := by decide +kernel
theorem dX2_stepCore_162 : decode cX2_stepCore 162 = .ok (.iadd, 1) := by decide +kernel
theorem dX2_stepCore_163 : decode cX2_stepCore 163 = .ok (.ireturn, 1) := by decide +kernel
theorem dX2_stepCore_164 : decode cX2_stepCore 164 = .ok (.aload_n 2, 1) := by decide +kernel
theorem dX2_stepCore_165 : decode cX2_stepCore 165 = .ok (.dup, 1) := by decide +kernel
theorem dX2_stepCore_166 : decode cX2_stepCore 166 = .ok (.getfield 113, 3) := by decide +kernel
theorem dX2_stepCore_169 : decode cX2_stepCore 169 = .ok (.iconst 1, 1) := by decide +kernel
theorem dX2_stepCore_170 : decode cX2_stepCore 170 = .ok (.iadd, 1) := by decide +kernel
theorem dX2_stepCore_171 : decode cX2_stepCore 171 = .ok (.putfield 113, 3) := by decide +kernel
theorem dX2_stepCore_174 : decode cX2_stepCore 174 = .ok (.iload 6, 2) := by decide +kernel
theorem dX2_stepCore_176 : decode cX2_stepCore 176 = .ok (.ireturn, 1) := by decide +kernel
theorem dX2_beginIn_0 : decode cX2_beginIn 0 = .ok (.aload_n 1, 1) := by decide +kernel
theorem dX2_beginIn_1 : decode cX2_beginIn 1 = .ok (.invokevirtual 141, 3) := by decide +kernel
theorem dX2_beginIn_4 : decode cX2_beginIn 4 = .ok (.ifCond .eq 4, 3) := by decide +kernel
theorem dX2_beginIn_7 : decode cX2_beginIn 7 = .ok (.return_, 1) := by decide +kernel
theorem dX2_beginIn_8 : decode cX2_beginIn 8 = .ok (.aload_n 1, 1) := by decide +kernel
theorem dX2_beginIn_9 : decode cX2_beginIn 9 = .ok (.getfield 144, 3) := by decide +kernel
theorem dX2_beginIn_12 : decode cX2_beginIn 12 = .ok (.iconst (-1), 1) := by decide +kernel
theorem dX2_beginIn_13 : decode cX2_beginIn 13 = .ok (.if_icmp .eq 14, 3) := by decide +kernel
theorem dX2_beginIn_16 : decode cX2_beginIn 16 = .ok (.aload_n 1, 1) := by decide +kernel
theorem dX2_beginIn_17 : decode cX2_beginIn 17 = .ok (.aload_n 1, 1) := by decide +kernel
theorem dX2_beginIn_18 : decode cX2_beginIn 18 = .ok (.getfield 144, 3) := by decide +kernel
theorem dX2_beginIn_21 : decode cX2_beginIn 21 = .ok (.invokevirtual 147, 3) := by decide +kernel
theorem dX2_beginIn_24 : decode cX2_beginIn 24 = .ok (.goto 21, 3) := by decide +kernel
theorem dX2_beginIn_27 : decode cX2_beginIn 27 = .ok (.aload_n 1, 1) := by decide +kernel
theorem dX2_beginIn_28 : decode cX2_beginIn 28 = .ok (.aload_n 0, 1) := by decide +kernel
theorem dX2_beginIn_29 : decode cX2_beginIn 29 = .ok (.getfield 47, 3) := by decide +kernel
theorem dX2_beginIn_32 : decode cX2_beginIn 32 = .ok (.invokevirtual 147, 3) := by decide +kernel
theorem dX2_beginIn_35 : decode cX2_beginIn 35 = .ok (.aload_n 0, 1) := by decide +kernel
theorem dX2_beginIn_36 : decode cX2_beginIn 36 = .ok (.dup, 1) := by decide +kernel
theorem dX2_beginIn_37 : decode cX2_beginIn 37 = .ok (.getfield 47, 3) := by decide +kernel
theorem dX2_beginIn_40 : decode cX2_beginIn 40 = .ok (.iconst 1, 1) := by decide +kernel
theorem dX2_beginIn_41 : decode cX2_beginIn 41 = .ok (.iadd, 1) := by decide +kernel
theorem dX2_beginIn_42 : decode cX2_beginIn 42 = .ok (.putfield 47, 3) := by decide +kernel
theorem dX2_beginIn_45 : decode cX2_beginIn 45 = .ok (.return_, 1) := by decide +kernel
theorem dX2_commitIn_0 : decode cX2_commitIn 0 = .ok (.aload_n 0, 1) := by decide +kernel
theorem dX2_commitIn_1 : decode cX2_commitIn 1 = .ok (.getfield 11, 3) := by decide +kernel
theorem dX2_commitIn_4 : decode cX2_commitIn 4 = .ok (.iload_n 1, 1) := by decide +kernel
theorem dX2_commitIn_5 : decode cX2_commitIn 5 = .ok (.aaload, 1) := by decide +kernel
theorem dX2_commitIn_6 : decode cX2_commitIn 6 = .ok (.astore_n 2, 1) := by decide +kernel
theorem dX2_commitIn_7 : decode cX2_commitIn 7 = .ok (.aload_n 2, 1) := by decide +kernel
theorem dX2_commitIn_8 : decode cX2_commitIn 8 = .ok (.invokevirtual 141, 3) := by decide +kernel
theorem dX2_commitIn_11 : decode cX2_commitIn 11 = .ok (.ifCond .eq 26, 3) := by decide +kernel
theorem dX2_commitIn_14 : decode cX2_commitIn 14 = .ok (.aload_n 0, 1) := by decide +kernel
theorem dX2_commitIn_15 : decode cX2_commitIn 15 = .ok (.getfield 30, 3) := by decide +kernel
theorem dX2_commitIn_18 : decode cX2_commitIn 18 = .ok (.iload_n 1, 1) := by decide +kernel
theorem dX2_commitIn_19 : decode cX2_commitIn 19 = .ok (.aload_n 2, 1) := by decide +kernel
theorem dX2_commitIn_20 : decode cX2_commitIn 20 = .ok (.invokevirtual 150, 3) := by decide +kernel
theorem dX2_commitIn_23 : decode cX2_commitIn 23 = .ok (.aload_n 2, 1) := by decide +kernel
theorem dX2_commitIn_24 : decode cX2_commitIn 24 = .ok (.invokevirtual 154, 3) := by decide +kernel
theorem dX2_commitIn_27 : decode cX2_commitIn 27 = .ok (.aload_n 2, 1) := by decide +kernel
theorem dX2_commitIn_28 : decode cX2_commitIn 28 = .ok (.dup, 1) := by decide +kernel
theorem dX2_commitIn_29 : decode cX2_commitIn 29 = .ok (.getfield 157, 3) := by decide +kernel
theorem dX2_commitIn_32 : decode cX2_commitIn 32 = .ok (.iconst 1, 1) := by decide +kernel
theorem dX2_commitIn_33 : decode cX2_commitIn 33 = .ok (.iadd, 1) := by decide +kernel
theorem dX2_commitIn_34 : decode cX2_commitIn 34 = .ok (.putfield 157, 3) := by decide +kernel
theorem dX2_commitIn_37 : decode cX2_commitIn 37 = .ok (.return_, 1) := by decide +kernel
theorem dX2_readLine_0 : decode cX2_readLine 0 = .ok (.aload_n 0, 1) := by decide +kernel
theorem dX2_readLine_1 : decode cX2_readLine 1 = .ok (.getfield 11, 3) := by decide +kernel
theorem dX2_readLine_4 : decode cX2_readLine 4 = .ok (.iload_n 1, 1) := by decide +kernel
theorem dX2_readLine_5 : decode cX2_readLine 5 = .ok (.aaload, 1) := by decide +kernel
theorem dX2_readLine_6 : decode cX2_readLine 6 = .ok (.astore_n 3, 1) := by decide +kernel
theorem dX2_readLine_7 : decode cX2_readLine 7 = .ok (.iload_n 2, 1) := by decide +kernel
theorem dX2_readLine_8 : decode cX2_readLine 8 = .ok (.invokestatic 160, 3) := by decide +kernel
theorem dX2_readLine_11 : decode cX2_readLine 11 = .ok (.ifCond .eq 13, 3) := by decide +kernel
theorem dX2_readLine_14 : decode cX2_readLine 14 = .ok (.aload_n 0, 1) := by decide +kernel
theorem dX2_readLine_15 : decode cX2_readLine 15 = .ok (.iload_n 1, 1) := by decide +kernel
theorem dX2_readLine_16 : decode cX2_readLine 16 = .ok (.iload_n 2, 1) := by decide +kernel
theorem dX2_readLine_17 : decode cX2_readLine 17 = .ok (.iconst 0, 1) := by decide +kernel
theorem dX2_readLine_18 : decode cX2_readLine 18 = .ok (.invokevirtual 164, 3) := by decide +kernel
theorem dX2_readLine_21 : decode cX2_readLine 21 = .ok (.ifCond .ne 4, 3) := by decide +kernel
theorem dX2_readLine_24 : decode cX2_readLine 24 = .ok (.return_, 1) := by decide +kernel
theorem dX2_readLine_25 : decode cX2_readLine 25 = .ok (.aload_n 3, 1) := by decide +kernel
theorem dX2_readLine_26 : decode cX2_readLine 26 = .ok (.getfield 77, 3) := by decide +kernel
theorem dX2_readLine_29 : decode cX2_readLine 29 = .ok (.iload_n 2, 1) := by decide +kernel
theorem dX2_readLine_30 : decode cX2_readLine 30 = .ok (.iaload, 1) := by decide +kernel
theorem dX2_readLine_31 : decode cX2_readLine 31 = .ok (.ifCond .ne 38, 3) := by decide +kernel
theorem dX2_readLine_34 : decode cX2_readLine 34 = .ok (.aload_n 0, 1) := by decide +kernel
theorem dX2_readLine_35 : decode cX2_readLine 35 = .ok (.getfield 22, 3) := by decide +kernel
theorem dX2_readLine_38 : decode cX2_readLine 38 = .ok (.iconst 0, 1) := by decide +kernel
theorem dX2_readLine_39 : decode cX2_readLine 39 = .ok (.dup2, 1) := by decide +kernel
theorem dX2_readLine_40 : decode cX2_readLine 40 = .ok (.iaload, 1) := by decide +kernel
theorem dX2_readLine_41 : decode cX2_readLine 41 = .ok (.iconst 1, 1) := by decide +kernel
theorem dX2_readLine_42 : decode cX2_readLine 42 = .ok (.iadd, 1) := by decide +kernel
theorem dX2_readLine_43 : decode cX2_readLine 43 = .ok (.iastore, 1) := by decide +kernel
theorem dX2_readLine_44 : decode cX2_readLine 44 = .ok (.aload_n 0, 1) := by decide +kernel
theorem dX2_readLine_45 : decode cX2_readLine 45 = .ok (.iload_n 1, 1) := by decide +kernel
theorem dX2_readLine_46 : decode cX2_readLine 46 = .ok (.iload_n 2, 1) := by decide +kernel
theorem dX2_readLine_47 : decode cX2_readLine 47 = .ok (.invokevirtual 168, 3) := by decide +kernel
theorem dX2_readLine_50 : decode cX2_readLine 50 = .ok (.aload_n 3, 1) := by decide +kernel
theorem dX2_readLine_51 : decode cX2_readLine 51 = .ok (.getfield 77, 3) := by decide +kernel
theorem dX2_readLine_54 : decode cX2_readLine 54 = .ok (.iload_n 2, 1) := by decide +kernel
theorem dX2_readLine_55 : decode cX2_readLine 55 = .ok (.iconst 1, 1) := by decide +kernel
theorem dX2_readLine_56 : decode cX2_readLine 56 = .ok (.iastore, 1) := by decide +kernel
theorem dX2_readLine_57 : decode cX2_readLine 57 = .ok (.aload_n 3, 1) := by decide +kernel
theorem dX2_readLine_58 : decode cX2_readLine 58 = .ok (.getfield 87, 3) := by decide +kernel
theorem dX2_readLine_61 : decode cX2_readLine 61 = .ok (.iload_n 2, 1) := by decide +kernel
theorem dX2_readLine_62 : decode cX2_readLine 62 = .ok (.aload_n 0, 1) := by decide +kernel
theorem dX2_readLine_63 : decode cX2_readLine 63 = .ok (.getfield 18, 3) := by decide +kernel
theorem dX2_readLine_66 : decode cX2_readLine 66 = .ok (.iload_n 2, 1) := by decide +kernel
theorem dX2_readLine_67 : decode cX2_readLine 67 = .ok (.iaload, 1) := by decide +kernel
theorem dX2_readLine_68 : decode cX2_readLine 68 = .ok (.iastore, 1) := by decide +kernel
theorem dX2_readLine_69 : decode cX2_readLine 69 = .ok (.aload_n 3, 1) := by decide +kernel
theorem dX2_readLine_70 : decode cX2_readLine 70 = .ok (.iload_n 2, 1) := by decide +kernel
theorem dX2_readLine_71 : decode cX2_readLine 71 = .ok (.invokevirtual 171, 3) := by decide +kernel
theorem dX2_readLine_74 : decode cX2_readLine 74 = .ok (.aload_n 3, 1) := by decide +kernel
theorem dX2_readLine_75 : decode cX2_readLine 75 = .ok (.aload_n 3, 1) := by decide +kernel
theorem dX2_readLine_76 : decode cX2_readLine 76 = .ok (.getfield 87, 3) := by decide +kernel
theorem dX2_readLine_79 : decode cX2_readLine 79 = .ok (.iload_n 2, 1) := by decide +kernel
theorem dX2_readLine_80 : decode cX2_readLine 80 = .ok (.iaload, 1) := by decide +kernel
theorem dX2_readLine_81 : decode cX2_readLine 81 = .ok (.putfield 138, 3) := by decide +kernel
theorem dX2_readLine_84 : decode cX2_readLine 84 = .ok (.return_, 1) := by decide +kernel
theorem dX2_writeLine_0 : decode cX2_writeLine 0 = .ok (.aload_n 0, 1) := by decide +kernel
theorem dX2_writeLine_1 : decode cX2_writeLine 1 = .ok (.getfield 11, 3) := by decide +kernel
theorem dX2_writeLine_4 : decode cX2_writeLine 4 = .ok (.iload_n 1, 1) := by decide +kernel
theorem dX2_writeLine_5 : decode cX2_writeLine 5 = .ok (.aaload, 1) := by decide +kernel
theorem dX2_writeLine_6 : decode cX2_writeLine 6 = .ok (.astore_n 3, 1) := by decide +kernel
theorem dX2_writeLine_7 : decode cX2_writeLine 7 = .ok (.iload_n 2, 1) := by decide +kernel
theorem dX2_writeLine_8 : decode cX2_writeLine 8 = .ok (.invokestatic 160, 3) := by decide +kernel
theorem dX2_writeLine_11 : decode cX2_writeLine 11 = .ok (.ifCond .eq 13, 3) := by decide +kernel
theorem dX2_writeLine_14 : decode cX2_writeLine 14 = .ok (.aload_n 0, 1) := by decide +kernel
theorem dX2_writeLine_15 : decode cX2_writeLine 15 = .ok (.iload_n 1, 1) := by decide +kernel
theorem dX2_writeLine_16 : decode cX2_writeLine 16 = .ok (.iload_n 2, 1) := by decide +kernel
theorem dX2_writeLine_17 : decode cX2_writeLine 17 = .ok (.iconst 1, 1) := by decide +kernel
theorem dX2_writeLine_18 : decode cX2_writeLine 18 = .ok (.invokevirtual 164, 3) := by decide +kernel
theorem dX2_writeLine_21 : decode cX2_writeLine 21 = .ok (.ifCond .ne 4, 3) := by decide +kernel
theorem dX2_writeLine_24 : decode cX2_writeLine 24 = .ok (.return_, 1) := by decide +kernel
theorem dX2_writeLine_25 : decode cX2_writeLine 25 = .ok (.aload_n 3, 1) := by decide +kernel
theorem dX2_writeLine_26 : decode cX2_writeLine 26 = .ok (.iload_n 2, 1) := by decide +kernel
theorem dX2_writeLine_27 : decode cX2_writeLine 27 = .ok (.aload_n 0, 1) := by decide +kernel
theorem dX2_writeLine_28 : decode cX2_writeLine 28 = .ok (.getfield 41, 3) := by decide +kernel
theorem dX2_writeLine_31 : decode cX2_writeLine 31 = .ok (.invokevirtual 174, 3) := by decide +kernel
theorem dX2_writeLine_34 : decode cX2_writeLine 34 = .ok (.ifCond .eq 19, 3) := by decide +kernel
theorem dX2_writeLine_37 : decode cX2_writeLine 37 = .ok (.aload_n 3, 1) := by decide +kernel
theorem dX2_writeLine_38 : decode cX2_writeLine 38 = .ok (.invokevirtual 177, 3) := by decide +kernel
theorem dX2_writeLine_41 : decode cX2_writeLine 41 = .ok (.aload_n 0, 1) := by decide +kernel
theorem dX2_writeLine_42 : decode cX2_writeLine 42 = .ok (.getfield 22, 3) := by decide +kernel
theorem dX2_writeLine_45 : decode cX2_writeLine 45 = .ok (.bipush 6, 2) := by decide +kernel
theorem dX2_writeLine_47 : decode cX2_writeLine 47 = .ok (.dup2, 1) := by decide +kernel
theorem dX2_writeLine_48 : decode cX2_writeLine 48 = .ok (.iaload, 1) := by decide +kernel
theorem dX2_writeLine_49 : decode cX2_writeLine 49 = .ok (.iconst 1, 1) := by decide +kernel
theorem dX2_writeLine_50 : decode cX2_writeLine 50 = .ok (.iadd, 1) := by decide +kernel
theorem dX2_writeLine_51 : decode cX2_writeLine 51 = .ok (.iastore, 1) := by decide +kernel
theorem dX2_writeLine_52 : decode cX2_writeLine 52 = .ok (.return_, 1) := by decide +kernel
theorem dX2_writeLine_53 : decode cX2_writeLine 53 = .ok (.aload_n 3, 1) := by decide +kernel
theorem dX2_writeLine_54 : decode cX2_writeLine 54 = .ok (.getfield 77, 3) := by decide +kernel
theorem dX2_writeLine_57 : decode cX2_writeLine 57 = .ok (.iload_n 2, 1) := by decide +kernel
theorem dX2_writeLine_58 : decode cX2_writeLine 58 = .ok (.iaload, 1) := by decide +kernel
theorem dX2_writeLine_59 : decode cX2_writeLine 59 = .ok (.iconst 2, 1) := by decide +kernel
theorem dX2_writeLine_60 : decode cX2_writeLine 60 = .ok (.if_icmp .eq 12, 3) := by decide +kernel
theorem dX2_writeLine_63 : decode cX2_writeLine 63 = .ok (.aload_n 0, 1) := by decide +kernel
theorem dX2_writeLine_64 : decode cX2_writeLine 64 = .ok (.iload_n 1, 1) := by decide +kernel
theorem dX2_writeLine_65 : decode cX2_writeLine 65 = .ok (.iload_n 2, 1) := by decide +kernel
theorem dX2_writeLine_66 : decode cX2_writeLine 66 = .ok (.invokevirtual 180, 3) := by decide +kernel
theorem dX2_writeLine_69 : decode cX2_writeLine 69 = .ok (.goto 27, 3) := by decide +kernel
theorem dX2_writeLine_72 : decode cX2_writeLine 72 = .ok (.aload_n 3, 1) := by decide +kernel
theorem dX2_writeLine_73 : decode cX2_writeLine 73 = .ok (.invokevirtual 141, 3) := by decide +kernel
theorem dX2_writeLine_76 : decode cX2_writeLine 76 = .ok (.ifCond .eq 20, 3) := by decide +kernel
theorem dX2_writeLine_79 : decode cX2_writeLine 79 = .ok (.aload_n 3, 1) := by decide +kernel
theorem dX2_writeLine_80 : decode cX2_writeLine 80 = .ok (.getfield 80, 3) := by decide +kernel
theorem dX2_writeLine_83 : decode cX2_writeLine 83 = .ok (.iload_n 2, 1) := by decide +kernel
theorem dX2_writeLine_84 : decode cX2_writeLine 84 = .ok (.invokestatic 83, 3) := by decide +kernel
theorem dX2_writeLine_87 : decode cX2_writeLine 87 = .ok (.ifCond .ne 9, 3) := by decide +kernel
theorem dX2_writeLine_90 : decode cX2_writeLine 90 = .ok (.aload_n 0, 1) := by decide +kernel
theorem dX2_writeLine_91 : decode cX2_writeLine 91 = .ok (.aload_n 3, 1) := by decide +kernel
theorem dX2_writeLine_92 : decode cX2_writeLine 92 = .ok (.iload_n 2, 1) := by decide +kernel
theorem dX2_writeLine_93 : decode cX2_writeLine 93 = .ok (.invokevirtual 183, 3) := by decide +kernel
theorem dX2_writeLine_96 : decode cX2_writeLine 96 = .ok (.aload_n 3, 1) := by decide +kernel
theorem dX2_writeLine_97 : decode cX2_writeLine 97 = .ok (.getfield 87, 3) := by decide +kernel
theorem dX2_writeLine_100 : decode cX2_writeLine 100 = .ok (.iload_n 2, 1) := by decide +kernel
theorem dX2_writeLine_101 : decode cX2_writeLine 101 = .ok (.aload_n 3, 1) := by decide +kernel
theorem dX2_writeLine_102 : decode cX2_writeLine 102 = .ok (.getfield 138, 3) := by decide +kernel
theorem dX2_writeLine_105 : decode cX2_writeLine 105 = .ok (.iastore, 1) := by decide +kernel
theorem dX2_writeLine_106 : decode cX2_writeLine 106 = .ok (.aload_n 3, 1) := by decide +kernel
theorem dX2_writeLine_107 : decode cX2_writeLine 107 = .ok (.invokevirtual 141, 3) := by decide +kernel
theorem dX2_writeLine_110 : decode cX2_writeLine 110 = .ok (.ifCond .eq 18, 3) := by decide +kernel
theorem dX2_writeLine_113 : decode cX2_writeLine 113 = .ok (.aload_n 3, 1) := by decide +kernel
theorem dX2_writeLine_114 : decode cX2_writeLine 114 = .ok (.dup, 1) := by decide +kernel
theorem dX2_writeLine_115 : decode cX2_writeLine 115 = .ok (.getfield 80, 3) := by decide +kernel
theorem dX2_writeLine_118 : decode cX2_writeLine 118 = .ok (.iconst 1, 1) := by decide +kernel
theorem dX2_writeLine_119 : decode cX2_writeLine 119 = .ok (.iload_n 2, 1) := by decide +kernel
theorem dX2_writeLine_120 : decode cX2_writeLine 120 = .ok (.ishl, 1) := by decide +kernel
theorem dX2_writeLine_121 : decode cX2_writeLine 121 = .ok (.ior, 1) := by decide +kernel
theorem dX2_writeLine_122 : decode cX2_writeLine 122 = .ok (.putfield 80, 3) := by decide +kernel
theorem dX2_writeLine_125 : decode cX2_writeLine 125 = .ok (.goto 16, 3) := by decide +kernel
theorem dX2_writeLine_128 : decode cX2_writeLine 128 = .ok (.aload_n 0, 1) := by decide +kernel
theorem dX2_writeLine_129 : decode cX2_writeLine 129 = .ok (.getfield 30, 3) := by decide +kernel
theorem dX2_writeLine_132 : decode cX2_writeLine 132 = .ok (.iload_n 1, 1) := by decide +kernel
theorem dX2_writeLine_133 : decode cX2_writeLine 133 = .ok (.iload_n 2, 1) := by decide +kernel
theorem dX2_writeLine_134 : decode cX2_writeLine 134 = .ok (.aload_n 3, 1) := by decide +kernel
theorem dX2_writeLine_135 : decode cX2_writeLine 135 = .ok (.getfield 87, 3) := by decide +kernel
theorem dX2_writeLine_138 : decode cX2_writeLine 138 = .ok (.invokevirtual 187, 3) := by decide +kernel
theorem dX2_writeLine_141 : decode cX2_writeLine 141 = .ok (.return_, 1) := by decide +kernel
theorem dX2_takeOver_0 : decode cX2_takeOver 0 = .ok (.aload_n 0, 1) := by decide +kernel
theorem dX2_takeOver_1 : decode cX2_takeOver 1 = .ok (.getfield 11, 3) := by decide +kernel
theorem dX2_takeOver_4 : decode cX2_takeOver 4 = .ok (.iload_n 1, 1) := by decide +kernel
theorem dX2_takeOver_5 : decode cX2_takeOver 5 = .ok (.aaload, 1) := by decide +kernel
theorem dX2_takeOver_6 : decode cX2_takeOver 6 = .ok (.astore_n 3, 1) := by decide +kernel
theorem dX2_takeOver_7 : decode cX2_takeOver 7 = .ok (.aload_n 0, 1) := by decide +kernel
theorem dX2_takeOver_8 : decode cX2_takeOver 8 = .ok (.getfield 22, 3) := by decide +kernel
theorem dX2_takeOver_11 : decode cX2_takeOver 11 = .ok (.aload_n 3, 1) := by decide +kernel
theorem dX2_takeOver_12 : decode cX2_takeOver 12 = .ok (.getfield 77, 3) := by decide +kernel
theorem dX2_takeOver_15 : decode cX2_takeOver 15 = .ok (.iload_n 2, 1) := by decide +kernel
theorem dX2_takeOver_16 : decode cX2_takeOver 16 = .ok (.iaload, 1) := by decide +kernel
theorem dX2_takeOver_17 : decode cX2_takeOver 17 = .ok (.ifCond .ne 7, 3) := by decide +kernel
theorem dX2_takeOver_20 : decode cX2_takeOver 20 = .ok (.iconst 1, 1) := by decide +kernel
theorem dX2_takeOver_21 : decode cX2_takeOver 21 = .ok (.goto 4, 3) := by decide +kernel
theorem dX2_takeOver_24 : decode cX2_takeOver 24 = .ok (.iconst 2, 1) := by decide +kernel
theorem dX2_takeOver_25 : decode cX2_takeOver 25 = .ok (.dup2, 1) := by decide +kernel
theorem dX2_takeOver_26 : decode cX2_takeOver 26 = .ok (.iaload, 1) := by decide +kernel
theorem dX2_takeOver_27 : decode cX2_takeOver 27 = .ok (.iconst 1, 1) := by decide +kernel
theorem dX2_takeOver_28 : decode cX2_takeOver 28 = .ok (.iadd, 1) := by decide +kernel
theorem dX2_takeOver_29 : decode cX2_takeOver 29 = .ok (.iastore, 1) := by decide +kernel
theorem dX2_takeOver_30 : decode cX2_takeOver 30 = .ok (.aload_n 0, 1) := by decide +kernel
theorem dX2_takeOver_31 : decode cX2_takeOver 31 = .ok (.iload_n 1, 1) := by decide +kernel
theorem dX2_takeOver_32 : decode cX2_takeOver 32 = .ok (.iload_n 2, 1) := by decide +kernel
theorem dX2_takeOver_33 : decode cX2_takeOver 33 = .ok (.invokevirtual 168, 3) := by decide +kernel
theorem dX2_takeOver_36 : decode cX2_takeOver 36 = .ok (.iconst 0, 1) := by decide +kernel
theorem dX2_takeOver_37 : decode cX2_takeOver 37 = .ok (.istore 4, 2) := by decide +kernel
theorem dX2_takeOver_39 : decode cX2_takeOver 39 = .ok (.iload 4, 2) := by decide +kernel
theorem dX2_takeOver_41 : decode cX2_takeOver 41 = .ok (.aload_n 0, 1) := by decide +kernel
theorem dX2_takeOver_42 : decode cX2_takeOver 42 = .ok (.getfield 34, 3) := by decide +kernel
theorem dX2_takeOver_45 : decode cX2_takeOver 45 = .ok (.if_icmp .ge 53, 3) := by decide +kernel
theorem dX2_takeOver_48 : decode cX2_takeOver 48 = .ok (.iload 4, 2) := by decide +kernel
theorem dX2_takeOver_50 : decode cX2_takeOver 50 = .ok (.iload_n 1, 1) := by decide +kernel
theorem dX2_takeOver_51 : decode cX2_takeOver 51 = .ok (.if_icmp .eq 41, 3) := by decide +kernel
theorem dX2_takeOver_54 : decode cX2_takeOver 54 = .ok (.aload_n 0, 1) := by decide +kernel
theorem dX2_takeOver_55 : decode cX2_takeOver 55 = .ok (.getfield 11, 3) := by decide +kernel
theorem dX2_takeOver_58 : decode cX2_takeOver 58 = .ok (.iload 4, 2) := by decide +kernel
theorem dX2_takeOver_60 : decode cX2_takeOver 60 = .ok (.aaload, 1) := by decide +kernel
theorem dX2_takeOver_61 : decode cX2_takeOver 61 = .ok (.getfield 77, 3) := by decide +kernel
theorem dX2_takeOver_64 : decode cX2_takeOver 64 = .ok (.iload_n 2, 1) := by decide +kernel
theorem dX2_takeOver_65 : decode cX2_takeOver 65 = .ok (.iaload, 1) := by decide +kernel
theorem dX2_takeOver_66 : decode cX2_takeOver 66 = .ok (.ifCond .eq 26, 3) := by decide +kernel
theorem dX2_takeOver_69 : decode cX2_takeOver 69 = .ok (.aload_n 0, 1) := by decide +kernel
theorem dX2_takeOver_70 : decode cX2_takeOver 70 = .ok (.getfield 11, 3) := by decide +kernel
theorem dX2_takeOver_73 : decode cX2_takeOver 73 = .ok (.iload 4, 2) := by decide +kernel
theorem dX2_takeOver_75 : decode cX2_takeOver 75 = .ok (.aaload, 1) := by decide +kernel
theorem dX2_takeOver_76 : decode cX2_takeOver 76 = .ok (.getfield 77, 3) := by decide +kernel
theorem dX2_takeOver_79 : decode cX2_takeOver 79 = .ok (.iload_n 2, 1) := by decide +kernel
theorem dX2_takeOver_80 : decode cX2_takeOver 80 = .ok (.iconst 0, 1) := by decide +kernel
theorem dX2_takeOver_81 : decode cX2_takeOver 81 = .ok (.iastore, 1) := by decide +kernel
theorem dX2_takeOver_82 : decode cX2_takeOver 82 = .ok (.aload_n 0, 1) := by decide +kernel
theorem dX2_takeOver_83 : decode cX2_takeOver 83 = .ok (.getfield 22, 3) := by decide +kernel
theorem dX2_takeOver_86 : decode cX2_takeOver 86 = .ok (.iconst 3, 1) := by decide +kernel
theorem dX2_takeOver_87 : decode cX2_takeOver 87 = .ok (.dup2, 1) := by decide +kernel
theorem dX2_takeOver_88 : decode cX2_takeOver 88 = .ok (.iaload, 1) := by decide +kernel
theorem dX2_takeOver_89 : decode cX2_takeOver 89 = .ok (.iconst 1, 1) := by decide +kernel
theorem dX2_takeOver_90 : decode cX2_takeOver 90 = .ok (.iadd, 1) := by decide +kernel
theorem dX2_takeOver_91 : decode cX2_takeOver 91 = .ok (.iastore, 1) := by decide +kernel
theorem dX2_takeOver_92 : decode cX2_takeOver 92 = .ok (.iinc 4 1, 3) := by decide +kernel
theorem dX2_takeOver_95 : decode cX2_takeOver 95 = .ok (.goto (-56), 3) := by decide +kernel
theorem dX2_takeOver_98 : decode cX2_takeOver 98 = .ok (.aload_n 3, 1) := by decide +kernel
theorem dX2_takeOver_99 : decode cX2_takeOver 99 = .ok (.getfield 77, 3) := by decide +kernel
theorem dX2_takeOver_102 : decode cX2_takeOver 102 = .ok (.iload_n 2, 1) := by decide +kernel
theorem dX2_takeOver_103 : decode cX2_takeOver 103 = .ok (.iconst 2, 1) := by decide +kernel
theorem dX2_takeOver_104 : decode cX2_takeOver 104 = .ok (.iastore, 1) := by decide +kernel
theorem dX2_takeOver_105 : decode cX2_takeOver 105 = .ok (.return_, 1) := by decide +kernel
theorem dX2_writeBackElsewhere_0 : decode cX2_writeBackElsewhere 0 = .ok (.iconst 0, 1) := by decide +kernel
theorem dX2_writeBackElsewhere_1 : decode cX2_writeBackElsewhere 1 = .ok (.istore_n 3, 1) := by decide +kernel
theorem dX2_writeBackElsewhere_2 : decode cX2_writeBackElsewhere 2 = .ok (.iload_n 3, 1) := by decide +kernel
theorem dX2_writeBackElsewhere_3 : decode cX2_writeBackElsewhere 3 = .ok (.aload_n 0, 1) := by decide +kernel
theorem dX2_writeBackElsewhere_4 : decode cX2_writeBackElsewhere 4 = .ok (.getfield 34, 3) := by decide +kernel
theorem dX2_writeBackElsewhere_7 : decode cX2_writeBackElsewhere 7 = .ok (.if_icmp .ge 52, 3) := by decide +kernel
theorem dX2_writeBackElsewhere_10 : decode cX2_writeBackElsewhere 10 = .ok (.iload_n 3, 1) := by decide +kernel
theorem dX2_writeBackElsewhere_11 : decode cX2_writeBackElsewhere 11 = .ok (.iload_n 1, 1) := by decide +kernel
theorem dX2_writeBackElsewhere_12 : decode cX2_writeBackElsewhere 12 = .ok (.if_icmp .eq 41, 3) := by decide +kernel
theorem dX2_writeBackElsewhere_15 : decode cX2_writeBackElsewhere 15 = .ok (.aload_n 0, 1) := by decide +kernel
theorem dX2_writeBackElsewhere_16 : decode cX2_writeBackElsewhere 16 = .ok (.getfield 11, 3) := by decide +kernel
theorem dX2_writeBackElsewhere_19 : decode cX2_writeBackElsewhere 19 = .ok (.iload_n 3, 1) := by decide +kernel
theorem dX2_writeBackElsewhere_20 : decode cX2_writeBackElsewhere 20 = .ok (.aaload, 1) := by decide +kernel
theorem dX2_writeBackElsewhere_21 : decode cX2_writeBackElsewhere 21 = .ok (.getfield 77, 3) := by decide +kernel
theorem dX2_writeBackElsewhere_24 : decode cX2_writeBackElsewhere 24 = .ok (.iload_n 2, 1) := by decide +kernel
theorem dX2_writeBackElsewhere_25 : decode cX2_writeBackElsewhere 25 = .ok (.iaload, 1) := by decide +kernel
theorem dX2_writeBackElsewhere_26 : decode cX2_writeBackElsewhere 26 = .ok (.iconst 2, 1) := by decide +kernel
theorem dX2_writeBackElsewhere_27 : decode cX2_writeBackElsewhere 27 = .ok (.if_icmp .ne 26, 3) := by decide +kernel
theorem dX2_writeBackElsewhere_30 : decode cX2_writeBackElsewhere 30 = .ok (.aload_n 0, 1) := by decide +kernel
theorem dX2_writeBackElsewhere_31 : decode cX2_writeBackElsewhere 31 = .ok (.aload_n 0, 1) := by decide +kernel
theorem dX2_writeBackElsewhere_32 : decode cX2_writeBackElsewhere 32 = .ok (.getfield 11, 3) := by decide +kernel
theorem dX2_writeBackElsewhere_35 : decode cX2_writeBackElsewhere 35 = .ok (.iload_n 3, 1) := by decide +kernel
theorem dX2_writeBackElsewhere_36 : decode cX2_writeBackElsewhere 36 = .ok (.aaload, 1) := by decide +kernel
theorem dX2_writeBackElsewhere_37 : decode cX2_writeBackElsewhere 37 = .ok (.iload_n 2, 1) := by decide +kernel
theorem dX2_writeBackElsewhere_38 : decode cX2_writeBackElsewhere 38 = .ok (.invokevirtual 183, 3) := by decide +kernel
theorem dX2_writeBackElsewhere_41 : decode cX2_writeBackElsewhere 41 = .ok (.aload_n 0, 1) := by decide +kernel
theorem dX2_writeBackElsewhere_42 : decode cX2_writeBackElsewhere 42 = .ok (.getfield 11, 3) := by decide +kernel
theorem dX2_writeBackElsewhere_45 : decode cX2_writeBackElsewhere 45 = .ok (.iload_n 3, 1) := by decide +kernel
theorem dX2_writeBackElsewhere_46 : decode cX2_writeBackElsewhere 46 = .ok (.aaload, 1) := by decide +kernel
theorem dX2_writeBackElsewhere_47 : decode cX2_writeBackElsewhere 47 = .ok (.getfield 77, 3) := by decide +kernel
theorem dX2_writeBackElsewhere_50 : decode cX2_writeBackElsewhere 50 = .ok (.iload_n 2, 1) := by decide +kernel
theorem dX2_writeBackElsewhere_51 : decode cX2_writeBackElsewhere 51 = .ok (.iconst 1, 1) := by decide +kernel
theorem dX2_writeBackElsewhere_52 : decode cX2_writeBackElsewhere 52 = .ok (.iastore, 1) := by decide +kernel
theorem dX2_writeBackElsewhere_53 : decode cX2_writeBackElsewhere 53 = .ok (.iinc 3 1, 3) := by decide +kernel
theorem dX2_writeBackElsewhere_56 : decode cX2_writeBackElsewhere 56 = .ok (.goto (-54), 3) := by decide +kernel
theorem dX2_writeBackElsewhere_59 : decode cX2_writeBackElsewhere 59 = .ok (.return_, 1) := by decide +kernel
theorem dX2_writeBack_0 : decode cX2_writeBack 0 = .ok (.aload_n 0, 1) := by decide +kernel
theorem dX2_writeBack_1 : decode cX2_writeBack 1 = .ok (.getfield 18, 3) := by decide +kernel
theorem dX2_writeBack_4 : decode cX2_writeBack 4 = .ok (.iload_n 2, 1) := by decide +kernel
theorem dX2_writeBack_5 : decode cX2_writeBack 5 = .ok (.aload_n 1, 1) := by decide +kernel
theorem dX2_writeBack_6 : decode cX2_writeBack 6 = .ok (.getfield 87, 3) := by decide +kernel
theorem dX2_writeBack_9 : decode cX2_writeBack 9 = .ok (.iload_n 2, 1) := by decide +kernel
theorem dX2_writeBack_10 : decode cX2_writeBack 10 = .ok (.iaload, 1) := by decide +kernel
theorem dX2_writeBack_11 : decode cX2_writeBack 11 = .ok (.iastore, 1) := by decide +kernel
theorem dX2_writeBack_12 : decode cX2_writeBack 12 = .ok (.aload_n 0, 1) := by decide +kernel
theorem dX2_writeBack_13 : decode cX2_writeBack 13 = .ok (.getfield 22, 3) := by decide +kernel
theorem dX2_writeBack_16 : decode cX2_writeBack 16 = .ok (.iconst 4, 1) := by decide +kernel
theorem dX2_writeBack_17 : decode cX2_writeBack 17 = .ok (.dup2, 1) := by decide +kernel
theorem dX2_writeBack_18 : decode cX2_writeBack 18 = .ok (.iaload, 1) := by decide +kernel
theorem dX2_writeBack_19 : decode cX2_writeBack 19 = .ok (.iconst 1, 1) := by decide +kernel
theorem dX2_writeBack_20 : decode cX2_writeBack 20 = .ok (.iadd, 1) := by decide +kernel
theorem dX2_writeBack_21 : decode cX2_writeBack 21 = .ok (.iastore, 1) := by decide +kernel
theorem dX2_writeBack_22 : decode cX2_writeBack 22 = .ok (.return_, 1) := by decide +kernel
theorem dX2_winsConflicts_0 : decode cX2_winsConflicts 0 = .ok (.aload_n 0, 1) := by decide +kernel
theorem dX2_winsConflicts_1 : decode cX2_winsConflicts 1 = .ok (.getfield 11, 3) := by decide +kernel
theorem dX2_winsConflicts_4 : decode cX2_winsConflicts 4 = .ok (.iload_n 1, 1) := by decide +kernel
theorem dX2_winsConflicts_5 : decode cX2_winsConflicts 5 = .ok (.aaload, 1) := by decide +kernel
theorem dX2_winsConflicts_6 : decode cX2_winsConflicts 6 = .ok (.astore 4, 2) := by decide +kernel
theorem dX2_winsConflicts_8 : decode cX2_winsConflicts 8 = .ok (.iconst 0, 1) := by decide +kernel
theorem dX2_winsConflicts_9 : decode cX2_winsConflicts 9 = .ok (.istore 5, 2) := by decide +kernel
theorem dX2_winsConflicts_11 : decode cX2_winsConflicts 11 = .ok (.iload 5, 2) := by decide +kernel
theorem dX2_winsConflicts_13 : decode cX2_winsConflicts 13 = .ok (.aload_n 0, 1) := by decide +kernel
theorem dX2_winsConflicts_14 : decode cX2_winsConflicts 14 = .ok (.getfield 34, 3) := by decide +kernel
theorem dX2_winsConflicts_17 : decode cX2_winsConflicts 17 = .ok (.if_icmp .ge 79, 3) := by decide +kernel
theorem dX2_winsConflicts_20 : decode cX2_winsConflicts 20 = .ok (.aload_n 0, 1) := by decide +kernel
theorem dX2_winsConflicts_21 : decode cX2_winsConflicts 21 = .ok (.getfield 11, 3) := by decide +kernel
theorem dX2_winsConflicts_24 : decode cX2_winsConflicts 24 = .ok (.iload 5, 2) := by decide +kernel
theorem dX2_winsConflicts_26 : decode cX2_winsConflicts 26 = .ok (.aaload, 1) := by decide +kernel
theorem dX2_winsConflicts_27 : decode cX2_winsConflicts 27 = .ok (.astore 6, 2) := by decide +kernel
theorem dX2_winsConflicts_29 : decode cX2_winsConflicts 29 = .ok (.iload 5, 2) := by decide +kernel
theorem dX2_winsConflicts_31 : decode cX2_winsConflicts 31 = .ok (.iload_n 1, 1) := by decide +kernel
theorem dX2_winsConflicts_32 : decode cX2_winsConflicts 32 = .ok (.if_icmp .eq 58, 3) := by decide +kernel
theorem dX2_winsConflicts_35 : decode cX2_winsConflicts 35 = .ok (.aload 6, 2) := by decide +kernel
theorem dX2_winsConflicts_37 : decode cX2_winsConflicts 37 = .ok (.iload_n 2, 1) := by decide +kernel
theorem dX2_winsConflicts_38 : decode cX2_winsConflicts 38 = .ok (.iload_n 3, 1) := by decide +kernel
theorem dX2_winsConflicts_39 : decode cX2_winsConflicts 39 = .ok (.invokevirtual 191, 3) := by decide +kernel
theorem dX2_winsConflicts_42 : decode cX2_winsConflicts 42 = .ok (.ifCond .ne 6, 3) := by decide +kernel
theorem dX2_winsConflicts_45 : decode cX2_winsConflicts 45 = .ok (.goto 45, 3) := by decide +kernel
theorem dX2_winsConflicts_48 : decode cX2_winsConflicts 48 = .ok (.aload_n 0, 1) := by decide +kernel
theorem dX2_winsConflicts_49 : decode cX2_winsConflicts 49 = .ok (.aload 4, 2) := by decide +kernel
theorem dX2_winsConflicts_51 : decode cX2_winsConflicts 51 = .ok (.aload 6, 2) := by decide +kernel
theorem dX2_winsConflicts_53 : decode cX2_winsConflicts 53 = .ok (.invokevirtual 195, 3) := by decide +kernel
theorem dX2_winsConflicts_56 : decode cX2_winsConflicts 56 = .ok (.istore 7, 2) := by decide +kernel
theorem dX2_winsConflicts_58 : decode cX2_winsConflicts 58 = .ok (.iload 7, 2) := by decide +kernel
theorem dX2_winsConflicts_60 : decode cX2_winsConflicts 60 = .ok (.ifCond .eq 8, 3) := by decide +kernel
theorem dX2_winsConflicts_63 : decode cX2_winsConflicts 63 = .ok (.aload 6, 2) := by decide +kernel
theorem dX2_winsConflicts_65 : decode cX2_winsConflicts 65 = .ok (.goto 5, 3) := by decide +kernel
theorem dX2_winsConflicts_68 : decode cX2_winsConflicts 68 = .ok (.aload 4, 2) := by decide +kernel
theorem dX2_winsConflicts_70 : decode cX2_winsConflicts 70 = .ok (.invokevirtual 177, 3) := by decide +kernel
theorem dX2_winsConflicts_73 : decode cX2_winsConflicts 73 = .ok (.aload_n 0, 1) := by decide +kernel
theorem dX2_winsConflicts_74 : decode cX2_winsConflicts 74 = .ok (.getfield 22, 3) := by decide +kernel
theorem dX2_winsConflicts_77 : decode cX2_winsConflicts 77 = .ok (.iconst 5, 1) := by decide +kernel
theorem dX2_winsConflicts_78 : decode cX2_winsConflicts 78 = .ok (.dup2, 1) := by decide +kernel
theorem dX2_winsConflicts_79 : decode cX2_winsConflicts 79 = .ok (.iaload, 1) := by decide +kernel
theorem dX2_winsConflicts_80 : decode cX2_winsConflicts 80 = .ok (.iconst 1, 1) := by decide +kernel
theorem dX2_winsConflicts_81 : decode cX2_winsConflicts 81 = .ok (.iadd, 1) := by decide +kernel
theorem dX2_winsConflicts_82 : decode cX2_winsConflicts 82 = .ok (.iastore, 1) := by decide +kernel
theorem dX2_winsConflicts_83 : decode cX2_winsConflicts 83 = .ok (.iload 7, 2) := by decide +kernel
theorem dX2_winsConflicts_85 : decode cX2_winsConflicts 85 = .ok (.ifCond .ne 5, 3) := by decide +kernel
theorem dX2_winsConflicts_88 : decode cX2_winsConflicts 88 = .ok (.iconst 0, 1) := by decide +kernel
theorem dX2_winsConflicts_89 : decode cX2_winsConflicts 89 = .ok (.ireturn, 1) := by decide +kernel
theorem dX2_winsConflicts_90 : decode cX2_winsConflicts 90 = .ok (.iinc 5 1, 3) := by decide +kernel
theorem dX2_winsConflicts_93 : decode cX2_winsConflicts 93 = .ok (.goto (-82), 3) := by decide +kernel
theorem dX2_winsConflicts_96 : decode cX2_winsConflicts 96 = .ok (.iconst 1, 1) := by decide +kernel
theorem dX2_winsConflicts_97 : decode cX2_winsConflicts 97 = .ok (.ireturn, 1) := by decide +kernel
theorem dX2_winsAgainst_0 : decode cX2_winsAgainst 0 = .ok (.aload_n 1, 1) := by decide +kernel
theorem dX2_winsAgainst_1 : decode cX2_winsAgainst 1 = .ok (.invokevirtual 141, 3) := by decide +kernel
theorem dX2_winsAgainst_4 : decode cX2_winsAgainst 4 = .ok (.ifCond .eq 10, 3) := by decide +kernel
theorem dX2_winsAgainst_7 : decode cX2_winsAgainst 7 = .ok (.aload_n 0, 1) := by decide +kernel
theorem dX2_winsAgainst_8 : decode cX2_winsAgainst 8 = .ok (.getfield 38, 3) := by decide +kernel
theorem dX2_winsAgainst_11 : decode cX2_winsAgainst 11 = .ok (.ifCond .ne 5, 3) := by decide +kernel
theorem dX2_winsAgainst_14 : decode cX2_winsAgainst 14 = .ok (.iconst 1, 1) := by decide +kernel
theorem dX2_winsAgainst_15 : decode cX2_winsAgainst 15 = .ok (.ireturn, 1) := by decide +kernel
theorem dX2_winsAgainst_16 : decode cX2_winsAgainst 16 = .ok (.aload_n 0, 1) := by decide +kernel
theorem dX2_winsAgainst_17 : decode cX2_winsAgainst 17 = .ok (.getfield 38, 3) := by decide +kernel
theorem dX2_winsAgainst_20 : decode cX2_winsAgainst 20 = .ok (.iconst 1, 1) := by decide +kernel
theorem dX2_winsAgainst_21 : decode cX2_winsAgainst 21 = .ok (.if_icmp .eq 18, 3) := by decide +kernel
theorem dX2_winsAgainst_24 : decode cX2_winsAgainst 24 = .ok (.aload_n 1, 1) := by decide +kernel
theorem dX2_winsAgainst_25 : decode cX2_winsAgainst 25 = .ok (.getfield 199, 3) := by decide +kernel
theorem dX2_winsAgainst_28 : decode cX2_winsAgainst 28 = .ok (.aload_n 2, 1) := by decide +kernel
theorem dX2_winsAgainst_29 : decode cX2_winsAgainst 29 = .ok (.getfield 199, 3) := by decide +kernel
theorem dX2_winsAgainst_32 : decode cX2_winsAgainst 32 = .ok (.if_icmp .ge 7, 3) := by decide +kernel
theorem dX2_winsAgainst_35 : decode cX2_winsAgainst 35 = .ok (.iconst 1, 1) := by decide +kernel
theorem dX2_winsAgainst_36 : decode cX2_winsAgainst 36 = .ok (.goto 4, 3) := by decide +kernel
theorem dX2_winsAgainst_39 : decode cX2_winsAgainst 39 = .ok (.iconst 0, 1) := by decide +kernel
theorem dX2_winsAgainst_40 : decode cX2_winsAgainst 40 = .ok (.ireturn, 1) := by decide +kernel
theorem dX2_writeFromOutside_0 : decode cX2_writeFromOutside 0 = .ok (.aload_n 0, 1) := by decide +kernel
theorem dX2_writeFromOutside_1 : decode cX2_writeFromOutside 1 = .ok (.invokevirtual 116, 3) := by decide +kernel
theorem dX2_writeFromOutside_4 : decode cX2_writeFromOutside 4 = .ok (.istore_n 3, 1) := by decide +kernel
theorem dX2_writeFromOutside_5 : decode cX2_writeFromOutside 5 = .ok (.iconst 0, 1) := by decide +kernel
theorem dX2_writeFromOutside_6 : decode cX2_writeFromOutside 6 = .ok (.istore 4, 2) := by decide +kernel
theorem dX2_writeFromOutside_8 : decode cX2_writeFromOutside 8 = .ok (.iload 4, 2) := by decide +kernel
theorem dX2_writeFromOutside_10 : decode cX2_writeFromOutside 10 = .ok (.aload_n 0, 1) := by decide +kernel
theorem dX2_writeFromOutside_11 : decode cX2_writeFromOutside 11 = .ok (.getfield 34, 3) := by decide +kernel
theorem dX2_writeFromOutside_14 : decode cX2_writeFromOutside 14 = .ok (.if_icmp .ge 57, 3) := by decide +kernel
theorem dX2_writeFromOutside_17 : decode cX2_writeFromOutside 17 = .ok (.aload_n 0, 1) := by decide +kernel
theorem dX2_writeFromOutside_18 : decode cX2_writeFromOutside 18 = .ok (.getfield 11, 3) := by decide +kernel
theorem dX2_writeFromOutside_21 : decode cX2_writeFromOutside 21 = .ok (.iload 4, 2) := by decide +kernel
theorem dX2_writeFromOutside_23 : decode cX2_writeFromOutside 23 = .ok (.aaload, 1) := by decide +kernel
theorem dX2_writeFromOutside_24 : decode cX2_writeFromOutside 24 = .ok (.iload_n 1, 1) := by decide +kernel
theorem dX2_writeFromOutside_25 : decode cX2_writeFromOutside 25 = .ok (.iconst 1, 1) := by decide +kernel
theorem dX2_writeFromOutside_26 : decode cX2_writeFromOutside 26 = .ok (.invokevirtual 191, 3) := by decide +kernel
theorem dX2_writeFromOutside_29 : decode cX2_writeFromOutside 29 = .ok (.ifCond .eq 23, 3) := by decide +kernel
theorem dX2_writeFromOutside_32 : decode cX2_writeFromOutside 32 = .ok (.aload_n 0, 1) := by decide +kernel
theorem dX2_writeFromOutside_33 : decode cX2_writeFromOutside 33 = .ok (.getfield 11, 3) := by decide +kernel
theorem dX2_writeFromOutside_36 : decode cX2_writeFromOutside 36 = .ok (.iload 4, 2) := by decide +kernel
theorem dX2_writeFromOutside_38 : decode cX2_writeFromOutside 38 = .ok (.aaload, 1) := by decide +kernel
theorem dX2_writeFromOutside_39 : decode cX2_writeFromOutside 39 = .ok (.invokevirtual 177, 3) := by decide +kernel
theorem dX2_writeFromOutside_42 : decode cX2_writeFromOutside 42 = .ok (.aload_n 0, 1) := by decide +kernel
theorem dX2_writeFromOutside_43 : decode cX2_writeFromOutside 43 = .ok (.getfield 22, 3) := by decide +kernel
theorem dX2_writeFromOutside_46 : decode cX2_writeFromOutside 46 = .ok (.iconst 5, 1) := by decide +kernel
theorem dX2_writeFromOutside_47 : decode cX2_writeFromOutside 47 = .ok (.dup2, 1) := by decide +kernel
theorem dX2_writeFromOutside_48 : decode cX2_writeFromOutside 48 = .ok (.iaload, 1) := by decide +kernel
theorem dX2_writeFromOutside_49 : decode cX2_writeFromOutside 49 = .ok (.iconst 1, 1) := by decide +kernel
theorem dX2_writeFromOutside_50 : decode cX2_writeFromOutside 50 = .ok (.iadd, 1) := by decide +kernel
theorem dX2_writeFromOutside_51 : decode cX2_writeFromOutside 51 = .ok (.iastore, 1) := by decide +kernel
theorem dX2_writeFromOutside_52 : decode cX2_writeFromOutside 52 = .ok (.aload_n 0, 1) := by decide +kernel
theorem dX2_writeFromOutside_53 : decode cX2_writeFromOutside 53 = .ok (.getfield 11, 3) := by decide +kernel
theorem dX2_writeFromOutside_56 : decode cX2_writeFromOutside 56 = .ok (.iload 4, 2) := by decide +kernel
theorem dX2_writeFromOutside_58 : decode cX2_writeFromOutside 58 = .ok (.aaload, 1) := by decide +kernel
theorem dX2_writeFromOutside_59 : decode cX2_writeFromOutside 59 = .ok (.getfield 77, 3) := by decide +kernel
theorem dX2_writeFromOutside_62 : decode cX2_writeFromOutside 62 = .ok (.iload_n 1, 1) := by decide +kernel
theorem dX2_writeFromOutside_63 : decode cX2_writeFromOutside 63 = .ok (.iconst 0, 1) := by decide +kernel
theorem dX2_writeFromOutside_64 : decode cX2_writeFromOutside 64 = .ok (.iastore, 1) := by decide +kernel
theorem dX2_writeFromOutside_65 : decode cX2_writeFromOutside 65 = .ok (.iinc 4 1, 3) := by decide +kernel
theorem dX2_writeFromOutside_68 : decode cX2_writeFromOutside 68 = .ok (.goto (-60), 3) := by decide +kernel
theorem dX2_writeFromOutside_71 : decode cX2_writeFromOutside 71 = .ok (.aload_n 0, 1) := by decide +kernel
theorem dX2_writeFromOutside_72 : decode cX2_writeFromOutside 72 = .ok (.getfield 18, 3) := by decide +kernel
theorem dX2_writeFromOutside_75 : decode cX2_writeFromOutside 75 = .ok (.iload_n 1, 1) := by decide +kernel
theorem dX2_writeFromOutside_76 : decode cX2_writeFromOutside 76 = .ok (.iload_n 2, 1) := by decide +kernel
theorem dX2_writeFromOutside_77 : decode cX2_writeFromOutside 77 = .ok (.iastore, 1) := by decide +kernel
theorem dX2_writeFromOutside_78 : decode cX2_writeFromOutside 78 = .ok (.aload_n 0, 1) := by decide +kernel
theorem dX2_writeFromOutside_79 : decode cX2_writeFromOutside 79 = .ok (.getfield 30, 3) := by decide +kernel
theorem dX2_writeFromOutside_82 : decode cX2_writeFromOutside 82 = .ok (.iconst (-1), 1) := by decide +kernel
theorem dX2_writeFromOutside_83 : decode cX2_writeFromOutside 83 = .ok (.iload_n 1, 1) := by decide +kernel
theorem dX2_writeFromOutside_84 : decode cX2_writeFromOutside 84 = .ok (.aload_n 0, 1) := by decide +kernel
theorem dX2_writeFromOutside_85 : decode cX2_writeFromOutside 85 = .ok (.getfield 18, 3) := by decide +kernel
theorem dX2_writeFromOutside_88 : decode cX2_writeFromOutside 88 = .ok (.invokevirtual 187, 3) := by decide +kernel
theorem dX2_writeFromOutside_91 : decode cX2_writeFromOutside 91 = .ok (.aload_n 0, 1) := by decide +kernel
theorem dX2_writeFromOutside_92 : decode cX2_writeFromOutside 92 = .ok (.invokevirtual 116, 3) := by decide +kernel
theorem dX2_writeFromOutside_95 : decode cX2_writeFromOutside 95 = .ok (.iload_n 3, 1) := by decide +kernel
theorem dX2_writeFromOutside_96 : decode cX2_writeFromOutside 96 = .ok (.isub, 1) := by decide +kernel
theorem dX2_writeFromOutside_97 : decode cX2_writeFromOutside 97 = .ok (.ireturn, 1) := by decide +kernel
theorem dX3_init_0 : decode cX3_init 0 = .ok (.aload_n 0, 1) := by decide +kernel
theorem dX3_init_1 : decode cX3_init 1 = .ok (.invokespecial 3, 3) := by decide +kernel
theorem dX3_init_4 : decode cX3_init 4 = .ok (.aload_n 0, 1) := by decide +kernel
theorem dX3_init_5 : decode cX3_init 5 = .ok (.bipush 30, 2) := by decide +kernel
theorem dX3_init_7 : decode cX3_init 7 = .ok (.newarray .int, 2) := by decide +kernel
theorem dX3_init_9 : decode cX3_init 9 = .ok (.putfield 9, 3) := by decide +kernel
theorem dX3_init_12 : decode cX3_init 12 = .ok (.aload_n 0, 1) := by decide +kernel
theorem dX3_init_13 : decode cX3_init 13 = .ok (.bipush 30, 2) := by decide +kernel
theorem dX3_init_15 : decode cX3_init 15 = .ok (.newarray .int, 2) := by decide +kernel
theorem dX3_init_17 : decode cX3_init 17 = .ok (.putfield 15, 3) := by decide +kernel
theorem dX3_init_20 : decode cX3_init 20 = .ok (.aload_n 0, 1) := by decide +kernel
theorem dX3_init_21 : decode cX3_init 21 = .ok (.iconst 0, 1) := by decide +kernel
theorem dX3_init_22 : decode cX3_init 22 = .ok (.putfield 18, 3) := by decide +kernel
theorem dX3_init_25 : decode cX3_init 25 = .ok (.return_, 1) := by decide +kernel
theorem dX3_isFull_0 : decode cX3_isFull 0 = .ok (.aload_n 0, 1) := by decide +kernel
theorem dX3_isFull_1 : decode cX3_isFull 1 = .ok (.getfield 18, 3) := by decide +kernel
theorem dX3_isFull_4 : decode cX3_isFull 4 = .ok (.bipush 30, 2) := by decide +kernel
theorem dX3_isFull_6 : decode cX3_isFull 6 = .ok (.if_icmp .lt 7, 3) := by decide +kernel
theorem dX3_isFull_9 : decode cX3_isFull 9 = .ok (.iconst 1, 1) := by decide +kernel
theorem dX3_isFull_10 : decode cX3_isFull 10 = .ok (.goto 4, 3) := by decide +kernel
theorem dX3_isFull_13 : decode cX3_isFull 13 = .ok (.iconst 0, 1) := by decide +kernel
theorem dX3_isFull_14 : decode cX3_isFull 14 = .ok (.ireturn, 1) := by decide +kernel
theorem dX3_addInstruction_0 : decode cX3_addInstruction 0 = .ok (.aload_n 0, 1) := by decide +kernel
theorem dX3_addInstruction_1 : decode cX3_addInstruction 1 = .ok (.getfield 18, 3) := by decide +kernel
theorem dX3_addInstruction_4 : decode cX3_addInstruction 4 = .ok (.ifCond .lt 10, 3) := by decide +kernel
theorem dX3_addInstruction_7 : decode cX3_addInstruction 7 = .ok (.aload_n 0, 1) := by decide +kernel
theorem dX3_addInstruction_8 : decode cX3_addInstruction 8 = .ok (.invokevirtual 22, 3) := by decide +kernel
theorem dX3_addInstruction_11 : decode cX3_addInstruction 11 = .ok (.ifCond .eq 4, 3) := by decide +kernel
theorem dX3_addInstruction_14 : decode cX3_addInstruction 14 = .ok (.return_, 1) := by decide +kernel
theorem dX3_addInstruction_15 : decode cX3_addInstruction 15 = .ok (.aload_n 0, 1) := by decide +kernel
theorem dX3_addInstruction_16 : decode cX3_addInstruction 16 = .ok (.getfield 9, 3) := by decide +kernel
theorem dX3_addInstruction_19 : decode cX3_addInstruction 19 = .ok (.aload_n 0, 1) := by decide +kernel
theorem dX3_addInstruction_20 : decode cX3_addInstruction 20 = .ok (.getfield 18, 3) := by decide +kernel
theorem dX3_addInstruction_23 : decode cX3_addInstruction 23 = .ok (.iload_n 1, 1) := by decide +kernel
theorem dX3_addInstruction_24 : decode cX3_addInstruction 24 = .ok (.iastore, 1) := by decide +kernel
theorem dX3_addInstruction_25 : decode cX3_addInstruction 25 = .ok (.aload_n 0, 1) := by decide +kernel
theorem dX3_addInstruction_26 : decode cX3_addInstruction 26 = .ok (.getfield 15, 3) := by decide +kernel
theorem dX3_addInstruction_29 : decode cX3_addInstruction 29 = .ok (.aload_n 0, 1) := by decide +kernel
theorem dX3_addInstruction_30 : decode cX3_addInstruction 30 = .ok (.getfield 18, 3) := by decide +kernel
theorem dX3_addInstruction_33 : decode cX3_addInstruction 33 = .ok (.iload_n 2, 1) := by decide +kernel
theorem dX3_addInstruction_34 : decode cX3_addInstruction 34 = .ok (.iastore, 1) := by decide +kernel
theorem dX3_addInstruction_35 : decode cX3_addInstruction 35 = .ok (.aload_n 0, 1) := by decide +kernel
theorem dX3_addInstruction_36 : decode cX3_addInstruction 36 = .ok (.dup, 1) := by decide +kernel
theorem dX3_addInstruction_37 : decode cX3_addInstruction 37 = .ok (.getfield 18, 3) := by decide +kernel
theorem dX3_addInstruction_40 : decode cX3_addInstruction 40 = .ok (.iconst 1, 1) := by decide +kernel
theorem dX3_addInstruction_41 : decode cX3_addInstruction 41 = .ok (.iadd, 1) := by decide +kernel
theorem dX3_addInstruction_42 : decode cX3_addInstruction 42 = .ok (.putfield 18, 3) := by decide +kernel
theorem dX3_addInstruction_45 : decode cX3_addInstruction 45 = .ok (.return_, 1) := by decide +kernel
theorem dX3_copyFrom_0 : decode cX3_copyFrom 0 = .ok (.aload_n 1, 1) := by decide +kernel
theorem dX3_copyFrom_1 : decode cX3_copyFrom 1 = .ok (.getfield 9, 3) := by decide +kernel
theorem dX3_copyFrom_4 : decode cX3_copyFrom 4 = .ok (.iconst 0, 1) := by decide +kernel
theorem dX3_copyFrom_5 : decode cX3_copyFrom 5 = .ok (.aload_n 0, 1) := by decide +kernel
theorem dX3_copyFrom_6 : decode cX3_copyFrom 6 = .ok (.getfield 9, 3) := by decide +kernel
theorem dX3_copyFrom_9 : decode cX3_copyFrom 9 = .ok (.iconst 0, 1) := by decide +kernel
theorem dX3_copyFrom_10 : decode cX3_copyFrom 10 = .ok (.bipush 30, 2) := by decide +kernel
theorem dX3_copyFrom_12 : decode cX3_copyFrom 12 = .ok (.invokestatic 26, 3) := by decide +kernel
theorem dX3_copyFrom_15 : decode cX3_copyFrom 15 = .ok (.aload_n 1, 1) := by decide +kernel
theorem dX3_copyFrom_16 : decode cX3_copyFrom 16 = .ok (.getfield 15, 3) := by decide +kernel
theorem dX3_copyFrom_19 : decode cX3_copyFrom 19 = .ok (.iconst 0, 1) := by decide +kernel
theorem dX3_copyFrom_20 : decode cX3_copyFrom 20 = .ok (.aload_n 0, 1) := by decide +kernel
theorem dX3_copyFrom_21 : decode cX3_copyFrom 21 = .ok (.getfield 15, 3) := by decide +kernel
theorem dX3_copyFrom_24 : decode cX3_copyFrom 24 = .ok (.iconst 0, 1) := by decide +kernel
theorem dX3_copyFrom_25 : decode cX3_copyFrom 25 = .ok (.bipush 30, 2) := by decide +kernel
theorem dX3_copyFrom_27 : decode cX3_copyFrom 27 = .ok (.invokestatic 26, 3) := by decide +kernel
theorem dX3_copyFrom_30 : decode cX3_copyFrom 30 = .ok (.aload_n 0, 1) := by decide +kernel
theorem dX3_copyFrom_31 : decode cX3_copyFrom 31 = .ok (.aload_n 1, 1) := by decide +kernel
theorem dX3_copyFrom_32 : decode cX3_copyFrom 32 = .ok (.getfield 18, 3) := by decide +kernel
theorem dX3_copyFrom_35 : decode cX3_copyFrom 35 = .ok (.putfield 18, 3) := by decide +kernel
theorem dX3_copyFrom_38 : decode cX3_copyFrom 38 = .ok (.return_, 1) := by decide +kernel
theorem dX4_init_0 : decode cX4_init 0 = .ok (.aload_n 0, 1) := by decide +kernel
theorem dX4_init_1 : decode cX4_init 1 = .ok (.invokespecial 3, 3) := by decide +kernel
theorem dX4_init_4 : decode cX4_init 4 = .ok (.aload_n 0, 1) := by decide +kernel
theorem dX4_init_5 : decode cX4_init 5 = .ok (.new 9, 3) := by decide +kernel
theorem dX4_init_8 : decode cX4_init 8 = .ok (.dup, 1) := by decide +kernel
theorem dX4_init_9 : decode cX4_init 9 = .ok (.invokespecial 11, 3) := by decide +kernel
theorem dX4_init_12 : decode cX4_init 12 = .ok (.putfield 12, 3) := by decide +kernel
theorem dX4_init_15 : decode cX4_init 15 = .ok (.aload_n 0, 1) := by decide +kernel
theorem dX4_init_16 : decode cX4_init 16 = .ok (.iconst 0, 1) := by decide +kernel
theorem dX4_init_17 : decode cX4_init 17 = .ok (.putfield 18, 3) := by decide +kernel
theorem dX4_init_20 : decode cX4_init 20 = .ok (.aload_n 0, 1) := by decide +kernel
theorem dX4_init_21 : decode cX4_init 21 = .ok (.iconst 0, 1) := by decide +kernel
theorem dX4_init_22 : decode cX4_init 22 = .ok (.putfield 22, 3) := by decide +kernel
theorem dX4_init_25 : decode cX4_init 25 = .ok (.aload_n 0, 1) := by decide +kernel
theorem dX4_init_26 : decode cX4_init 26 = .ok (.iconst 0, 1) := by decide +kernel
theorem dX4_init_27 : decode cX4_init 27 = .ok (.putfield 25, 3) := by decide +kernel
theorem dX4_init_30 : decode cX4_init 30 = .ok (.aload_n 0, 1) := by decide +kernel
theorem dX4_init_31 : decode cX4_init 31 = .ok (.iconst 0, 1) := by decide +kernel
theorem dX4_init_32 : decode cX4_init 32 = .ok (.putfield 28, 3) := by decide +kernel
theorem dX4_init_35 : decode cX4_init 35 = .ok (.aload_n 0, 1) := by decide +kernel
theorem dX4_init_36 : decode cX4_init 36 = .ok (.iconst 0, 1) := by decide +kernel
theorem dX4_init_37 : decode cX4_init 37 = .ok (.putfield 31, 3) := by decide +kernel
theorem dX4_init_40 : decode cX4_init 40 = .ok (.return_, 1) := by decide +kernel
theorem dX4_readText_0 : decode cX4_readText 0 = .ok (.aload_n 0, 1) := by decide +kernel
theorem dX4_readText_1 : decode cX4_readText 1 = .ok (.getfield 12, 3) := by decide +kernel
theorem dX4_readText_4 : decode cX4_readText 4 = .ok (.iconst 0, 1) := by decide +kernel
theorem dX4_readText_5 : decode cX4_readText 5 = .ok (.putfield 35, 3) := by decide +kernel
theorem dX4_readText_8 : decode cX4_readText 8 = .ok (.aload_n 0, 1) := by decide +kernel
theorem dX4_readText_9 : decode cX4_readText 9 = .ok (.iconst 0, 1) := by decide +kernel
theorem dX4_readText_10 : decode cX4_readText 10 = .ok (.putfield 18, 3) := by decide +kernel
theorem dX4_readText_13 : decode cX4_readText 13 = .ok (.iconst 0, 1) := by decide +kernel
theorem dX4_readText_14 : decode cX4_readText 14 = .ok (.istore_n 3, 1) := by decide +kernel
theorem dX4_readText_15 : decode cX4_readText 15 = .ok (.iload_n 3, 1) := by decide +kernel
theorem dX4_readText_16 : decode cX4_readText 16 = .ok (.iload_n 2, 1) := by decide +kernel
theorem dX4_readText_17 : decode cX4_readText 17 = .ok (.if_icmp .ge 27, 3) := by decide +kernel
theorem dX4_readText_20 : decode cX4_readText 20 = .ok (.iload_n 3, 1) := by decide +kernel
theorem dX4_readText_21 : decode cX4_readText 21 = .ok (.aload_n 1, 1) := by decide +kernel
theorem dX4_readText_22 : decode cX4_readText 22 = .ok (.arraylength, 1) := by decide +kernel
theorem dX4_readText_23 : decode cX4_readText 23 = .ok (.if_icmp .ge 21, 3) := by decide +kernel
theorem dX4_readText_26 : decode cX4_readText 26 = .ok (.aload_n 0, 1) := by decide +kernel
theorem dX4_readText_27 : decode cX4_readText 27 = .ok (.aload_n 1, 1) := by decide +kernel
theorem dX4_readText_28 : decode cX4_readText 28 = .ok (.iload_n 3, 1) := by decide +kernel
theorem dX4_readText_29 : decode cX4_readText 29 = .ok (.iaload, 1) := by decide +kernel
theorem dX4_readText_30 : decode cX4_readText 30 = .ok (.invokevirtual 38, 3) := by decide +kernel
theorem dX4_readText_33 : decode cX4_readText 33 = .ok (.ifCond .ne 5, 3) := by decide +kernel
theorem dX4_readText_36 : decode cX4_readText 36 = .ok (.iload_n 3, 1) := by decide +kernel
theorem dX4_readText_37 : decode cX4_readText 37 = .ok (.ireturn, 1) := by decide +kernel
theorem dX4_readText_38 : decode cX4_readText 38 = .ok (.iinc 3 1, 3) := by decide +kernel
theorem dX4_readText_41 : decode cX4_readText 41 = .ok (.goto (-26), 3) := by decide +kernel
theorem dX4_readText_44 : decode cX4_readText 44 = .ok (.aload_n 0, 1) := by decide +kernel
theorem dX4_readText_45 : decode cX4_readText 45 = .ok (.getfield 18, 3) := by decide +kernel
theorem dX4_readText_48 : decode cX4_readText 48 = .ok (.ifCond .ne 7, 3) := by decide +kernel
theorem dX4_readText_51 : decode cX4_readText 51 = .ok (.iconst (-1), 1) := by decide +kernel
theorem dX4_readText_52 : decode cX4_readText 52 = .ok (.goto 4, 3) := by decide +kernel
theorem dX4_readText_55 : decode cX4_readText 55 = .ok (.iload_n 2, 1) := by decide +kernel
theorem dX4_readText_56 : decode cX4_readText 56 = .ok (.ireturn, 1) := by decide +kernel
theorem dX4_accepts_0 : decode cX4_accepts 0 = .ok (.aload_n 0, 1) := by decide +kernel
theorem dX4_accepts_1 : decode cX4_accepts 1 = .ok (.getfield 18, 3) := by decide +kernel
theorem dX4_accepts_4 : decode cX4_accepts 4 = .ok (.tableswitch 98 0 4 #[36, 42, 48, 70, 76], 36) := by decide +kernel
theorem dX4_accepts_40 : decode cX4_accepts 40 = .ok (.aload_n 0, 1) := by decide +kernel
theorem dX4_accepts_41 : decode cX4_accepts 41 = .ok (.iload_n 1, 1) := by decide +kernel
theorem dX4_accepts_42 : decode cX4_accepts 42 = .ok (.invokevirtual 42, 3) := by decide +kernel
theorem dX4_accepts_45 : decode cX4_accepts 45 = .ok (.ireturn, 1) := by decide +kernel
theorem dX4_accepts_46 : decode cX4_accepts 46 = .ok (.aload_n 0, 1) := by decide +kernel
theorem dX4_accepts_47 : decode cX4_accepts 47 = .ok (.iload_n 1, 1) := by decide +kernel
theorem dX4_accepts_48 : decode cX4_accepts 48 = .ok (.invokevirtual 45, 3) := by decide +kernel
theorem dX4_accepts_51 : decode cX4_accepts 51 = .ok (.ireturn, 1) := by decide +kernel
theorem dX4_accepts_52 : decode cX4_accepts 52 = .ok (.aload_n 0, 1) := by decide +kernel
theorem dX4_accepts_53 : decode cX4_accepts 53 = .ok (.iload_n 1, 1) := by decide +kernel
theorem dX4_accepts_54 : decode cX4_accepts 54 = .ok (.invokevirtual 48, 3) := by decide +kernel
theorem dX4_accepts_57 : decode cX4_accepts 57 = .ok (.ifCond .ne 11, 3) := by decide +kernel
theorem dX4_accepts_60 : decode cX4_accepts 60 = .ok (.aload_n 0, 1) := by decide +kernel
theorem dX4_accepts_61 : decode cX4_accepts 61 = .ok (.iload_n 1, 1) := by decide +kernel
theorem dX4_accepts_62 : decode cX4_accepts 62 = .ok (.invokevirtual 51, 3) := by decide +kernel
theorem dX4_accepts_65 : decode cX4_accepts 65 = .ok (.ifCond .eq 7, 3) := by decide +kernel
theorem dX4_accepts_68 : decode cX4_accepts 68 = .ok (.iconst 1, 1) := by decide +kernel
theorem dX4_accepts_69 : decode cX4_accepts 69 = .ok (.goto 4, 3) := by decide +kernel
theorem dX4_accepts_72 : decode cX4_accepts 72 = .ok (.iconst 0, 1) := by decide +kernel
theorem dX4_accepts_73 : decode cX4_accepts 73 = .ok (.ireturn, 1) := by decide +kernel
theorem dX4_accepts_74 : decode cX4_accepts 74 = .ok (.aload_n 0, 1) := by decide +kernel
theorem dX4_accepts_75 : decode cX4_accepts 75 = .ok (.iload_n 1, 1) := by decide +kernel
theorem dX4_accepts_76 : decode cX4_accepts 76 = .ok (.invokevirtual 51, 3) := by decide +kernel
theorem dX4_accepts_79 : decode cX4_accepts 79 = .ok (.ireturn, 1) := by decide +kernel
theorem dX4_accepts_80 : decode cX4_accepts 80 = .ok (.aload_n 0, 1) := by decide +kernel
theorem dX4_accepts_81 : decode cX4_accepts 81 = .ok (.iload_n 1, 1) := by decide +kernel
theorem dX4_accepts_82 : decode cX4_accepts 82 = .ok (.invokevirtual 51, 3) := by decide +kernel
theorem dX4_accepts_85 : decode cX4_accepts 85 = .ok (.ifCond .ne 11, 3) := by decide +kernel
theorem dX4_accepts_88 : decode cX4_accepts 88 = .ok (.aload_n 0, 1) := by decide +kernel
theorem dX4_accepts_89 : decode cX4_accepts 89 = .ok (.iload_n 1, 1) := by decide +kernel
theorem dX4_accepts_90 : decode cX4_accepts 90 = .ok (.invokevirtual 54, 3) := by decide +kernel
theorem dX4_accepts_93 : decode cX4_accepts 93 = .ok (.ifCond .eq 7, 3) := by decide +kernel
theorem dX4_accepts_96 : decode cX4_accepts 96 = .ok (.iconst 1, 1) := by decide +kernel
theorem dX4_accepts_97 : decode cX4_accepts 97 = .ok (.goto 4, 3) := by decide +kernel
theorem dX4_accepts_100 : decode cX4_accepts 100 = .ok (.iconst 0, 1) := by decide +kernel
theorem dX4_accepts_101 : decode cX4_accepts 101 = .ok (.ireturn, 1) := by decide +kernel
theorem dX4_accepts_102 : decode cX4_accepts 102 = .ok (.aload_n 0, 1) := by decide +kernel
theorem dX4_accepts_103 : decode cX4_accepts 103 = .ok (.iload_n 1, 1) := by decide +kernel
theorem dX4_accepts_104 : decode cX4_accepts 104 = .ok (.invokevirtual 54, 3) := by decide +kernel
theorem dX4_accepts_107 : decode cX4_accepts 107 = .ok (.ireturn, 1) := by decide +kernel
theorem dX4_acceptsInstruction_0 : decode cX4_acceptsInstruction 0 = .ok (.aload_n 0, 1) := by decide +kernel
theorem dX4_acceptsInstruction_1 : decode cX4_acceptsInstruction 1 = .ok (.getfield 12, 3) := by decide +kernel
theorem dX4_acceptsInstruction_4 : decode cX4_acceptsInstruction 4 = .ok (.invokevirtual 57, 3) := by decide +kernel
theorem dX4_acceptsInstruction_7 : decode cX4_acceptsInstruction 7 = .ok (.ifCond .eq 5, 3) := by decide +kernel
theorem dX4_acceptsInstruction_10 : decode cX4_acceptsInstruction 10 = .ok (.iconst 0, 1) := by decide +kernel
theorem dX4_acceptsInstruction_11 : decode cX4_acceptsInstruction 11 = .ok (.ireturn, 1) := by decide +kernel
theorem dX4_acceptsInstruction_12 : decode cX4_acceptsInstruction 12 = .ok (.aload_n 0, 1) := by decide +kernel
theorem dX4_acceptsInstruction_13 : decode cX4_acceptsInstruction 13 = .ok (.iconst 0, 1) := by decide +kernel
theorem dX4_acceptsInstruction_14 : decode cX4_acceptsInstruction 14 = .ok (.putfield 25, 3) := by decide +kernel
theorem dX4_acceptsInstruction_17 : decode cX4_acceptsInstruction 17 = .ok (.aload_n 0, 1) := by decide +kernel
theorem dX4_acceptsInstruction_18 : decode cX4_acceptsInstruction 18 = .ok (.iconst 0, 1) := by decide +kernel
theorem dX4_acceptsInstruction_19 : decode cX4_acceptsInstruction 19 = .ok (.putfield 28, 3) := by decide +kernel
theorem dX4_acceptsInstruction_22 : decode cX4_acceptsInstruction 22 = .ok (.aload_n 0, 1) := by decide +kernel
theorem dX4_acceptsInstruction_23 : decode cX4_acceptsInstruction 23 = .ok (.iconst 0, 1) := by decide +kernel
theorem dX4_acceptsInstruction_24 : decode cX4_acceptsInstruction 24 = .ok (.putfield 31, 3) := by decide +kernel
theorem dX4_acceptsInstruction_27 : decode cX4_acceptsInstruction 27 = .ok (.iload_n 1, 1) := by decide +kernel
theorem dX4_acceptsInstruction_28 : decode cX4_acceptsInstruction 28 = .ok (.lookupswitch 87 #[(97, 80), (98, 52), (99, 59), (114, 66), (119, 73)], 52) := by decide +kernel
theorem dX4_acceptsInstruction_80 : decode cX4_acceptsInstruction 80 = .ok (.aload_n 0, 1) := by decide +kernel
theorem dX4_acceptsInstruction_81 : decode cX4_acceptsInstruction 81 = .ok (.iconst 0, 1) := by decide +kernel
theorem dX4_acceptsInstruction_82 : decode cX4_acceptsInstruction 82 = .ok (.iconst 5, 1) := by decide +kernel
theorem dX4_acceptsInstruction_83 : decode cX4_acceptsInstruction 83 = .ok (.invokevirtual 61, 3) := by decide +kernel
theorem dX4_acceptsInstruction_86 : decode cX4_acceptsInstruction 86 = .ok (.ireturn, 1) := by decide +kernel
theorem dX4_acceptsInstruction_87 : decode cX4_acceptsInstruction 87 = .ok (.aload_n 0, 1) := by decide +kernel
theorem dX4_acceptsInstruction_88 : decode cX4_acceptsInstruction 88 = .ok (.iconst 1, 1) := by decide +kernel
theorem dX4_acceptsInstruction_89 : decode cX4_acceptsInstruction 89 = .ok (.iconst 5, 1) := by decide +kernel
theorem dX4_acceptsInstruction_90 : decode cX4_acceptsInstruction 90 = .ok (.invokevirtual 61, 3) := by decide +kernel
theorem dX4_acceptsInstruction_93 : decode cX4_acceptsInstruction 93 = .ok (.ireturn, 1) := by decide +kernel
theorem dX4_acceptsInstruction_94 : decode cX4_acceptsInstruction 94 = .ok (.aload_n 0, 1) := by decide +kernel
theorem dX4_acceptsInstruction_95 : decode cX4_acceptsInstruction 95 = .ok (.iconst 2, 1) := by decide +kernel
theorem dX4_acceptsInstruction_96 : decode cX4_acceptsInstruction 96 = .ok (.iconst 1, 1) := by decide +kernel
theorem dX4_acceptsInstruction_97 : decode cX4_acceptsInstruction 97 = .ok (.invokevirtual 61, 3) := by decide +kernel
theorem dX4_acceptsInstruction_100 : decode cX4_acceptsInstruction 100 = .ok (.ireturn, 1) := by decide +kernel
theorem dX4_acceptsInstruction_101 : decode cX4_acceptsInstruction 101 = .ok (.aload_n 0, 1) := by decide +kernel
theorem dX4_acceptsInstruction_102 : decode cX4_acceptsInstruction 102 = .ok (.iconst 3, 1) := by decide +kernel
theorem dX4_acceptsInstruction_103 : decode cX4_acceptsInstruction 103 = .ok (.iconst 1, 1) := by decide +kernel
theorem dX4_acceptsInstruction_104 : decode cX4_acceptsInstruction 104 = .ok (.invokevirtual 61, 3) := by decide +kernel
theorem dX4_acceptsInstruction_107 : decode cX4_acceptsInstruction 107 = .ok (.ireturn, 1) := by decide +kernel
theorem dX4_acceptsInstruction_108 : decode cX4_acceptsInstruction 108 = .ok (.aload_n 0, 1) := by decide +kernel
theorem dX4_acceptsInstruction_109 : decode cX4_acceptsInstruction 109 = .ok (.iconst 4, 1) := by decide +kernel
theorem dX4_acceptsInstruction_110 : decode cX4_acceptsInstruction 110 = .ok (.iconst 2, 1) := by decide +kernel
theorem dX4_acceptsInstruction_111 : decode cX4_acceptsInstruction 111 = .ok (.invokevirtual 61, 3) := by decide +kernel
theorem dX4_acceptsInstruction_114 : decode cX4_acceptsInstruction 114 = .ok (.ireturn, 1) := by decide +kernel
theorem dX4_acceptsInstruction_115 : decode cX4_acceptsInstruction 115 = .ok (.iconst 0, 1) := by decide +kernel
theorem dX4_acceptsInstruction_116 : decode cX4_acceptsInstruction 116 = .ok (.ireturn, 1) := by decide +kernel
theorem dX4_expect_0 : decode cX4_expect 0 = .ok (.aload_n 0, 1) := by decide +kernel
theorem dX4_expect_1 : decode cX4_expect 1 = .ok (.iload_n 1, 1) := by decide +kernel
theorem dX4_expect_2 : decode cX4_expect 2 = .ok (.putfield 22, 3) := by decide +kernel
theorem dX4_expect_5 : decode cX4_expect 5 = .ok (.aload_n 0, 1) := by decide +kernel
theorem dX4_expect_6 : decode cX4_expect 6 = .ok (.iload_n 2, 1) := by decide +kernel
theorem dX4_expect_7 : decode cX4_expect 7 = .ok (.putfield 18, 3) := by decide +kernel
theorem dX4_expect_10 : decode cX4_expect 10 = .ok (.iconst 1, 1) := by decide +kernel
theorem dX4_expect_11 : decode cX4_expect 11 = .ok (.ireturn, 1) := by decide +kernel
theorem dX4_acceptsLine_0 : decode cX4_acceptsLine 0 = .ok (.iload_n 1, 1) := by decide +kernel
theorem dX4_acceptsLine_1 : decode cX4_acceptsLine 1 = .ok (.bipush 48, 2) := by decide +kernel
theorem dX4_acceptsLine_3 : decode cX4_acceptsLine 3 = .ok (.isub, 1) := by decide +kernel
theorem dX4_acceptsLine_4 : decode cX4_acceptsLine 4 = .ok (.invokestatic 65, 3) := by decide +kernel
theorem dX4_acceptsLine_7 : decode cX4_acceptsLine 7 = .ok (.ifCond .ne 5, 3) := by decide +kernel
theorem dX4_acceptsLine_10 : decode cX4_acceptsLine 10 = .ok (.iconst 0, 1) := by decide +kernel
theorem dX4_acceptsLine_11 : decode cX4_acceptsLine 11 = .ok (.ireturn, 1) := by decide +kernel
theorem dX4_acceptsLine_12 : decode cX4_acceptsLine 12 = .ok (.aload_n 0, 1) := by decide +kernel
theorem dX4_acceptsLine_13 : decode cX4_acceptsLine 13 = .ok (.iload_n 1, 1) := by decide +kernel
theorem dX4_acceptsLine_14 : decode cX4_acceptsLine 14 = .ok (.bipush 48, 2) := by decide +kernel
theorem dX4_acceptsLine_16 : decode cX4_acceptsLine 16 = .ok (.isub, 1) := by decide +kernel
theorem dX4_acceptsLine_17 : decode cX4_acceptsLine 17 = .ok (.putfield 25, 3) := by decide +kernel
theorem dX4_acceptsLine_20 : decode cX4_acceptsLine 20 = .ok (.aload_n 0, 1) := by decide +kernel
theorem dX4_acceptsLine_21 : decode cX4_acceptsLine 21 = .ok (.iconst 5, 1) := by decide +kernel
theorem dX4_acceptsLine_22 : decode cX4_acceptsLine 22 = .ok (.putfield 18, 3) := by decide +kernel
theorem dX4_acceptsLine_25 : decode cX4_acceptsLine 25 = .ok (.iconst 1, 1) := by decide +kernel
theorem dX4_acceptsLine_26 : decode cX4_acceptsLine 26 = .ok (.ireturn, 1) := by decide +kernel
theorem dX4_acceptsMinus_0 : decode cX4_acceptsMinus 0 = .ok (.iload_n 1, 1) := by decide +kernel
theorem dX4_acceptsMinus_1 : decode cX4_acceptsMinus 1 = .ok (.bipush 45, 2) := by decide +kernel
theorem dX4_acceptsMinus_3 : decode cX4_acceptsMinus 3 = .ok (.if_icmp .eq 5, 3) := by decide +kernel
theorem dX4_acceptsMinus_6 : decode cX4_acceptsMinus 6 = .ok (.iconst 0, 1) := by decide +kernel
theorem dX4_acceptsMinus_7 : decode cX4_acceptsMinus 7 = .ok (.ireturn, 1) := by decide +kernel
theorem dX4_acceptsMinus_8 : decode cX4_acceptsMinus 8 = .ok (.aload_n 0, 1) := by decide +kernel
theorem dX4_acceptsMinus_9 : decode cX4_acceptsMinus 9 = .ok (.iconst 1, 1) := by decide +kernel
theorem dX4_acceptsMinus_10 : decode cX4_acceptsMinus 10 = .ok (.putfield 31, 3) := by decide +kernel
theorem dX4_acceptsMinus_13 : decode cX4_acceptsMinus 13 = .ok (.aload_n 0, 1) := by decide +kernel
theorem dX4_acceptsMinus_14 : decode cX4_acceptsMinus 14 = .ok (.iconst 3, 1) := by decide +kernel
theorem dX4_acceptsMinus_15 : decode cX4_acceptsMinus 15 = .ok (.putfield 18, 3) := by decide +kernel
theorem dX4_acceptsMinus_18 : decode cX4_acceptsMinus 18 = .ok (.iconst 1, 1) := by decide +kernel
theorem dX4_acceptsMinus_19 : decode cX4_acceptsMinus 19 = .ok (.ireturn, 1) := by decide +kernel
theorem dX4_acceptsDigit_0 : decode cX4_acceptsDigit 0 = .ok (.iload_n 1, 1) := by decide +kernel
theorem dX4_acceptsDigit_1 : decode cX4_acceptsDigit 1 = .ok (.bipush 48, 2) := by decide +kernel
theorem dX4_acceptsDigit_3 : decode cX4_acceptsDigit 3 = .ok (.if_icmp .lt 9, 3) := by decide +kernel
theorem dX4_acceptsDigit_6 : decode cX4_acceptsDigit 6 = .ok (.iload_n 1, 1) := by decide +kernel
theorem dX4_acceptsDigit_7 : decode cX4_acceptsDigit 7 = .ok (.bipush 57, 2) := by decide +kernel
theorem dX4_acceptsDigit_9 : decode cX4_acceptsDigit 9 = .ok (.if_icmp .le 5, 3) := by decide +kernel
theorem dX4_acceptsDigit_12 : decode cX4_acceptsDigit 12 = .ok (.iconst 0, 1) := by decide +kernel
theorem dX4_acceptsDigit_13 : decode cX4_acceptsDigit 13 = .ok (.ireturn, 1) := by decide +kernel
theorem dX4_acceptsDigit_14 : decode cX4_acceptsDigit 14 = .ok (.aload_n 0, 1) := by decide +kernel
theorem dX4_acceptsDigit_15 : decode cX4_acceptsDigit 15 = .ok (.bipush 10, 2) := by decide +kernel
theorem dX4_acceptsDigit_17 : decode cX4_acceptsDigit 17 = .ok (.aload_n 0, 1) := by decide +kernel
theorem dX4_acceptsDigit_18 : decode cX4_acceptsDigit 18 = .ok (.getfield 25, 3) := by decide +kernel
theorem dX4_acceptsDigit_21 : decode cX4_acceptsDigit 21 = .ok (.imul, 1) := by decide +kernel
theorem dX4_acceptsDigit_22 : decode cX4_acceptsDigit 22 = .ok (.iload_n 1, 1) := by decide +kernel
theorem dX4_acceptsDigit_23 : decode cX4_acceptsDigit 23 = .ok (.bipush 48, 2) := by decide +kernel
theorem dX4_acceptsDigit_25 : decode cX4_acceptsDigit 25 = .ok (.isub, 1) := by decide +kernel
theorem dX4_acceptsDigit_26 : decode cX4_acceptsDigit 26 = .ok (.iadd, 1) := by decide +kernel
theorem dX4_acceptsDigit_27 : decode cX4_acceptsDigit 27 = .ok (.putfield 25, 3) := by decide +kernel
theorem dX4_acceptsDigit_30 : decode cX4_acceptsDigit 30 = .ok (.aload_n 0, 1) := by decide +kernel
theorem dX4_acceptsDigit_31 : decode cX4_acceptsDigit 31 = .ok (.dup, 1) := by decide +kernel
theorem dX4_acceptsDigit_32 : decode cX4_acceptsDigit 32 = .ok (.getfield 28, 3) := by decide +kernel
theorem dX4_acceptsDigit_35 : decode cX4_acceptsDigit 35 = .ok (.iconst 1, 1) := by decide +kernel
theorem dX4_acceptsDigit_36 : decode cX4_acceptsDigit 36 = .ok (.iadd, 1) := by decide +kernel
theorem dX4_acceptsDigit_37 : decode cX4_acceptsDigit 37 = .ok (.putfield 28, 3) := by decide +kernel
theorem dX4_acceptsDigit_40 : decode cX4_acceptsDigit 40 = .ok (.aload_n 0, 1) := by decide +kernel
theorem dX4_acceptsDigit_41 : decode cX4_acceptsDigit 41 = .ok (.aload_n 0, 1) := by decide +kernel
theorem dX4_acceptsDigit_42 : decode cX4_acceptsDigit 42 = .ok (.getfield 28, 3) := by decide +kernel
theorem dX4_acceptsDigit_45 : decode cX4_acceptsDigit 45 = .ok (.iconst 3, 1) := by decide +kernel
theorem dX4_acceptsDigit_46 : decode cX4_acceptsDigit 46 = .ok (.if_icmp .ge 7, 3) := by decide +kernel
theorem dX4_acceptsDigit_49 : decode cX4_acceptsDigit 49 = .ok (.iconst 4, 1) := by decide +kernel
theorem dX4_acceptsDigit_50 : decode cX4_acceptsDigit 50 = .ok (.goto 4, 3) := by decide +kernel
theorem dX4_acceptsDigit_53 : decode cX4_acceptsDigit 53 = .ok (.iconst 5, 1) := by decide +kernel
theorem dX4_acceptsDigit_54 : decode cX4_acceptsDigit 54 = .ok (.putfield 18, 3) := by decide +kernel
theorem dX4_acceptsDigit_57 : decode cX4_acceptsDigit 57 = .ok (.iconst 1, 1) := by decide +kernel
theorem dX4_acceptsDigit_58 : decode cX4_acceptsDigit 58 = .ok (.ireturn, 1) := by decide +kernel
theorem dX4_acceptsEnd_0 : decode cX4_acceptsEnd 0 = .ok (.iload_n 1, 1) := by decide +kernel
theorem dX4_acceptsEnd_1 : decode cX4_acceptsEnd 1 = .ok (.bipush 59, 2) := by decide +kernel
theorem dX4_acceptsEnd_3 : decode cX4_acceptsEnd 3 = .ok (.if_icmp .eq 5, 3) := by decide +kernel
theorem dX4_acceptsEnd_6 : decode cX4_acceptsEnd 6 = .ok (.iconst 0, 1) := by decide +kernel
theorem dX4_acceptsEnd_7 : decode cX4_acceptsEnd 7 = .ok (.ireturn, 1) := by decide +kernel
theorem dX4_acceptsEnd_8 : decode cX4_acceptsEnd 8 = .ok (.aload_n 0, 1) := by decide +kernel
theorem dX4_acceptsEnd_9 : decode cX4_acceptsEnd 9 = .ok (.getfield 12, 3) := by decide +kernel
theorem dX4_acceptsEnd_12 : decode cX4_acceptsEnd 12 = .ok (.aload_n 0, 1) := by decide +kernel
theorem dX4_acceptsEnd_13 : decode cX4_acceptsEnd 13 = .ok (.getfield 22, 3) := by decide +kernel
theorem dX4_acceptsEnd_16 : decode cX4_acceptsEnd 16 = .ok (.aload_n 0, 1) := by decide +kernel
theorem dX4_acceptsEnd_17 : decode cX4_acceptsEnd 17 = .ok (.getfield 31, 3) := by decide +kernel
theorem dX4_acceptsEnd_20 : decode cX4_acceptsEnd 20 = .ok (.ifCond .eq 11, 3) := by decide +kernel
theorem dX4_acceptsEnd_23 : decode cX4_acceptsEnd 23 = .ok (.aload_n 0, 1) := by decide +kernel
theorem dX4_acceptsEnd_24 : decode cX4_acceptsEnd 24 = .ok (.getfield 25, 3) := by decide +kernel
theorem dX4_acceptsEnd_27 : decode cX4_acceptsEnd 27 = .ok (.ineg, 1) := by decide +kernel
theorem dX4_acceptsEnd_28 : decode cX4_acceptsEnd 28 = .ok (.goto 7, 3) := by decide +kernel
theorem dX4_acceptsEnd_31 : decode cX4_acceptsEnd 31 = .ok (.aload_n 0, 1) := by decide +kernel
theorem dX4_acceptsEnd_32 : decode cX4_acceptsEnd 32 = .ok (.getfield 25, 3) := by decide +kernel
theorem dX4_acceptsEnd_35 : decode cX4_acceptsEnd 35 = .ok (.invokevirtual 68, 3) := by decide +kernel
theorem dX4_acceptsEnd_38 : decode cX4_acceptsEnd 38 = .ok (.aload_n 0, 1) := by decide +kernel
theorem dX4_acceptsEnd_39 : decode cX4_acceptsEnd 39 = .ok (.iconst 0, 1) := by decide +kernel
theorem dX4_acceptsEnd_40 : decode cX4_acceptsEnd 40 = .ok (.putfield 18, 3) := by decide +kernel
theorem dX4_acceptsEnd_43 : decode cX4_acceptsEnd 43 = .ok (.iconst 1, 1) := by decide +kernel
theorem dX4_acceptsEnd_44 : decode cX4_acceptsEnd 44 = .ok (.ireturn, 1) := by decide +kernel
theorem dX5_init_0 : decode cX5_init 0 = .ok (.aload_n 0, 1) := by decide +kernel
theorem dX5_init_1 : decode cX5_init 1 = .ok (.invokespecial 1, 3) := by decide +kernel
theorem dX5_init_4 : decode cX5_init 4 = .ok (.aload_n 0, 1) := by decide +kernel
theorem dX5_init_5 : decode cX5_init 5 = .ok (.bipush 120, 2) := by decide +kernel
theorem dX5_init_7 : decode cX5_init 7 = .ok (.newarray .int, 2) := by decide +kernel
theorem dX5_init_9 : decode cX5_init 9 = .ok (.putfield 9, 3) := by decide +kernel
theorem dX5_init_12 : decode cX5_init 12 = .ok (.aload_n 0, 1) := by decide +kernel
theorem dX5_init_13 : decode cX5_init 13 = .ok (.iconst 0, 1) := by decide +kernel
theorem dX5_init_14 : decode cX5_init 14 = .ok (.putfield 13, 3) := by decide +kernel
theorem dX5_init_17 : decode cX5_init 17 = .ok (.aload_n 0, 1) := by decide +kernel
theorem dX5_init_18 : decode cX5_init 18 = .ok (.new 17, 3) := by decide +kernel
theorem dX5_init_21 : decode cX5_init 21 = .ok (.dup, 1) := by decide +kernel
theorem dX5_init_22 : decode cX5_init 22 = .ok (.invokespecial 19, 3) := by decide +kernel
theorem dX5_init_25 : decode cX5_init 25 = .ok (.putfield 20, 3) := by decide +kernel
theorem dX5_init_28 : decode cX5_init 28 = .ok (.aload_n 0, 1) := by decide +kernel
theorem dX5_init_29 : decode cX5_init 29 = .ok (.new 24, 3) := by decide +kernel
theorem dX5_init_32 : decode cX5_init 32 = .ok (.dup, 1) := by decide +kernel
theorem dX5_init_33 : decode cX5_init 33 = .ok (.sipush 400, 3) := by decide +kernel
theorem dX5_init_36 : decode cX5_init 36 = .ok (.invokespecial 26, 3) := by decide +kernel
theorem dX5_init_39 : decode cX5_init 39 = .ok (.putfield 29, 3) := by decide +kernel
theorem dX5_init_42 : decode cX5_init 42 = .ok (.aload_n 0, 1) := by decide +kernel
theorem dX5_init_43 : decode cX5_init 43 = .ok (.new 24, 3) := by decide +kernel
theorem dX5_init_46 : decode cX5_init 46 = .ok (.dup, 1) := by decide +kernel
theorem dX5_init_47 : decode cX5_init 47 = .ok (.iconst 0, 1) := by decide +kernel
theorem dX5_init_48 : decode cX5_init 48 = .ok (.invokespecial 26, 3) := by decide +kernel
theorem dX5_init_51 : decode cX5_init 51 = .ok (.putfield 33, 3) := by decide +kernel
theorem dX5_init_54 : decode cX5_init 54 = .ok (.aload_n 0, 1) := by decide +kernel
theorem dX5_init_55 : decode cX5_init 55 = .ok (.iconst 4, 1) := by decide +kernel
theorem dX5_init_56 : decode cX5_init 56 = .ok (.anewarray 24, 3) := by decide +kernel
theorem dX5_init_59 : decode cX5_init 59 = .ok (.putfield 36, 3) := by decide +kernel
theorem dX5_init_62 : decode cX5_init 62 = .ok (.iconst 0, 1) := by decide +kernel
theorem dX5_init_63 : decode cX5_init 63 = .ok (.istore_n 1, 1) := by decide +kernel
theorem dX5_init_64 : decode cX5_init 64 = .ok (.iload_n 1, 1) := by decide +kernel
theorem dX5_init_65 : decode cX5_init 65 = .ok (.iconst 4, 1) := by decide +kernel
theorem dX5_init_66 : decode cX5_init 66 = .ok (.if_icmp .ge 25, 3) := by decide +kernel
theorem dX5_init_69 : decode cX5_init 69 = .ok (.aload_n 0, 1) := by decide +kernel
theorem dX5_init_70 : decode cX5_init 70 = .ok (.getfield 36, 3) := by decide +kernel
theorem dX5_init_73 : decode cX5_init 73 = .ok (.iload_n 1, 1) := by decide +kernel
theorem dX5_init_74 : decode cX5_init 74 = .ok (.new 24, 3) := by decide +kernel
theorem dX5_init_77 : decode cX5_init 77 = .ok (.dup, 1) := by decide +kernel
theorem dX5_init_78 : decode cX5_init 78 = .ok (.sipush 400, 3) := by decide +kernel
theorem dX5_init_81 : decode cX5_init 81 = .ok (.invokespecial 26, 3) := by decide +kernel
theorem dX5_init_84 : decode cX5_init 84 = .ok (.aastore, 1) := by decide +kernel
theorem dX5_init_85 : decode cX5_init 85 = .ok (.iinc 1 1, 3) := by decide +kernel
theorem dX5_init_88 : decode cX5_init 88 = .ok (.goto (-24), 3) := by decide +kernel
theorem dX5_init_91 : decode cX5_init 91 = .ok (.aload_n 0, 1) := by decide +kernel
theorem dX5_init_92 : decode cX5_init 92 = .ok (.iconst 0, 1) := by decide +kernel
theorem dX5_init_93 : decode cX5_init 93 = .ok (.putfield 40, 3) := by decide +kernel
theorem dX5_init_96 : decode cX5_init 96 = .ok (.aload_n 0, 1) := by decide +kernel
theorem dX5_init_97 : decode cX5_init 97 = .ok (.iconst 0, 1) := by decide +kernel
theorem dX5_init_98 : decode cX5_init 98 = .ok (.putfield 43, 3) := by decide +kernel
theorem dX5_init_101 : decode cX5_init 101 = .ok (.aload_n 0, 1) := by decide +kernel
theorem dX5_init_102 : decode cX5_init 102 = .ok (.bipush 8, 2) := by decide +kernel
theorem dX5_init_104 : decode cX5_init 104 = .ok (.newarray .int, 2) := by decide +kernel
theorem dX5_init_106 : decode cX5_init 106 = .ok (.putfield 46, 3) := by decide +kernel
theorem dX5_init_109 : decode cX5_init 109 = .ok (.return_, 1) := by decide +kernel
theorem dX5_begin_0 : decode cX5_begin 0 = .ok (.iload_n 1, 1) := by decide +kernel
theorem dX5_begin_1 : decode cX5_begin 1 = .ok (.iconst 2, 1) := by decide +kernel
theorem dX5_begin_2 : decode cX5_begin 2 = .ok (.if_icmp .lt 26, 3) := by decide +kernel
theorem dX5_begin_5 : decode cX5_begin 5 = .ok (.iload_n 1, 1) := by decide +kernel
theorem dX5_begin_6 : decode cX5_begin 6 = .ok (.iconst 4, 1) := by decide +kernel
theorem dX5_begin_7 : decode cX5_begin 7 = .ok (.if_icmp .gt 21, 3) := by decide +kernel
theorem dX5_begin_10 : decode cX5_begin 10 = .ok (.iload_n 2, 1) := by decide +kernel
theorem dX5_begin_11 : decode cX5_begin 11 = .ok (.invokestatic 49, 3) := by decide +kernel
theorem dX5_begin_14 : decode cX5_begin 14 = .ok (.ifCond .eq 14, 3) := by decide +kernel
theorem dX5_begin_17 : decode cX5_begin 17 = .ok (.iload_n 3, 1) := by decide +kernel
theorem dX5_begin_18 : decode cX5_begin 18 = .ok (.iconst 1, 1) := by decide +kernel
theorem dX5_begin_19 : decode cX5_begin 19 = .ok (.if_icmp .lt 9, 3) := by decide +kernel
theorem dX5_begin_22 : decode cX5_begin 22 = .ok (.iload_n 3, 1) := by decide +kernel
theorem dX5_begin_23 : decode cX5_begin 23 = .ok (.bipush 8, 2) := by decide +kernel
theorem dX5_begin_25 : decode cX5_begin 25 = .ok (.if_icmp .le 13, 3) := by decide +kernel
theorem dX5_begin_28 : decode cX5_begin 28 = .ok (.new 53, 3) := by decide +kernel
theorem dX5_begin_31 : decode cX5_begin 31 = .ok (.dup, 1) := by decide +kernel
theorem dX5_begin_32 : decode cX5_begin 32 = .ok (.ldc 55, 2) := by decide +kernel
theorem dX5_begin_34 : decode cX5_begin 34 = .ok (.invokespecial 57, 3) := by decide +kernel
theorem dX5_begin_37 : decode cX5_begin 37 = .ok (.athrow, 1) := by decide +kernel
theorem dX5_begin_38 : decode cX5_begin 38 = .ok (.aload_n 0, 1) := by decide +kernel
theorem dX5_begin_39 : decode cX5_begin 39 = .ok (.invokevirtual 60, 3) := by decide +kernel
theorem dX5_begin_42 : decode cX5_begin 42 = .ok (.aload_n 0, 1) := by decide +kernel
theorem dX5_begin_43 : decode cX5_begin 43 = .ok (.getfield 29, 3) := by decide +kernel
theorem dX5_begin_46 : decode cX5_begin 46 = .ok (.getfield 63, 3) := by decide +kernel
theorem dX5_begin_49 : decode cX5_begin 49 = .ok (.getfield 67, 3) := by decide +kernel
theorem dX5_begin_52 : decode cX5_begin 52 = .ok (.istore 4, 2) := by decide +kernel
theorem dX5_begin_54 : decode cX5_begin 54 = .ok (.aload_n 0, 1) := by decide +kernel
theorem dX5_begin_55 : decode cX5_begin 55 = .ok (.getfield 29, 3) := by decide +kernel
theorem dX5_begin_58 : decode cX5_begin 58 = .ok (.iload_n 1, 1) := by decide +kernel
theorem dX5_begin_59 : decode cX5_begin 59 = .ok (.iload_n 2, 1) := by decide +kernel
theorem dX5_begin_60 : decode cX5_begin 60 = .ok (.iload_n 3, 1) := by decide +kernel
theorem dX5_begin_61 : decode cX5_begin 61 = .ok (.invokevirtual 72, 3) := by decide +kernel
theorem dX5_begin_64 : decode cX5_begin 64 = .ok (.iload 4, 2) := by decide +kernel
theorem dX5_begin_66 : decode cX5_begin 66 = .ok (.ireturn, 1) := by decide +kernel
theorem dX5_setPolicy_0 : decode cX5_setPolicy 0 = .ok (.iload_n 1, 1) := by decide +kernel
theorem dX5_setPolicy_1 : decode cX5_setPolicy 1 = .ok (.invokestatic 49, 3) := by decide +kernel
theorem dX5_setPolicy_4 : decode cX5_setPolicy 4 = .ok (.ifCond .ne 13, 3) := by decide +kernel
theorem dX5_setPolicy_7 : decode cX5_setPolicy 7 = .ok (.new 53, 3) := by decide +kernel
theorem dX5_setPolicy_10 : decode cX5_setPolicy 10 = .ok (.dup, 1) := by decide +kernel
theorem dX5_setPolicy_11 : decode cX5_setPolicy 11 = .ok (.ldc 76, 2) := by decide +kernel
theorem dX5_setPolicy_13 : decode cX5_setPolicy 13 = .ok (.invokespecial 57, 3) := by decide +kernel
theorem dX5_setPolicy_16 : decode cX5_setPolicy 16 = .ok (.athrow, 1) := by decide +kernel
theorem dX5_setPolicy_17 : decode cX5_setPolicy 17 = .ok (.aload_n 0, 1) := by decide +kernel
theorem dX5_setPolicy_18 : decode cX5_setPolicy 18 = .ok (.invokevirtual 60, 3) := by decide +kernel
theorem dX5_setPolicy_21 : decode cX5_setPolicy 21 = .ok (.aload_n 0, 1) := by decide +kernel
theorem dX5_setPolicy_22 : decode cX5_setPolicy 22 = .ok (.getfield 29, 3) := by decide +kernel
theorem dX5_setPolicy_25 : decode cX5_setPolicy 25 = .ok (.getfield 78, 3) := by decide +kernel
theorem dX5_setPolicy_28 : decode cX5_setPolicy 28 = .ok (.istore_n 2, 1) := by decide +kernel
theorem dX5_setPolicy_29 : decode cX5_setPolicy 29 = .ok (.aload_n 0, 1) := by decide +kernel
theorem dX5_setPolicy_30 : decode cX5_setPolicy 30 = .ok (.getfield 29, 3) := by decide +kernel
theorem dX5_setPolicy_33 : decode cX5_setPolicy 33 = .ok (.iload_n 1, 1) := by decide +kernel
theorem dX5_setPolicy_34 : decode cX5_setPolicy 34 = .ok (.putfield 78, 3) := by decide +kernel
theorem dX5_setPolicy_37 : decode cX5_setPolicy 37 = .ok (.iload_n 2, 1) := by decide +kernel
theorem dX5_setPolicy_38 : decode cX5_setPolicy 38 = .ok (.ireturn, 1) := by decide +kernel
theorem dX5_seed_0 : decode cX5_seed 0 = .ok (.iload_n 1, 1) := by decide +kernel
theorem dX5_seed_1 : decode cX5_seed 1 = .ok (.ifCond .lt 9, 3) := by decide +kernel
theorem dX5_seed_4 : decode cX5_seed 4 = .ok (.iload_n 1, 1) := by decide +kernel
theorem dX5_seed_5 : decode cX5_seed 5 = .ok (.ldc 81, 2) := by decide +kernel
theorem dX5_seed_7 : decode cX5_seed 7 = .ok (.if_icmp .le 13, 3) := by decide +kernel
theorem dX5_seed_10 : decode cX5_seed 10 = .ok (.new 53, 3) := by decide +kernel
theorem dX5_seed_13 : decode cX5_seed 13 = .ok (.dup, 1) := by decide +kernel
theorem dX5_seed_14 : decode cX5_seed 14 = .ok (.ldc 82, 2) := by decide +kernel
theorem dX5_seed_16 : decode cX5_seed 16 = .ok (.invokespecial 57, 3) := by decide +kernel
theorem dX5_seed_19 : decode cX5_seed 19 = .ok (.athrow, 1) := by decide +kernel
theorem dX5_seed_20 : decode cX5_seed 20 = .ok (.aload_n 0, 1) := by decide +kernel
theorem dX5_seed_21 : decode cX5_seed 21 = .ok (.invokevirtual 60, 3) := by decide +kernel
theorem dX5_seed_24 : decode cX5_seed 24 = .ok (.aload_n 0, 1) := by decide +kernel
theorem dX5_seed_25 : decode cX5_seed 25 = .ok (.getfield 29, 3) := by decide +kernel
theorem dX5_seed_28 : decode cX5_seed 28 = .ok (.getfield 84, 3) := by decide +kernel
theorem dX5_seed_31 : decode cX5_seed 31 = .ok (.istore_n 2, 1) := by decide +kernel
theorem dX5_seed_32 : decode cX5_seed 32 = .ok (.aload_n 0, 1) := by decide +kernel
theorem dX5_seed_33 : decode cX5_seed 33 = .ok (.getfield 29, 3) := by decide +kernel
theorem dX5_seed_36 : decode cX5_seed 36 = .ok (.iload_n 1, 1) := by decide +kernel
theorem dX5_seed_37 : decode cX5_seed 37 = .ok (.putfield 84, 3) := by decide +kernel
theorem dX5_seed_40 : decode cX5_seed 40 = .ok (.iload_n 2, 1) := by decide +kernel
theorem dX5_seed_41 : decode cX5_seed 41 = .ok (.ireturn, 1) := by decide +kernel
theorem dX5_append_0 : decode cX5_append 0 = .ok (.iload_n 1, 1) := by decide +kernel
theorem dX5_append_1 : decode cX5_append 1 = .ok (.ifCond .lt 9, 3) := by decide +kernel
theorem dX5_append_4 : decode cX5_append 4 = .ok (.iload_n 1, 1) := by decide +kernel
theorem dX5_append_5 : decode cX5_append 5 = .ok (.bipush 127, 2) := by decide +kernel
theorem dX5_append_7 : decode cX5_append 7 = .ok (.if_icmp .le 13, 3) := by decide +kernel
theorem dX5_append_10 : decode cX5_append 10 = .ok (.new 53, 3) := by decide +kernel
theorem dX5_append_13 : decode cX5_append 13 = .ok (.dup, 1) := by decide +kernel
theorem dX5_append_14 : decode cX5_append 14 = .ok (.ldc 87, 2) := by decide +kernel
theorem dX5_append_16 : decode cX5_append 16 = .ok (.invokespecial 57, 3) := by decide +kernel
theorem dX5_append_19 : decode cX5_append 19 = .ok (.athrow, 1) := by decide +kernel
theorem dX5_append_20 : decode cX5_append 20 = .ok (.aload_n 0, 1) := by decide +kernel
theorem dX5_append_21 : decode cX5_append 21 = .ok (.getfield 13, 3) := by decide +kernel
theorem dX5_append_24 : decode cX5_append 24 = .ok (.ifCond .lt 12, 3) := by decide +kernel
theorem dX5_append_27 : decode cX5_append 27 = .ok (.aload_n 0, 1) := by decide +kernel
theorem dX5_append_28 : decode cX5_append 28 = .ok (.getfield 13, 3) := by decide +kernel
theorem dX5_append_31 : decode cX5_append 31 = .ok (.bipush 120, 2) := by decide +kernel
theorem dX5_append_33 : decode cX5_append 33 = .ok (.if_icmp .lt 13, 3) := by decide +kernel
theorem dX5_append_36 : decode cX5_append 36 = .ok (.new 89, 3) := by decide +kernel
theorem dX5_append_39 : decode cX5_append 39 = .ok (.dup, 1) := by decide +kernel
theorem dX5_append_40 : decode cX5_append 40 = .ok (.ldc 91, 2) := by decide +kernel
theorem dX5_append_42 : decode cX5_append 42 = .ok (.invokespecial 93, 3) := by decide +kernel
theorem dX5_append_45 : decode cX5_append 45 = .ok (.athrow, 1) := by decide +kernel
theorem dX5_append_46 : decode cX5_append 46 = .ok (.aload_n 0, 1) := by decide +kernel
theorem dX5_append_47 : decode cX5_append 47 = .ok (.getfield 9, 3) := by decide +kernel
theorem dX5_append_50 : decode cX5_append 50 = .ok (.aload_n 0, 1) := by decide +kernel
theorem dX5_append_51 : decode cX5_append 51 = .ok (.getfield 13, 3) := by decide +kernel
theorem dX5_append_54 : decode cX5_append 54 = .ok (.iload_n 1, 1) := by decide +kernel
theorem dX5_append_55 : decode cX5_append 55 = .ok (.iastore, 1) := by decide +kernel
theorem dX5_append_56 : decode cX5_append 56 = .ok (.aload_n 0, 1) := by decide +kernel
theorem dX5_append_57 : decode cX5_append 57 = .ok (.dup, 1) := by decide +kernel
theorem dX5_append_58 : decode cX5_append 58 = .ok (.getfield 13, 3) := by decide +kernel
theorem dX5_append_61 : decode cX5_append 61 = .ok (.iconst 1, 1) := by decide +kernel
theorem dX5_append_62 : decode cX5_append 62 = .ok (.iadd, 1) := by decide +kernel
theorem dX5_append_63 : decode cX5_append 63 = .ok (.putfield 13, 3) := by decide +kernel
theorem dX5_append_66 : decode cX5_append 66 = .ok (.aload_n 0, 1) := by decide +kernel
theorem dX5_append_67 : decode cX5_append 67 = .ok (.getfield 13, 3) := by decide +kernel
theorem dX5_append_70 : decode cX5_append 70 = .ok (.ireturn, 1) := by decide +kernel
theorem dX5_clearText_0 : decode cX5_clearText 0 = .ok (.aload_n 0, 1) := by decide +kernel
theorem dX5_clearText_1 : decode cX5_clearText 1 = .ok (.getfield 13, 3) := by decide +kernel
theorem dX5_clearText_4 : decode cX5_clearText 4 = .ok (.istore_n 1, 1) := by decide +kernel
theorem dX5_clearText_5 : decode cX5_clearText 5 = .ok (.aload_n 0, 1) := by decide +kernel
theorem dX5_clearText_6 : decode cX5_clearText 6 = .ok (.iconst 0, 1) := by decide +kernel
theorem dX5_clearText_7 : decode cX5_clearText 7 = .ok (.putfield 13, 3) := by decide +kernel
theorem dX5_clearText_10 : decode cX5_clearText 10 = .ok (.iload_n 1, 1) := by decide +kernel
theorem dX5_clearText_11 : decode cX5_clearText 11 = .ok (.ireturn, 1) := by decide +kernel
theorem dX5_load_0 : decode cX5_load 0 = .ok (.aload_n 0, 1) := by decide +kernel
theorem dX5_load_1 : decode cX5_load 1 = .ok (.getfield 29, 3) := by decide +kernel
theorem dX5_load_4 : decode cX5_load 4 = .ok (.iload_n 1, 1) := by decide +kernel
theorem dX5_load_5 : decode cX5_load 5 = .ok (.invokevirtual 94, 3) := by decide +kernel
theorem dX5_load_8 : decode cX5_load 8 = .ok (.ifCond .ne 13, 3) := by decide +kernel
theorem dX5_load_11 : decode cX5_load 11 = .ok (.new 97, 3) := by decide +kernel
theorem dX5_load_14 : decode cX5_load 14 = .ok (.dup, 1) := by decide +kernel
theorem dX5_load_15 : decode cX5_load 15 = .ok (.ldc 99, 2) := by decide +kernel
theorem dX5_load_17 : decode cX5_load 17 = .ok (.invokespecial 101, 3) := by decide +kernel
theorem dX5_load_20 : decode cX5_load 20 = .ok (.athrow, 1) := by decide +kernel
theorem dX5_load_21 : decode cX5_load 21 = .ok (.aload_n 0, 1) := by decide +kernel
theorem dX5_load_22 : decode cX5_load 22 = .ok (.getfield 29, 3) := by decide +kernel
theorem dX5_load_25 : decode cX5_load 25 = .ok (.getfield 102, 3) := by decide +kernel
theorem dX5_load_28 : decode cX5_load 28 = .ok (.iload_n 1, 1) := by decide +kernel
theorem dX5_load_29 : decode cX5_load 29 = .ok (.aaload, 1) := by decide +kernel
theorem dX5_load_30 : decode cX5_load 30 = .ok (.invokevirtual 106, 3) := by decide +kernel
theorem dX5_load_33 : decode cX5_load 33 = .ok (.ifCond .eq 13, 3) := by decide +kernel
theorem dX5_load_36 : decode cX5_load 36 = .ok (.new 89, 3) := by decide +kernel
theorem dX5_load_39 : decode cX5_load 39 = .ok (.dup, 1) := by decide +kernel
theorem dX5_load_40 : decode cX5_load 40 = .ok (.ldc 112, 2) := by decide +kernel
theorem dX5_load_42 : decode cX5_load 42 = .ok (.invokespecial 93, 3) := by decide +kernel
theorem dX5_load_45 : decode cX5_load 45 = .ok (.athrow, 1) := by decide +kernel
theorem dX5_load_46 : decode cX5_load 46 = .ok (.aload_n 0, 1) := by decide +kernel
theorem dX5_load_47 : decode cX5_load 47 = .ok (.getfield 20, 3) := by decide +kernel
theorem dX5_load_50 : decode cX5_load 50 = .ok (.aload_n 0, 1) := by decide +kernel
theorem dX5_load_51 : decode cX5_load 51 = .ok (.getfield 9, 3) := by decide +kernel
theorem dX5_load_54 : decode cX5_load 54 = .ok (.aload_n 0, 1) := by decide +kernel
theorem dX5_load_55 : decode cX5_load 55 = .ok (.getfield 13, 3) := by decide +kernel
theorem dX5_load_58 : decode cX5_load 58 = .ok (.invokevirtual 114, 3) := by decide +kernel
theorem dX5_load_61 : decode cX5_load 61 = .ok (.istore_n 2, 1) := by decide +kernel
theorem dX5_load_62 : decode cX5_load 62 = .ok (.iload_n 2, 1) := by decide +kernel
theorem dX5_load_63 : decode cX5_load 63 = .ok (.iconst (-1), 1) := by decide +kernel
theorem dX5_load_64 : decode cX5_load 64 = .ok (.if_icmp .eq 8, 3) := by decide +kernel
theorem dX5_load_67 : decode cX5_load 67 = .ok (.bipush (-10), 2) := by decide +kernel
theorem dX5_load_69 : decode cX5_load 69 = .ok (.iload_n 2, 1) := by decide +kernel
theorem dX5_load_70 : decode cX5_load 70 = .ok (.isub, 1) := by decide +kernel
theorem dX5_load_71 : decode cX5_load 71 = .ok (.ireturn, 1) := by decide +kernel
theorem dX5_load_72 : decode cX5_load 72 = .ok (.aload_n 0, 1) := by decide +kernel
theorem dX5_load_73 : decode cX5_load 73 = .ok (.invokevirtual 60, 3) := by decide +kernel
theorem dX5_load_76 : decode cX5_load 76 = .ok (.aload_n 0, 1) := by decide +kernel
theorem dX5_load_77 : decode cX5_load 77 = .ok (.getfield 29, 3) := by decide +kernel
theorem dX5_load_80 : decode cX5_load 80 = .ok (.getfield 102, 3) := by decide +kernel
theorem dX5_load_83 : decode cX5_load 83 = .ok (.iload_n 1, 1) := by decide +kernel
theorem dX5_load_84 : decode cX5_load 84 = .ok (.aaload, 1) := by decide +kernel
theorem dX5_load_85 : decode cX5_load 85 = .ok (.aload_n 0, 1) := by decide +kernel
theorem dX5_load_86 : decode cX5_load 86 = .ok (.getfield 20, 3) := by decide +kernel
theorem dX5_load_89 : decode cX5_load 89 = .ok (.getfield 118, 3) := by decide +kernel
theorem dX5_load_92 : decode cX5_load 92 = .ok (.invokevirtual 122, 3) := by decide +kernel
theorem dX5_load_95 : decode cX5_load 95 = .ok (.aload_n 0, 1) := by decide +kernel
theorem dX5_load_96 : decode cX5_load 96 = .ok (.getfield 29, 3) := by decide +kernel
theorem dX5_load_99 : decode cX5_load 99 = .ok (.getfield 102, 3) := by decide +kernel
theorem dX5_load_102 : decode cX5_load 102 = .ok (.iload_n 1, 1) := by decide +kernel
theorem dX5_load_103 : decode cX5_load 103 = .ok (.aaload, 1) := by decide +kernel
theorem dX5_load_104 : decode cX5_load 104 = .ok (.getfield 126, 3) := by decide +kernel
theorem dX5_load_107 : decode cX5_load 107 = .ok (.getfield 127, 3) := by decide +kernel
theorem dX5_load_110 : decode cX5_load 110 = .ok (.ireturn, 1) := by decide +kernel
theorem dX5_again_0 : decode cX5_again 0 = .ok (.aload_n 0, 1) := by decide +kernel
theorem dX5_again_1 : decode cX5_again 1 = .ok (.getfield 29, 3) := by decide +kernel
theorem dX5_again_4 : decode cX5_again 4 = .ok (.iload_n 1, 1) := by decide +kernel
theorem dX5_again_5 : decode cX5_again 5 = .ok (.invokevirtual 94, 3) := by decide +kernel
theorem dX5_again_8 : decode cX5_again 8 = .ok (.ifCond .ne 13, 3) := by decide +kernel
theorem dX5_again_11 : decode cX5_again 11 = .ok (.new 97, 3) := by decide +kernel
theorem dX5_again_14 : decode cX5_again 14 = .ok (.dup, 1) := by decide +kernel
theorem dX5_again_15 : decode cX5_again 15 = .ok (.ldc 99, 2) := by decide +kernel
theorem dX5_again_17 : decode cX5_again 17 = .ok (.invokespecial 101, 3) := by decide +kernel
theorem dX5_again_20 : decode cX5_again 20 = .ok (.athrow, 1) := by decide +kernel
theorem dX5_again_21 : decode cX5_again 21 = .ok (.aload_n 0, 1) := by decide +kernel
theorem dX5_again_22 : decode cX5_again 22 = .ok (.getfield 29, 3) := by decide +kernel
theorem dX5_again_25 : decode cX5_again 25 = .ok (.getfield 102, 3) := by decide +kernel
theorem dX5_again_28 : decode cX5_again 28 = .ok (.iload_n 1, 1) := by decide +kernel
theorem dX5_again_29 : decode cX5_again 29 = .ok (.aaload, 1) := by decide +kernel
theorem dX5_again_30 : decode cX5_again 30 = .ok (.invokevirtual 132, 3) := by decide +kernel
theorem dX5_again_33 : decode cX5_again 33 = .ok (.ifCond .eq 18, 3) := by decide +kernel
theorem dX5_again_36 : decode cX5_again 36 = .ok (.aload_n 0, 1) := by decide +kernel
theorem dX5_again_37 : decode cX5_again 37 = .ok (.getfield 29, 3) := by decide +kernel
theorem dX5_again_40 : decode cX5_again 40 = .ok (.getfield 102, 3) := by decide +kernel
theorem dX5_again_43 : decode cX5_again 43 = .ok (.iload_n 1, 1) := by decide +kernel
theorem dX5_again_44 : decode cX5_again 44 = .ok (.aaload, 1) := by decide +kernel
theorem dX5_again_45 : decode cX5_again 45 = .ok (.invokevirtual 106, 3) := by decide +kernel
theorem dX5_again_48 : decode cX5_again 48 = .ok (.ifCond .eq 13, 3) := by decide +kernel
theorem dX5_again_51 : decode cX5_again 51 = .ok (.new 89, 3) := by decide +kernel
theorem dX5_again_54 : decode cX5_again 54 = .ok (.dup, 1) := by decide +kernel
theorem dX5_again_55 : decode cX5_again 55 = .ok (.ldc 135, 2) := by decide +kernel
theorem dX5_again_57 : decode cX5_again 57 = .ok (.invokespecial 93, 3) := by decide +kernel
theorem dX5_again_60 : decode cX5_again 60 = .ok (.athrow, 1) := by decide +kernel
theorem dX5_again_61 : decode cX5_again 61 = .ok (.aload_n 0, 1) := by decide +kernel
theorem dX5_again_62 : decode cX5_again 62 = .ok (.invokevirtual 60, 3) := by decide +kernel
theorem dX5_again_65 : decode cX5_again 65 = .ok (.aload_n 0, 1) := by decide +kernel
theorem dX5_again_66 : decode cX5_again 66 = .ok (.getfield 29, 3) := by decide +kernel
theorem dX5_again_69 : decode cX5_again 69 = .ok (.getfield 102, 3) := by decide +kernel
theorem dX5_again_72 : decode cX5_again 72 = .ok (.iload_n 1, 1) := by decide +kernel
theorem dX5_again_73 : decode cX5_again 73 = .ok (.aaload, 1) := by decide +kernel
theorem dX5_again_74 : decode cX5_again 74 = .ok (.iconst 0, 1) := by decide +kernel
theorem dX5_again_75 : decode cX5_again 75 = .ok (.putfield 137, 3) := by decide +kernel
theorem dX5_again_78 : decode cX5_again 78 = .ok (.aload_n 0, 1) := by decide +kernel
theorem dX5_again_79 : decode cX5_again 79 = .ok (.getfield 29, 3) := by decide +kernel
theorem dX5_again_82 : decode cX5_again 82 = .ok (.getfield 102, 3) := by decide +kernel
theorem dX5_again_85 : decode cX5_again 85 = .ok (.iload_n 1, 1) := by decide +kernel
theorem dX5_again_86 : decode cX5_again 86 = .ok (.aaload, 1) := by decide +kernel
theorem dX5_again_87 : decode cX5_again 87 = .ok (.getfield 126, 3) := by decide +kernel
theorem dX5_again_90 : decode cX5_again 90 = .ok (.getfield 127, 3) := by decide +kernel
theorem dX5_again_93 : decode cX5_again 93 = .ok (.ireturn, 1) := by decide +kernel
theorem dX5_step_0 : decode cX5_step 0 = .ok (.aload_n 0, 1) := by decide +kernel
theorem dX5_step_1 : decode cX5_step 1 = .ok (.getfield 29, 3) := by decide +kernel
theorem dX5_step_4 : decode cX5_step 4 = .ok (.iload_n 1, 1) := by decide +kernel
theorem dX5_step_5 : decode cX5_step 5 = .ok (.invokevirtual 94, 3) := by decide +kernel
theorem dX5_step_8 : decode cX5_step 8 = .ok (.ifCond .ne 13, 3) := by decide +kernel
theorem dX5_step_11 : decode cX5_step 11 = .ok (.new 97, 3) := by decide +kernel
theorem dX5_step_14 : decode cX5_step 14 = .ok (.dup, 1) := by decide +kernel
theorem dX5_step_15 : decode cX5_step 15 = .ok (.ldc 99, 2) := by decide +kernel
theorem dX5_step_17 : decode cX5_step 17 = .ok (.invokespecial 101, 3) := by decide +kernel
theorem dX5_step_20 : decode cX5_step 20 = .ok (.athrow, 1) := by decide +kernel
theorem dX5_step_21 : decode cX5_step 21 = .ok (.aload_n 0, 1) := by decide +kernel
theorem dX5_step_22 : decode cX5_step 22 = .ok (.getfield 29, 3) := by decide +kernel
theorem dX5_step_25 : decode cX5_step 25 = .ok (.getfield 102, 3) := by decide +kernel
theorem dX5_step_28 : decode cX5_step 28 = .ok (.iload_n 1, 1) := by decide +kernel
theorem dX5_step_29 : decode cX5_step 29 = .ok (.aaload, 1) := by decide +kernel
theorem dX5_step_30 : decode cX5_step 30 = .ok (.invokevirtual 132, 3) := by decide +kernel
theorem dX5_step_33 : decode cX5_step 33 = .ok (.ifCond .eq 13, 3) := by decide +kernel
theorem dX5_step_36 : decode cX5_step 36 = .ok (.new 89, 3) := by decide +kernel
theorem dX5_step_39 : decode cX5_step 39 = .ok (.dup, 1) := by decide +kernel
theorem dX5_step_40 : decode cX5_step 40 = .ok (.ldc 140, 2) := by decide +kernel
theorem dX5_step_42 : decode cX5_step 42 = .ok (.invokespecial 93, 3) := by decide +kernel
theorem dX5_step_45 : decode cX5_step 45 = .ok (.athrow, 1) := by decide +kernel
theorem dX5_step_46 : decode cX5_step 46 = .ok (.aload_n 0, 1) := by decide +kernel
theorem dX5_step_47 : decode cX5_step 47 = .ok (.invokevirtual 60, 3) := by decide +kernel
theorem dX5_step_50 : decode cX5_step 50 = .ok (.aload_n 0, 1) := by decide +kernel
theorem dX5_step_51 : decode cX5_step 51 = .ok (.getfield 29, 3) := by decide +kernel
theorem dX5_step_54 : decode cX5_step 54 = .ok (.iload_n 1, 1) := by decide +kernel
theorem dX5_step_55 : decode cX5_step 55 = .ok (.invokevirtual 142, 3) := by decide +kernel
theorem dX5_step_58 : decode cX5_step 58 = .ok (.ireturn, 1) := by decide +kernel
theorem dX5_run_0 : decode cX5_run 0 = .ok (.iload_n 1, 1) := by decide +kernel
theorem dX5_run_1 : decode cX5_run 1 = .ok (.invokestatic 146, 3) := by decide +kernel
theorem dX5_run_4 : decode cX5_run 4 = .ok (.ifCond .ne 13, 3) := by decide +kernel
theorem dX5_run_7 : decode cX5_run 7 = .ok (.new 53, 3) := by decide +kernel
theorem dX5_run_10 : decode cX5_run 10 = .ok (.dup, 1) := by decide +kernel
theorem dX5_run_11 : decode cX5_run 11 = .ok (.ldc 149, 2) := by decide +kernel
theorem dX5_run_13 : decode cX5_run 13 = .ok (.invokespecial 57, 3) := by decide +kernel
theorem dX5_run_16 : decode cX5_run 16 = .ok (.athrow, 1) := by decide +kernel
theorem dX5_run_17 : decode cX5_run 17 = .ok (.aload_n 0, 1) := by decide +kernel
theorem dX5_run_18 : decode cX5_run 18 = .ok (.invokevirtual 60, 3) := by decide +kernel
theorem dX5_run_21 : decode cX5_run 21 = .ok (.aload_n 0, 1) := by decide +kernel
theorem dX5_run_22 : decode cX5_run 22 = .ok (.getfield 29, 3) := by decide +kernel
theorem dX5_run_25 : decode cX5_run 25 = .ok (.iload_n 1, 1) := by decide +kernel
theorem dX5_run_26 : decode cX5_run 26 = .ok (.invokevirtual 151, 3) := by decide +kernel
theorem dX5_run_29 : decode cX5_run 29 = .ok (.aload_n 0, 1) := by decide +kernel
theorem dX5_run_30 : decode cX5_run 30 = .ok (.getfield 29, 3) := by decide +kernel
theorem dX5_run_33 : decode cX5_run 33 = .ok (.invokevirtual 154, 3) := by decide +kernel
theorem dX5_run_36 : decode cX5_run 36 = .ok (.ireturn, 1) := by decide +kernel
theorem dX5_poke_0 : decode cX5_poke 0 = .ok (.iload_n 1, 1) := by decide +kernel
theorem dX5_poke_1 : decode cX5_poke 1 = .ok (.invokestatic 158, 3) := by decide +kernel
theorem dX5_poke_4 : decode cX5_poke 4 = .ok (.ifCond .ne 13, 3) := by decide +kernel
theorem dX5_poke_7 : decode cX5_poke 7 = .ok (.new 97, 3) := by decide +kernel
theorem dX5_poke_10 : decode cX5_poke 10 = .ok (.dup, 1) := by decide +kernel
theorem dX5_poke_11 : decode cX5_poke 11 = .ok (.ldc 161, 2) := by decide +kernel
theorem dX5_poke_13 : decode cX5_poke 13 = .ok (.invokespecial 101, 3) := by decide +kernel
theorem dX5_poke_16 : decode cX5_poke 16 = .ok (.athrow, 1) := by decide +kernel
theorem dX5_poke_17 : decode cX5_poke 17 = .ok (.aload_n 0, 1) := by decide +kernel
theorem dX5_poke_18 : decode cX5_poke 18 = .ok (.invokevirtual 60, 3) := by decide +kernel
theorem dX5_poke_21 : decode cX5_poke 21 = .ok (.aload_n 0, 1) := by decide +kernel
theorem dX5_poke_22 : decode cX5_poke 22 = .ok (.getfield 29, 3) := by decide +kernel
theorem dX5_poke_25 : decode cX5_poke 25 = .ok (.iload_n 1, 1) := by decide +kernel
theorem dX5_poke_26 : decode cX5_poke 26 = .ok (.iload_n 2, 1) := by decide +kernel
theorem dX5_poke_27 : decode cX5_poke 27 = .ok (.invokevirtual 163, 3) := by decide +kernel
theorem dX5_poke_30 : decode cX5_poke 30 = .ok (.ireturn, 1) := by decide +kernel
theorem dX5_state_0 : decode cX5_state 0 = .ok (.aload_n 0, 1) := by decide +kernel
theorem dX5_state_1 : decode cX5_state 1 = .ok (.getfield 29, 3) := by decide +kernel
theorem dX5_state_4 : decode cX5_state 4 = .ok (.iload_n 1, 1) := by decide +kernel
theorem dX5_state_5 : decode cX5_state 5 = .ok (.invokevirtual 94, 3) := by decide +kernel
theorem dX5_state_8 : decode cX5_state 8 = .ok (.ifCond .eq 10, 3) := by decide +kernel
theorem dX5_state_11 : decode cX5_state 11 = .ok (.iload_n 2, 1) := by decide +kernel
theorem dX5_state_12 : decode cX5_state 12 = .ok (.invokestatic 158, 3) := by decide +kernel
theorem dX5_state_15 : decode cX5_state 15 = .ok (.ifCond .ne 13, 3) := by decide +kernel
theorem dX5_state_18 : decode cX5_state 18 = .ok (.new 97, 3) := by decide +kernel
theorem dX5_state_21 : decode cX5_state 21 = .ok (.dup, 1) := by decide +kernel
theorem dX5_state_22 : decode cX5_state 22 = .ok (.ldc 167, 2) := by decide +kernel
theorem dX5_state_24 : decode cX5_state 24 = .ok (.invokespecial 101, 3) := by decide +kernel
theorem dX5_state_27 : decode cX5_state 27 = .ok (.athrow, 1) := by decide +kernel
theorem dX5_state_28 : decode cX5_state 28 = .ok (.aload_n 0, 1) := by decide +kernel
theorem dX5_state_29 : decode cX5_state 29 = .ok (.getfield 29, 3) := by decide +kernel
theorem dX5_state_32 : decode cX5_state 32 = .ok (.getfield 102, 3) := by decide +kernel
theorem dX5_state_35 : decode cX5_state 35 = .ok (.iload_n 1, 1) := by decide +kernel
theorem dX5_state_36 : decode cX5_state 36 = .ok (.aaload, 1) := by decide +kernel
theorem dX5_state_37 : decode cX5_state 37 = .ok (.getfield 169, 3) := by decide +kernel
theorem dX5_state_40 : decode cX5_state 40 = .ok (.iload_n 2, 1) := by decide +kernel
theorem dX5_state_41 : decode cX5_state 41 = .ok (.iaload, 1) := by decide +kernel
theorem dX5_state_42 : decode cX5_state 42 = .ok (.ireturn, 1) := by decide +kernel
theorem dX5_cached_0 : decode cX5_cached 0 = .ok (.aload_n 0, 1) := by decide +kernel
theorem dX5_cached_1 : decode cX5_cached 1 = .ok (.getfield 29, 3) := by decide +kernel
theorem dX5_cached_4 : decode cX5_cached 4 = .ok (.iload_n 1, 1) := by decide +kernel
theorem dX5_cached_5 : decode cX5_cached 5 = .ok (.invokevirtual 94, 3) := by decide +kernel
theorem dX5_cached_8 : decode cX5_cached 8 = .ok (.ifCond .eq 10, 3) := by decide +kernel
theorem dX5_cached_11 : decode cX5_cached 11 = .ok (.iload_n 2, 1) := by decide +kernel
theorem dX5_cached_12 : decode cX5_cached 12 = .ok (.invokestatic 158, 3) := by decide +kernel
theorem dX5_cached_15 : decode cX5_cached 15 = .ok (.ifCond .ne 13, 3) := by decide +kernel
theorem dX5_cached_18 : decode cX5_cached 18 = .ok (.new 97, 3) := by decide +kernel
theorem dX5_cached_21 : decode cX5_cached 21 = .ok (.dup, 1) := by decide +kernel
theorem dX5_cached_22 : decode cX5_cached 22 = .ok (.ldc 167, 2) := by decide +kernel
theorem dX5_cached_24 : decode cX5_cached 24 = .ok (.invokespecial 101, 3) := by decide +kernel
theorem dX5_cached_27 : decode cX5_cached 27 = .ok (.athrow, 1) := by decide +kernel
theorem dX5_cached_28 : decode cX5_cached 28 = .ok (.aload_n 0, 1) := by decide +kernel
theorem dX5_cached_29 : decode cX5_cached 29 = .ok (.getfield 29, 3) := by decide +kernel
theorem dX5_cached_32 : decode cX5_cached 32 = .ok (.getfield 102, 3) := by decide +kernel
theorem dX5_cached_35 : decode cX5_cached 35 = .ok (.iload_n 1, 1) := by decide +kernel
theorem dX5_cached_36 : decode cX5_cached 36 = .ok (.aaload, 1) := by decide +kernel
theorem dX5_cached_37 : decode cX5_cached 37 = .ok (.astore_n 3, 1) := by decide +kernel
theorem dX5_cached_38 : decode cX5_cached 38 = .ok (.aload_n 3, 1) := by decide +kernel
theorem dX5_cached_39 : decode cX5_cached 39 = .ok (.getfield 169, 3) := by decide +kernel
theorem dX5_cached_42 : decode cX5_cached 42 = .ok (.iload_n 2, 1) := by decide +kernel
theorem dX5_cached_43 : decode cX5_cached 43 = .ok (.iaload, 1) := by decide +kernel
theorem dX5_cached_44 : decode cX5_cached 44 = .ok (.ifCond .ne 7, 3) := by decide +kernel
theorem dX5_cached_47 : decode cX5_cached 47 = .ok (.iconst 0, 1) := by decide +kernel
theorem dX5_cached_48 : decode cX5_cached 48 = .ok (.goto 9, 3) := by decide +kernel
theorem dX5_cached_51 : decode cX5_cached 51 = .ok (.aload_n 3, 1) := by decide +kernel
theorem dX5_cached_52 : decode cX5_cached 52 = .ok (.getfield 172, 3) := by decide +kernel
theorem dX5_cached_55 : decode cX5_cached 55 = .ok (.iload_n 2, 1) := by decide +kernel
theorem dX5_cached_56 : decode cX5_cached 56 = .ok (.iaload, 1) := by decide +kernel
theorem dX5_cached_57 : decode cX5_cached 57 = .ok (.ireturn, 1) := by decide +kernel
theorem dX5_memory_0 : decode cX5_memory 0 = .ok (.iload_n 1, 1) := by decide +kernel
theorem dX5_memory_1 : decode cX5_memory 1 = .ok (.invokestatic 158, 3) := by decide +kernel
theorem dX5_memory_4 : decode cX5_memory 4 = .ok (.ifCond .ne 13, 3) := by decide +kernel
theorem dX5_memory_7 : decode cX5_memory 7 = .ok (.new 97, 3) := by decide +kernel
theorem dX5_memory_10 : decode cX5_memory 10 = .ok (.dup, 1) := by decide +kernel
theorem dX5_memory_11 : decode cX5_memory 11 = .ok (.ldc 161, 2) := by decide +kernel
theorem dX5_memory_13 : decode cX5_memory 13 = .ok (.invokespecial 101, 3) := by decide +kernel
theorem dX5_memory_16 : decode cX5_memory 16 = .ok (.athrow, 1) := by decide +kernel
theorem dX5_memory_17 : decode cX5_memory 17 = .ok (.iload_n 2, 1) := by decide +kernel
theorem dX5_memory_18 : decode cX5_memory 18 = .ok (.ifCond .eq 14, 3) := by decide +kernel
theorem dX5_memory_21 : decode cX5_memory 21 = .ok (.aload_n 0, 1) := by decide +kernel
theorem dX5_memory_22 : decode cX5_memory 22 = .ok (.getfield 29, 3) := by decide +kernel
theorem dX5_memory_25 : decode cX5_memory 25 = .ok (.iload_n 1, 1) := by decide +kernel
theorem dX5_memory_26 : decode cX5_memory 26 = .ok (.invokevirtual 175, 3) := by decide +kernel
theorem dX5_memory_29 : decode cX5_memory 29 = .ok (.goto 12, 3) := by decide +kernel
theorem dX5_memory_32 : decode cX5_memory 32 = .ok (.aload_n 0, 1) := by decide +kernel
theorem dX5_memory_33 : decode cX5_memory 33 = .ok (.getfield 29, 3) := by decide +kernel
theorem dX5_memory_36 : decode cX5_memory 36 = .ok (.getfield 178, 3) := by decide +kernel
theorem dX5_memory_39 : decode cX5_memory 39 = .ok (.iload_n 1, 1) := by decide +kernel
theorem dX5_memory_40 : decode cX5_memory 40 = .ok (.iaload, 1) := by decide +kernel
theorem dX5_memory_41 : decode cX5_memory 41 = .ok (.ireturn, 1) := by decide +kernel
theorem dX5_set_0 : decode cX5_set 0 = .ok (.aload_n 0, 1) := by decide +kernel
theorem dX5_set_1 : decode cX5_set 1 = .ok (.getfield 29, 3) := by decide +kernel
theorem dX5_set_4 : decode cX5_set 4 = .ok (.iload_n 1, 1) := by decide +kernel
theorem dX5_set_5 : decode cX5_set 5 = .ok (.invokevirtual 94, 3) := by decide +kernel
theorem dX5_set_8 : decode cX5_set 8 = .ok (.ifCond .ne 13, 3) := by decide +kernel
theorem dX5_set_11 : decode cX5_set 11 = .ok (.new 97, 3) := by decide +kernel
theorem dX5_set_14 : decode cX5_set 14 = .ok (.dup, 1) := by decide +kernel
theorem dX5_set_15 : decode cX5_set 15 = .ok (.ldc 99, 2) := by decide +kernel
theorem dX5_set_17 : decode cX5_set 17 = .ok (.invokespecial 101, 3) := by decide +kernel
theorem dX5_set_20 : decode cX5_set 20 = .ok (.athrow, 1) := by decide +kernel
theorem dX5_set_21 : decode cX5_set 21 = .ok (.iload_n 2, 1) := by decide +kernel
theorem dX5_set_22 : decode cX5_set 22 = .ok (.ifCond .eq 18, 3) := by decide +kernel
theorem dX5_set_25 : decode cX5_set 25 = .ok (.aload_n 0, 1) := by decide +kernel
theorem dX5_set_26 : decode cX5_set 26 = .ok (.getfield 29, 3) := by decide +kernel
theorem dX5_set_29 : decode cX5_set 29 = .ok (.getfield 102, 3) := by decide +kernel
theorem dX5_set_32 : decode cX5_set 32 = .ok (.iload_n 1, 1) := by decide +kernel
theorem dX5_set_33 : decode cX5_set 33 = .ok (.aaload, 1) := by decide +kernel
theorem dX5_set_34 : decode cX5_set 34 = .ok (.getfield 181, 3) := by decide +kernel
theorem dX5_set_37 : decode cX5_set 37 = .ok (.goto 15, 3) := by decide +kernel
theorem dX5_set_40 : decode cX5_set 40 = .ok (.aload_n 0, 1) := by decide +kernel
theorem dX5_set_41 : decode cX5_set 41 = .ok (.getfield 29, 3) := by decide +kernel
theorem dX5_set_44 : decode cX5_set 44 = .ok (.getfield 102, 3) := by decide +kernel
theorem dX5_set_47 : decode cX5_set 47 = .ok (.iload_n 1, 1) := by decide +kernel
theorem dX5_set_48 : decode cX5_set 48 = .ok (.aaload, 1) := by decide +kernel
theorem dX5_set_49 : decode cX5_set 49 = .ok (.getfield 184, 3) := by decide +kernel
theorem dX5_set_52 : decode cX5_set 52 = .ok (.ireturn, 1) := by decide +kernel
theorem dX5_core_0 : decode cX5_core 0 = .ok (.aload_n 0, 1) := by decide +kernel
theorem dX5_core_1 : decode cX5_core 1 = .ok (.getfield 29, 3) := by decide +kernel
theorem dX5_core_4 : decode cX5_core 4 = .ok (.iload_n 1, 1) := by decide +kernel
theorem dX5_core_5 : decode cX5_core 5 = .ok (.invokevirtual 94, 3) := by decide +kernel
theorem dX5_core_8 : decode cX5_core 8 = .ok (.ifCond .ne 13, 3) := by decide +kernel
theorem dX5_core_11 : decode cX5_core 11 = .ok (.new 97, 3) := by decide +kernel
theorem dX5_core_14 : decode cX5_core 14 = .ok (.dup, 1) := by decide +kernel
theorem dX5_core_15 : decode cX5_core 15 = .ok (.ldc 99, 2) := by decide +kernel
theorem dX5_core_17 : decode cX5_core 17 = .ok (.invokespecial 101, 3) := by decide +kernel
theorem dX5_core_20 : decode cX5_core 20 = .ok (.athrow, 1) := by decide +kernel
theorem dX5_core_21 : decode cX5_core 21 = .ok (.iload_n 2, 1) := by decide +kernel
theorem dX5_core_22 : decode cX5_core 22 = .ok (.ifCond .lt 9, 3) := by decide +kernel
theorem dX5_core_25 : decode cX5_core 25 = .ok (.iload_n 2, 1) := by decide +kernel
theorem dX5_core_26 : decode cX5_core 26 = .ok (.bipush 6, 2) := by decide +kernel
theorem dX5_core_28 : decode cX5_core 28 = .ok (.if_icmp .lt 13, 3) := by decide +kernel
theorem dX5_core_31 : decode cX5_core 31 = .ok (.new 53, 3) := by decide +kernel
theorem dX5_core_34 : decode cX5_core 34 = .ok (.dup, 1) := by decide +kernel
theorem dX5_core_35 : decode cX5_core 35 = .ok (.ldc 187, 2) := by decide +kernel
theorem dX5_core_37 : decode cX5_core 37 = .ok (.invokespecial 57, 3) := by decide +kernel
theorem dX5_core_40 : decode cX5_core 40 = .ok (.athrow, 1) := by decide +kernel
theorem dX5_core_41 : decode cX5_core 41 = .ok (.aload_n 0, 1) := by decide +kernel
theorem dX5_core_42 : decode cX5_core 42 = .ok (.getfield 29, 3) := by decide +kernel
theorem dX5_core_45 : decode cX5_core 45 = .ok (.getfield 102, 3) := by decide +kernel
theorem dX5_core_48 : decode cX5_core 48 = .ok (.iload_n 1, 1) := by decide +kernel
theorem dX5_core_49 : decode cX5_core 49 = .ok (.aaload, 1) := by decide +kernel
theorem dX5_core_50 : decode cX5_core 50 = .ok (.iload_n 2, 1) := by decide +kernel
theorem dX5_core_51 : decode cX5_core 51 = .ok (.invokevirtual 189, 3) := by decide +kernel
theorem dX5_core_54 : decode cX5_core 54 = .ok (.ireturn, 1) := by decide +kernel
theorem dX5_value_0 : decode cX5_value 0 = .ok (.iload_n 1, 1) := by decide +kernel
theorem dX5_value_1 : decode cX5_value 1 = .ok (.ifCond .lt 8, 3) := by decide +kernel
theorem dX5_value_4 : decode cX5_value 4 = .ok (.iload_n 1, 1) := by decide +kernel
theorem dX5_value_5 : decode cX5_value 5 = .ok (.iconst 5, 1) := by decide +kernel
theorem dX5_value_6 : decode cX5_value 6 = .ok (.if_icmp .lt 13, 3) := by decide +kernel
theorem dX5_value_9 : decode cX5_value 9 = .ok (.new 53, 3) := by decide +kernel
theorem dX5_value_12 : decode cX5_value 12 = .ok (.dup, 1) := by decide +kernel
theorem dX5_value_13 : decode cX5_value 13 = .ok (.ldc 187, 2) := by decide +kernel
theorem dX5_value_15 : decode cX5_value 15 = .ok (.invokespecial 57, 3) := by decide +kernel
theorem dX5_value_18 : decode cX5_value 18 = .ok (.athrow, 1) := by decide +kernel
theorem dX5_value_19 : decode cX5_value 19 = .ok (.aload_n 0, 1) := by decide +kernel
theorem dX5_value_20 : decode cX5_value 20 = .ok (.getfield 29, 3) := by decide +kernel
theorem dX5_value_23 : decode cX5_value 23 = .ok (.iload_n 1, 1) := by decide +kernel
theorem dX5_value_24 : decode cX5_value 24 = .ok (.invokevirtual 192, 3) := by decide +kernel
theorem dX5_value_27 : decode cX5_value 27 = .ok (.ireturn, 1) := by decide +kernel
theorem dX5_counter_0 : decode cX5_counter 0 = .ok (.iload_n 1, 1) := by decide +kernel
theorem dX5_counter_1 : decode cX5_counter 1 = .ok (.ifCond .lt 9, 3) := by decide +kernel
theorem dX5_counter_4 : decode cX5_counter 4 = .ok (.iload_n 1, 1) := by decide +kernel
theorem dX5_counter_5 : decode cX5_counter 5 = .ok (.bipush 8, 2) := by decide +kernel
theorem dX5_counter_7 : decode cX5_counter 7 = .ok (.if_icmp .lt 13, 3) := by decide +kernel
theorem dX5_counter_10 : decode cX5_counter 10 = .ok (.new 53, 3) := by decide +kernel
theorem dX5_counter_13 : decode cX5_counter 13 = .ok (.dup, 1) := by decide +kernel
theorem dX5_counter_14 : decode cX5_counter 14 = .ok (.ldc 187, 2) := by decide +kernel
theorem dX5_counter_16 : decode cX5_counter 16 = .ok (.invokespecial 57, 3) := by decide +kernel
theorem dX5_counter_19 : decode cX5_counter 19 = .ok (.athrow, 1) := by decide +kernel
theorem dX5_counter_20 : decode cX5_counter 20 = .ok (.aload_n 0, 1) := by decide +kernel
theorem dX5_counter_21 : decode cX5_counter 21 = .ok (.getfield 29, 3) := by decide +kernel
theorem dX5_counter_24 : decode cX5_counter 24 = .ok (.getfield 193, 3) := by decide +kernel
theorem dX5_counter_27 : decode cX5_counter 27 = .ok (.iload_n 1, 1) := by decide +kernel
theorem dX5_counter_28 : decode cX5_counter 28 = .ok (.iaload, 1) := by decide +kernel
theorem dX5_counter_29 : decode cX5_counter 29 = .ok (.ireturn, 1) := by decide +kernel
theorem dX5_commits_0 : decode cX5_commits 0 = .ok (.aload_n 0, 1) := by decide +kernel
theorem dX5_commits_1 : decode cX5_commits 1 = .ok (.getfield 29, 3) := by decide +kernel
theorem dX5_commits_4 : decode cX5_commits 4 = .ok (.getfield 63, 3) := by decide +kernel
theorem dX5_commits_7 : decode cX5_commits 7 = .ok (.getfield 67, 3) := by decide +kernel
theorem dX5_commits_10 : decode cX5_commits 10 = .ok (.ireturn, 1) := by decide +kernel
theorem dX5_commit_0 : decode cX5_commit 0 = .ok (.aload_n 0, 1) := by decide +kernel
theorem dX5_commit_1 : decode cX5_commit 1 = .ok (.getfield 29, 3) := by decide +kernel
theorem dX5_commit_4 : decode cX5_commit 4 = .ok (.getfield 63, 3) := by decide +kernel
theorem dX5_commit_7 : decode cX5_commit 7 = .ok (.iload_n 1, 1) := by decide +kernel
theorem dX5_commit_8 : decode cX5_commit 8 = .ok (.invokevirtual 196, 3) := by decide +kernel
theorem dX5_commit_11 : decode cX5_commit 11 = .ok (.ifCond .ne 13, 3) := by decide +kernel
theorem dX5_commit_14 : decode cX5_commit 14 = .ok (.new 97, 3) := by decide +kernel
theorem dX5_commit_17 : decode cX5_commit 17 = .ok (.dup, 1) := by decide +kernel
theorem dX5_commit_18 : decode cX5_commit 18 = .ok (.ldc 199, 2) := by decide +kernel
theorem dX5_commit_20 : decode cX5_commit 20 = .ok (.invokespecial 101, 3) := by decide +kernel
theorem dX5_commit_23 : decode cX5_commit 23 = .ok (.athrow, 1) := by decide +kernel
theorem dX5_commit_24 : decode cX5_commit 24 = .ok (.iload_n 2, 1) := by decide +kernel
theorem dX5_commit_25 : decode cX5_commit 25 = .ok (.ifCond .lt 8, 3) := by decide +kernel
theorem dX5_commit_28 : decode cX5_commit 28 = .ok (.iload_n 2, 1) := by decide +kernel
theorem dX5_commit_29 : decode cX5_commit 29 = .ok (.iconst 4, 1) := by decide +kernel
theorem dX5_commit_30 : decode cX5_commit 30 = .ok (.if_icmp .lt 13, 3) := by decide +kernel
theorem dX5_commit_33 : decode cX5_commit 33 = .ok (.new 53, 3) := by decide +kernel
theorem dX5_commit_36 : decode cX5_commit 36 = .ok (.dup, 1) := by decide +kernel
theorem dX5_commit_37 : decode cX5_commit 37 = .ok (.ldc 187, 2) := by decide +kernel
theorem dX5_commit_39 : decode cX5_commit 39 = .ok (.invokespecial 57, 3) := by decide +kernel
theorem dX5_commit_42 : decode cX5_commit 42 = .ok (.athrow, 1) := by decide +kernel
theorem dX5_commit_43 : decode cX5_commit 43 = .ok (.aload_n 0, 1) := by decide +kernel
theorem dX5_commit_44 : decode cX5_commit 44 = .ok (.getfield 29, 3) := by decide +kernel
theorem dX5_commit_47 : decode cX5_commit 47 = .ok (.getfield 63, 3) := by decide +kernel
theorem dX5_commit_50 : decode cX5_commit 50 = .ok (.iload_n 1, 1) := by decide +kernel
theorem dX5_commit_51 : decode cX5_commit 51 = .ok (.iload_n 2, 1) := by decide +kernel
theorem dX5_commit_52 : decode cX5_commit 52 = .ok (.invokevirtual 201, 3) := by decide +kernel
theorem dX5_commit_55 : decode cX5_commit 55 = .ok (.ireturn, 1) := by decide +kernel
theorem dX5_commitValue_0 : decode cX5_commitValue 0 = .ok (.aload_n 0, 1) := by decide +kernel
theorem dX5_commitValue_1 : decode cX5_commitValue 1 = .ok (.getfield 29, 3) := by decide +kernel
theorem dX5_commitValue_4 : decode cX5_commitValue 4 = .ok (.getfield 63, 3) := by decide +kernel
theorem dX5_commitValue_7 : decode cX5_commitValue 7 = .ok (.iload_n 1, 1) := by decide +kernel
theorem dX5_commitValue_8 : decode cX5_commitValue 8 = .ok (.invokevirtual 196, 3) := by decide +kernel
theorem dX5_commitValue_11 : decode cX5_commitValue 11 = .ok (.ifCond .eq 10, 3) := by decide +kernel
theorem dX5_commitValue_14 : decode cX5_commitValue 14 = .ok (.iload_n 2, 1) := by decide +kernel
theorem dX5_commitValue_15 : decode cX5_commitValue 15 = .ok (.invokestatic 158, 3) := by decide +kernel
theorem dX5_commitValue_18 : decode cX5_commitValue 18 = .ok (.ifCond .ne 13, 3) := by decide +kernel
theorem dX5_commitValue_21 : decode cX5_commitValue 21 = .ok (.new 97, 3) := by decide +kernel
theorem dX5_commitValue_24 : decode cX5_commitValue 24 = .ok (.dup, 1) := by decide +kernel
theorem dX5_commitValue_25 : decode cX5_commitValue 25 = .ok (.ldc 203, 2) := by decide +kernel
theorem dX5_commitValue_27 : decode cX5_commitValue 27 = .ok (.invokespecial 101, 3) := by decide +kernel
theorem dX5_commitValue_30 : decode cX5_commitValue 30 = .ok (.athrow, 1) := by decide +kernel
theorem dX5_commitValue_31 : decode cX5_commitValue 31 = .ok (.aload_n 0, 1) := by decide +kernel
theorem dX5_commitValue_32 : decode cX5_commitValue 32 = .ok (.getfield 29, 3) := by decide +kernel
theorem dX5_commitValue_35 : decode cX5_commitValue 35 = .ok (.getfield 63, 3) := by decide +kernel
theorem dX5_commitValue_38 : decode cX5_commitValue 38 = .ok (.iload_n 1, 1) := by decide +kernel
theorem dX5_commitValue_39 : decode cX5_commitValue 39 = .ok (.iload_n 2, 1) := by decide +kernel
theorem dX5_commitValue_40 : decode cX5_commitValue 40 = .ok (.iload_n 3, 1) := by decide +kernel
theorem dX5_commitValue_41 : decode cX5_commitValue 41 = .ok (.invokevirtual 205, 3) := by decide +kernel
theorem dX5_commitValue_44 : decode cX5_commitValue 44 = .ok (.ireturn, 1) := by decide +kernel
theorem dX5_serializable_0 : decode cX5_serializable 0 = .ok (.aload_n 0, 1) := by decide +kernel
theorem dX5_serializable_1 : decode cX5_serializable 1 = .ok (.getfield 29, 3) := by decide +kernel
theorem dX5_serializable_4 : decode cX5_serializable 4 = .ok (.getfield 63, 3) := by decide +kernel
theorem dX5_serializable_7 : decode cX5_serializable 7 = .ok (.aload_n 0, 1) := by decide +kernel
theorem dX5_serializable_8 : decode cX5_serializable 8 = .ok (.getfield 46, 3) := by decide +kernel
theorem dX5_serializable_11 : decode cX5_serializable 11 = .ok (.invokevirtual 209, 3) := by decide +kernel
theorem dX5_serializable_14 : decode cX5_serializable 14 = .ok (.ireturn, 1) := by decide +kernel
theorem dX5_finish_0 : decode cX5_finish 0 = .ok (.iload_n 1, 1) := by decide +kernel
theorem dX5_finish_1 : decode cX5_finish 1 = .ok (.invokestatic 49, 3) := by decide +kernel
theorem dX5_finish_4 : decode cX5_finish 4 = .ok (.ifCond .ne 13, 3) := by decide +kernel
theorem dX5_finish_7 : decode cX5_finish 7 = .ok (.new 53, 3) := by decide +kernel
theorem dX5_finish_10 : decode cX5_finish 10 = .ok (.dup, 1) := by decide +kernel
theorem dX5_finish_11 : decode cX5_finish 11 = .ok (.ldc 76, 2) := by decide +kernel
theorem dX5_finish_13 : decode cX5_finish 13 = .ok (.invokespecial 57, 3) := by decide +kernel
theorem dX5_finish_16 : decode cX5_finish 16 = .ok (.athrow, 1) := by decide +kernel
theorem dX5_finish_17 : decode cX5_finish 17 = .ok (.aload_n 0, 1) := by decide +kernel
theorem dX5_finish_18 : decode cX5_finish 18 = .ok (.iload_n 1, 1) := by decide +kernel
theorem dX5_finish_19 : decode cX5_finish 19 = .ok (.invokevirtual 213, 3) := by decide +kernel
theorem dX5_finish_22 : decode cX5_finish 22 = .ok (.aload_n 0, 1) := by decide +kernel
theorem dX5_finish_23 : decode cX5_finish 23 = .ok (.getfield 33, 3) := by decide +kernel
theorem dX5_finish_26 : decode cX5_finish 26 = .ok (.invokevirtual 216, 3) := by decide +kernel
theorem dX5_finish_29 : decode cX5_finish 29 = .ok (.ireturn, 1) := by decide +kernel
theorem dX5_abortsWith_0 : decode cX5_abortsWith 0 = .ok (.iload_n 1, 1) := by decide +kernel
theorem dX5_abortsWith_1 : decode cX5_abortsWith 1 = .ok (.invokestatic 49, 3) := by decide +kernel
theorem dX5_abortsWith_4 : decode cX5_abortsWith 4 = .ok (.ifCond .eq 10, 3) := by decide +kernel
theorem dX5_abortsWith_7 : decode cX5_abortsWith 7 = .ok (.iload_n 2, 1) := by decide +kernel
theorem dX5_abortsWith_8 : decode cX5_abortsWith 8 = .ok (.invokestatic 146, 3) := by decide +kernel
theorem dX5_abortsWith_11 : decode cX5_abortsWith 11 = .ok (.ifCond .ne 13, 3) := by decide +kernel
theorem dX5_abortsWith_14 : decode cX5_abortsWith 14 = .ok (.new 53, 3) := by decide +kernel
theorem dX5_abortsWith_17 : decode cX5_abortsWith 17 = .ok (.dup, 1) := by decide +kernel
theorem dX5_abortsWith_18 : decode cX5_abortsWith 18 = .ok (.ldc 55, 2) := by decide +kernel
theorem dX5_abortsWith_20 : decode cX5_abortsWith 20 = .ok (.invokespecial 57, 3) := by decide +kernel
theorem dX5_abortsWith_23 : decode cX5_abortsWith 23 = .ok (.athrow, 1) := by decide +kernel
theorem dX5_abortsWith_24 : decode cX5_abortsWith 24 = .ok (.aload_n 0, 1) := by decide +kernel
theorem dX5_abortsWith_25 : decode cX5_abortsWith 25 = .ok (.iload_n 1, 1) := by decide +kernel
theorem dX5_abortsWith_26 : decode cX5_abortsWith 26 = .ok (.invokevirtual 213, 3) := by decide +kernel
theorem dX5_abortsWith_29 : decode cX5_abortsWith 29 = .ok (.aload_n 0, 1) := by decide +kernel
theorem dX5_abortsWith_30 : decode cX5_abortsWith 30 = .ok (.getfield 33, 3) := by decide +kernel
theorem dX5_abortsWith_33 : decode cX5_abortsWith 33 = .ok (.invokevirtual 219, 3) := by decide +kernel
theorem dX5_abortsWith_36 : decode cX5_abortsWith 36 = .ok (.istore_n 3, 1) := by decide +kernel
theorem dX5_abortsWith_37 : decode cX5_abortsWith 37 = .ok (.aload_n 0, 1) := by decide +kernel
theorem dX5_abortsWith_38 : decode cX5_abortsWith 38 = .ok (.getfield 33, 3) := by decide +kernel
theorem dX5_abortsWith_41 : decode cX5_abortsWith 41 = .ok (.iload_n 2, 1) := by decide +kernel
theorem dX5_abortsWith_42 : decode cX5_abortsWith 42 = .ok (.invokevirtual 151, 3) := by decide +kernel
theorem dX5_abortsWith_45 : decode cX5_abortsWith 45 = .ok (.aload_n 0, 1) := by decide +kernel
theorem dX5_abortsWith_46 : decode cX5_abortsWith 46 = .ok (.getfield 33, 3) := by decide +kernel
theorem dX5_abortsWith_49 : decode cX5_abortsWith 49 = .ok (.invokevirtual 219, 3) := by decide +kernel
theorem dX5_abortsWith_52 : decode cX5_abortsWith 52 = .ok (.iload_n 3, 1) := by decide +kernel
theorem dX5_abortsWith_53 : decode cX5_abortsWith 53 = .ok (.isub, 1) := by decide +kernel
theorem dX5_abortsWith_54 : decode cX5_abortsWith 54 = .ok (.ireturn, 1) := by decide +kernel
theorem dX5_bestPolicy_0 : decode cX5_bestPolicy 0 = .ok (.iconst (-1), 1) := by decide +kernel
theorem dX5_bestPolicy_1 : decode cX5_bestPolicy 1 = .ok (.istore_n 1, 1) := by decide +kernel
theorem dX5_bestPolicy_2 : decode cX5_bestPolicy 2 = .ok (.iconst 0, 1) := by decide +kernel
theorem dX5_bestPolicy_3 : decode cX5_bestPolicy 3 = .ok (.istore_n 2, 1) := by decide +kernel
theorem dX5_bestPolicy_4 : decode cX5_bestPolicy 4 = .ok (.iconst 0, 1) := by decide +kernel
theorem dX5_bestPolicy_5 : decode cX5_bestPolicy 5 = .ok (.istore_n 3, 1) := by decide +kernel
theorem dX5_bestPolicy_6 : decode cX5_bestPolicy 6 = .ok (.iload_n 3, 1) := by decide +kernel
theorem dX5_bestPolicy_7 : decode cX5_bestPolicy 7 = .ok (.iconst 3, 1) := by decide +kernel
theorem dX5_bestPolicy_8 : decode cX5_bestPolicy 8 = .ok (.if_icmp .ge 45, 3) := by decide +kernel
theorem dX5_bestPolicy_11 : decode cX5_bestPolicy 11 = .ok (.aload_n 0, 1) := by decide +kernel
theorem dX5_bestPolicy_12 : decode cX5_bestPolicy 12 = .ok (.iload_n 3, 1) := by decide +kernel
theorem dX5_bestPolicy_13 : decode cX5_bestPolicy 13 = .ok (.invokevirtual 213, 3) := by decide +kernel
theorem dX5_bestPolicy_16 : decode cX5_bestPolicy 16 = .ok (.aload_n 0, 1) := by decide +kernel
theorem dX5_bestPolicy_17 : decode cX5_bestPolicy 17 = .ok (.getfield 33, 3) := by decide +kernel
theorem dX5_bestPolicy_20 : decode cX5_bestPolicy 20 = .ok (.invokevirtual 216, 3) := by decide +kernel
theorem dX5_bestPolicy_23 : decode cX5_bestPolicy 23 = .ok (.istore 4, 2) := by decide +kernel
theorem dX5_bestPolicy_25 : decode cX5_bestPolicy 25 = .ok (.iload 4, 2) := by decide +kernel
theorem dX5_bestPolicy_27 : decode cX5_bestPolicy 27 = .ok (.iconst (-1), 1) := by decide +kernel
theorem dX5_bestPolicy_28 : decode cX5_bestPolicy 28 = .ok (.if_icmp .eq 19, 3) := by decide +kernel
theorem dX5_bestPolicy_31 : decode cX5_bestPolicy 31 = .ok (.iload_n 1, 1) := by decide +kernel
theorem dX5_bestPolicy_32 : decode cX5_bestPolicy 32 = .ok (.iconst (-1), 1) := by decide +kernel
theorem dX5_bestPolicy_33 : decode cX5_bestPolicy 33 = .ok (.if_icmp .eq 9, 3) := by decide +kernel
theorem dX5_bestPolicy_36 : decode cX5_bestPolicy 36 = .ok (.iload 4, 2) := by decide +kernel
theorem dX5_bestPolicy_38 : decode cX5_bestPolicy 38 = .ok (.iload_n 2, 1) := by decide +kernel
theorem dX5_bestPolicy_39 : decode cX5_bestPolicy 39 = .ok (.if_icmp .ge 8, 3) := by decide +kernel
theorem dX5_bestPolicy_42 : decode cX5_bestPolicy 42 = .ok (.iload_n 3, 1) := by decide +kernel
theorem dX5_bestPolicy_43 : decode cX5_bestPolicy 43 = .ok (.istore_n 1, 1) := by decide +kernel
theorem dX5_bestPolicy_44 : decode cX5_bestPolicy 44 = .ok (.iload 4, 2) := by decide +kernel
theorem dX5_bestPolicy_46 : decode cX5_bestPolicy 46 = .ok (.istore_n 2, 1) := by decide +kernel
theorem dX5_bestPolicy_47 : decode cX5_bestPolicy 47 = .ok (.iinc 3 1, 3) := by decide +kernel
theorem dX5_bestPolicy_50 : decode cX5_bestPolicy 50 = .ok (.goto (-44), 3) := by decide +kernel
theorem dX5_bestPolicy_53 : decode cX5_bestPolicy 53 = .ok (.iload_n 1, 1) := by decide +kernel
theorem dX5_bestPolicy_54 : decode cX5_bestPolicy 54 = .ok (.ireturn, 1) := by decide +kernel
theorem dX5_undo_0 : decode cX5_undo 0 = .ok (.aload_n 0, 1) := by decide +kernel
theorem dX5_undo_1 : decode cX5_undo 1 = .ok (.getfield 43, 3) := by decide +kernel
theorem dX5_undo_4 : decode cX5_undo 4 = .ok (.ifCond .gt 13, 3) := by decide +kernel
theorem dX5_undo_7 : decode cX5_undo 7 = .ok (.new 89, 3) := by decide +kernel
theorem dX5_undo_10 : decode cX5_undo 10 = .ok (.dup, 1) := by decide +kernel
theorem dX5_undo_11 : decode cX5_undo 11 = .ok (.ldc 222, 2) := by decide +kernel
theorem dX5_undo_13 : decode cX5_undo 13 = .ok (.invokespecial 93, 3) := by decide +kernel
theorem dX5_undo_16 : decode cX5_undo 16 = .ok (.athrow, 1) := by decide +kernel
theorem dX5_undo_17 : decode cX5_undo 17 = .ok (.aload_n 0, 1) := by decide +kernel
theorem dX5_undo_18 : decode cX5_undo 18 = .ok (.dup, 1) := by decide +kernel
theorem dX5_undo_19 : decode cX5_undo 19 = .ok (.getfield 43, 3) := by decide +kernel
theorem dX5_undo_22 : decode cX5_undo 22 = .ok (.iconst 1, 1) := by decide +kernel
theorem dX5_undo_23 : decode cX5_undo 23 = .ok (.isub, 1) := by decide +kernel
theorem dX5_undo_24 : decode cX5_undo 24 = .ok (.putfield 43, 3) := by decide +kernel
theorem dX5_undo_27 : decode cX5_undo 27 = .ok (.aload_n 0, 1) := by decide +kernel
theorem dX5_undo_28 : decode cX5_undo 28 = .ok (.getfield 29, 3) := by decide +kernel
theorem dX5_undo_31 : decode cX5_undo 31 = .ok (.aload_n 0, 1) := by decide +kernel
theorem dX5_undo_32 : decode cX5_undo 32 = .ok (.getfield 36, 3) := by decide +kernel
theorem dX5_undo_35 : decode cX5_undo 35 = .ok (.aload_n 0, 1) := by decide +kernel
theorem dX5_undo_36 : decode cX5_undo 36 = .ok (.getfield 40, 3) := by decide +kernel
theorem dX5_undo_39 : decode cX5_undo 39 = .ok (.aload_n 0, 1) := by decide +kernel
theorem dX5_undo_40 : decode cX5_undo 40 = .ok (.getfield 43, 3) := by decide +kernel
theorem dX5_undo_43 : decode cX5_undo 43 = .ok (.iadd, 1) := by decide +kernel
theorem dX5_undo_44 : decode cX5_undo 44 = .ok (.iconst 4, 1) := by decide +kernel
theorem dX5_undo_45 : decode cX5_undo 45 = .ok (.irem, 1) := by decide +kernel
theorem dX5_undo_46 : decode cX5_undo 46 = .ok (.aaload, 1) := by decide +kernel
theorem dX5_undo_47 : decode cX5_undo 47 = .ok (.invokevirtual 224, 3) := by decide +kernel
theorem dX5_undo_50 : decode cX5_undo 50 = .ok (.aload_n 0, 1) := by decide +kernel
theorem dX5_undo_51 : decode cX5_undo 51 = .ok (.getfield 43, 3) := by decide +kernel
theorem dX5_undo_54 : decode cX5_undo 54 = .ok (.ireturn, 1) := by decide +kernel
theorem dX5_digest_0 : decode cX5_digest 0 = .ok (.ldc2_w 228, 3) := by decide +kernel
theorem dX5_digest_3 : decode cX5_digest 3 = .ok (.aload_n 0, 1) := by decide +kernel
theorem dX5_digest_4 : decode cX5_digest 4 = .ok (.getfield 13, 3) := by decide +kernel
theorem dX5_digest_7 : decode cX5_digest 7 = .ok (.invokestatic 230, 3) := by decide +kernel
theorem dX5_digest_10 : decode cX5_digest 10 = .ok (.lstore_n 1, 1) := by decide +kernel
theorem dX5_digest_11 : decode cX5_digest 11 = .ok (.iconst 0, 1) := by decide +kernel
theorem dX5_digest_12 : decode cX5_digest 12 = .ok (.istore_n 3, 1) := by decide +kernel
theorem dX5_digest_13 : decode cX5_digest 13 = .ok (.iload_n 3, 1) := by decide +kernel
theorem dX5_digest_14 : decode cX5_digest 14 = .ok (.iconst 5, 1) := by decide +kernel
theorem dX5_digest_15 : decode cX5_digest 15 = .ok (.if_icmp .ge 22, 3) := by decide +kernel
theorem dX5_digest_18 : decode cX5_digest 18 = .ok (.lload_n 1, 1) := by decide +kernel
theorem dX5_digest_19 : decode cX5_digest 19 = .ok (.aload_n 0, 1) := by decide +kernel
theorem dX5_digest_20 : decode cX5_digest 20 = .ok (.getfield 29, 3) := by decide +kernel
theorem dX5_digest_23 : decode cX5_digest 23 = .ok (.iload_n 3, 1) := by decide +kernel
theorem dX5_digest_24 : decode cX5_digest 24 = .ok (.invokevirtual 192, 3) := by decide +kernel
theorem dX5_digest_27 : decode cX5_digest 27 = .ok (.invokestatic 230, 3) := by decide +kernel
theorem dX5_digest_30 : decode cX5_digest 30 = .ok (.lstore_n 1, 1) := by decide +kernel
theorem dX5_digest_31 : decode cX5_digest 31 = .ok (.iinc 3 1, 3) := by decide +kernel
theorem dX5_digest_34 : decode cX5_digest 34 = .ok (.goto (-21), 3) := by decide +kernel
theorem dX5_digest_37 : decode cX5_digest 37 = .ok (.lload_n 1, 1) := by decide +kernel
theorem dX5_digest_38 : decode cX5_digest 38 = .ok (.aload_n 0, 1) := by decide +kernel
theorem dX5_digest_39 : decode cX5_digest 39 = .ok (.getfield 29, 3) := by decide +kernel
theorem dX5_digest_42 : decode cX5_digest 42 = .ok (.getfield 84, 3) := by decide +kernel
theorem dX5_digest_45 : decode cX5_digest 45 = .ok (.invokestatic 230, 3) := by decide +kernel
theorem dX5_digest_48 : decode cX5_digest 48 = .ok (.lstore_n 1, 1) := by decide +kernel
theorem dX5_digest_49 : decode cX5_digest 49 = .ok (.iconst 0, 1) := by decide +kernel
theorem dX5_digest_50 : decode cX5_digest 50 = .ok (.istore_n 3, 1) := by decide +kernel
theorem dX5_digest_51 : decode cX5_digest 51 = .ok (.iload_n 3, 1) := by decide +kernel
theorem dX5_digest_52 : decode cX5_digest 52 = .ok (.aload_n 0, 1) := by decide +kernel
theorem dX5_digest_53 : decode cX5_digest 53 = .ok (.getfield 29, 3) := by decide +kernel
theorem dX5_digest_56 : decode cX5_digest 56 = .ok (.getfield 234, 3) := by decide +kernel
theorem dX5_digest_59 : decode cX5_digest 59 = .ok (.if_icmp .ge 16, 3) := by decide +kernel
theorem dX5_digest_62 : decode cX5_digest 62 = .ok (.aload_n 0, 1) := by decide +kernel
theorem dX5_digest_63 : decode cX5_digest 63 = .ok (.lload_n 1, 1) := by decide +kernel
theorem dX5_digest_64 : decode cX5_digest 64 = .ok (.iload_n 3, 1) := by decide +kernel
theorem dX5_digest_65 : decode cX5_digest 65 = .ok (.invokevirtual 237, 3) := by decide +kernel
theorem dX5_digest_68 : decode cX5_digest 68 = .ok (.lstore_n 1, 1) := by decide +kernel
theorem dX5_digest_69 : decode cX5_digest 69 = .ok (.iinc 3 1, 3) := by decide +kernel
theorem dX5_digest_72 : decode cX5_digest 72 = .ok (.goto (-21), 3) := by decide +kernel
theorem dX5_digest_75 : decode cX5_digest 75 = .ok (.iconst 0, 1) := by decide +kernel
theorem dX5_digest_76 : decode cX5_digest 76 = .ok (.istore_n 3, 1) := by decide +kernel
theorem dX5_digest_77 : decode cX5_digest 77 = .ok (.iload_n 3, 1) := by decide +kernel
theorem dX5_digest_78 : decode cX5_digest 78 = .ok (.bipush 8, 2) := by decide +kernel
theorem dX5_digest_80 : decode cX5_digest 80 = .ok (.if_icmp .ge 20, 3) := by decide +kernel
theorem dX5_digest_83 : decode cX5_digest 83 = .ok (.lload_n 1, 1) := by decide +kernel
theorem dX5_digest_84 : decode cX5_digest 84 = .ok (.aload_n 0, 1) := by decide +kernel
theorem dX5_digest_85 : decode cX5_digest 85 = .ok (.iload_n 3, 1) := by decide +kernel
theorem dX5_digest_86 : decode cX5_digest 86 = .ok (.iconst 0, 1) := by decide +kernel
theorem dX5_digest_87 : decode cX5_digest 87 = .ok (.invokevirtual 240, 3) := by decide +kernel
theorem dX5_digest_90 : decode cX5_digest 90 = .ok (.invokestatic 230, 3) := by decide +kernel
theorem dX5_digest_93 : decode cX5_digest 93 = .ok (.lstore_n 1, 1) := by decide +kernel
theorem dX5_digest_94 : decode cX5_digest 94 = .ok (.iinc 3 1, 3) := by decide +kernel
theorem dX5_digest_97 : decode cX5_digest 97 = .ok (.goto (-20), 3) := by decide +kernel
theorem dX5_digest_100 : decode cX5_digest 100 = .ok (.iconst 0, 1) := by decide +kernel
theorem dX5_digest_101 : decode cX5_digest 101 = .ok (.istore_n 3, 1) := by decide +kernel
theorem dX5_digest_102 : decode cX5_digest 102 = .ok (.iload_n 3, 1) := by decide +kernel
theorem dX5_digest_103 : decode cX5_digest 103 = .ok (.bipush 8, 2) := by decide +kernel
theorem dX5_digest_105 : decode cX5_digest 105 = .ok (.if_icmp .ge 20, 3) := by decide +kernel
theorem dX5_digest_108 : decode cX5_digest 108 = .ok (.lload_n 1, 1) := by decide +kernel
theorem dX5_digest_109 : decode cX5_digest 109 = .ok (.aload_n 0, 1) := by decide +kernel
theorem dX5_digest_110 : decode cX5_digest 110 = .ok (.iload_n 3, 1) := by decide +kernel
theorem dX5_digest_111 : decode cX5_digest 111 = .ok (.iconst 1, 1) := by decide +kernel
theorem dX5_digest_112 : decode cX5_digest 112 = .ok (.invokevirtual 240, 3) := by decide +kernel
theorem dX5_digest_115 : decode cX5_digest 115 = .ok (.invokestatic 230, 3) := by decide +kernel
theorem dX5_digest_118 : decode cX5_digest 118 = .ok (.lstore_n 1, 1) := by decide +kernel
theorem dX5_digest_119 : decode cX5_digest 119 = .ok (.iinc 3 1, 3) := by decide +kernel
theorem dX5_digest_122 : decode cX5_digest 122 = .ok (.goto (-20), 3) := by decide +kernel
theorem dX5_digest_125 : decode cX5_digest 125 = .ok (.iconst 0, 1) := by decide +kernel
theorem dX5_digest_126 : decode cX5_digest 126 = .ok (.istore_n 3, 1) := by decide +kernel
theorem dX5_digest_127 : decode cX5_digest 127 = .ok (.iload_n 3, 1) := by decide +kernel
theorem dX5_digest_128 : decode cX5_digest 128 = .ok (.bipush 8, 2) := by decide +kernel
theorem dX5_digest_130 : decode cX5_digest 130 = .ok (.if_icmp .ge 23, 3) := by decide +kernel
theorem dX5_digest_133 : decode cX5_digest 133 = .ok (.lload_n 1, 1) := by decide +kernel
theorem dX5_digest_134 : decode cX5_digest 134 = .ok (.aload_n 0, 1) := by decide +kernel
theorem dX5_digest_135 : decode cX5_digest 135 = .ok (.getfield 29, 3) := by decide +kernel
theorem dX5_digest_138 : decode cX5_digest 138 = .ok (.getfield 193, 3) := by decide +kernel
theorem dX5_digest_141 : decode cX5_digest 141 = .ok (.iload_n 3, 1) := by decide +kernel
theorem dX5_digest_142 : decode cX5_digest 142 = .ok (.iaload, 1) := by decide +kernel
theorem dX5_digest_143 : decode cX5_digest 143 = .ok (.invokestatic 230, 3) := by decide +kernel
theorem dX5_digest_146 : decode cX5_digest 146 = .ok (.lstore_n 1, 1) := by decide +kernel
theorem dX5_digest_147 : decode cX5_digest 147 = .ok (.iinc 3 1, 3) := by decide +kernel
theorem dX5_digest_150 : decode cX5_digest 150 = .ok (.goto (-23), 3) := by decide +kernel
theorem dX5_digest_153 : decode cX5_digest 153 = .ok (.lload_n 1, 1) := by decide +kernel
theorem dX5_digest_154 : decode cX5_digest 154 = .ok (.aload_n 0, 1) := by decide +kernel
theorem dX5_digest_155 : decode cX5_digest 155 = .ok (.getfield 29, 3) := by decide +kernel
theorem dX5_digest_158 : decode cX5_digest 158 = .ok (.getfield 63, 3) := by decide +kernel
theorem dX5_digest_161 : decode cX5_digest 161 = .ok (.getfield 67, 3) := by decide +kernel
theorem dX5_digest_164 : decode cX5_digest 164 = .ok (.invokestatic 230, 3) := by decide +kernel
theorem dX5_digest_167 : decode cX5_digest 167 = .ok (.lstore_n 1, 1) := by decide +kernel
theorem dX5_digest_168 : decode cX5_digest 168 = .ok (.lload_n 1, 1) := by decide +kernel
theorem dX5_digest_169 : decode cX5_digest 169 = .ok (.aload_n 0, 1) := by decide +kernel
theorem dX5_digest_170 : decode cX5_digest 170 = .ok (.getfield 43, 3) := by decide +kernel
theorem dX5_digest_173 : decode cX5_digest 173 = .ok (.invokestatic 230, 3) := by decide +kernel
theorem dX5_digest_176 : decode cX5_digest 176 = .ok (.lreturn, 1) := by decide +kernel
theorem dX5_mixCore_0 : decode cX5_mixCore 0 = .ok (.lload_n 1, 1) := by decide +kernel
theorem dX5_mixCore_1 : decode cX5_mixCore 1 = .ok (.lstore 4, 2) := by decide +kernel
theorem dX5_mixCore_3 : decode cX5_mixCore 3 = .ok (.iconst 0, 1) := by decide +kernel
theorem dX5_mixCore_4 : decode cX5_mixCore 4 = .ok (.istore 6, 2) := by decide +kernel
theorem dX5_mixCore_6 : decode cX5_mixCore 6 = .ok (.iload 6, 2) := by decide +kernel
theorem dX5_mixCore_8 : decode cX5_mixCore 8 = .ok (.bipush 6, 2) := by decide +kernel
theorem dX5_mixCore_10 : decode cX5_mixCore 10 = .ok (.if_icmp .ge 23, 3) := by decide +kernel
theorem dX5_mixCore_13 : decode cX5_mixCore 13 = .ok (.lload 4, 2) := by decide +kernel
theorem dX5_mixCore_15 : decode cX5_mixCore 15 = .ok (.aload_n 0, 1) := by decide +kernel
theorem dX5_mixCore_16 : decode cX5_mixCore 16 = .ok (.iload_n 3, 1) := by decide +kernel
theorem dX5_mixCore_17 : decode cX5_mixCore 17 = .ok (.iload 6, 2) := by decide +kernel
theorem dX5_mixCore_19 : decode cX5_mixCore 19 = .ok (.invokevirtual 244, 3) := by decide +kernel
theorem dX5_mixCore_22 : decode cX5_mixCore 22 = .ok (.invokestatic 230, 3) := by decide +kernel
theorem dX5_mixCore_25 : decode cX5_mixCore 25 = .ok (.lstore 4, 2) := by decide +kernel
theorem dX5_mixCore_27 : decode cX5_mixCore 27 = .ok (.iinc 6 1, 3) := by decide +kernel
theorem dX5_mixCore_30 : decode cX5_mixCore 30 = .ok (.goto (-24), 3) := by decide +kernel
theorem dX5_mixCore_33 : decode cX5_mixCore 33 = .ok (.lload 4, 2) := by decide +kernel
theorem dX5_mixCore_35 : decode cX5_mixCore 35 = .ok (.aload_n 0, 1) := by decide +kernel
theorem dX5_mixCore_36 : decode cX5_mixCore 36 = .ok (.iload_n 3, 1) := by decide +kernel
theorem dX5_mixCore_37 : decode cX5_mixCore 37 = .ok (.iconst 0, 1) := by decide +kernel
theorem dX5_mixCore_38 : decode cX5_mixCore 38 = .ok (.invokevirtual 247, 3) := by decide +kernel
theorem dX5_mixCore_41 : decode cX5_mixCore 41 = .ok (.invokestatic 230, 3) := by decide +kernel
theorem dX5_mixCore_44 : decode cX5_mixCore 44 = .ok (.lstore 4, 2) := by decide +kernel
theorem dX5_mixCore_46 : decode cX5_mixCore 46 = .ok (.lload 4, 2) := by decide +kernel
theorem dX5_mixCore_48 : decode cX5_mixCore 48 = .ok (.aload_n 0, 1) := by decide +kernel
theorem dX5_mixCore_49 : decode cX5_mixCore 49 = .ok (.iload_n 3, 1) := by decide +kernel
theorem dX5_mixCore_50 : decode cX5_mixCore 50 = .ok (.iconst 1, 1) := by decide +kernel
theorem dX5_mixCore_51 : decode cX5_mixCore 51 = .ok (.invokevirtual 247, 3) := by decide +kernel
theorem dX5_mixCore_54 : decode cX5_mixCore 54 = .ok (.invokestatic 230, 3) := by decide +kernel
theorem dX5_mixCore_57 : decode cX5_mixCore 57 = .ok (.lstore 4, 2) := by decide +kernel
theorem dX5_mixCore_59 : decode cX5_mixCore 59 = .ok (.iconst 0, 1) := by decide +kernel
theorem dX5_mixCore_60 : decode cX5_mixCore 60 = .ok (.istore 6, 2) := by decide +kernel
theorem dX5_mixCore_62 : decode cX5_mixCore 62 = .ok (.iload 6, 2) := by decide +kernel
theorem dX5_mixCore_64 : decode cX5_mixCore 64 = .ok (.bipush 8, 2) := by decide +kernel
theorem dX5_mixCore_66 : decode cX5_mixCore 66 = .ok (.if_icmp .ge 37, 3) := by decide +kernel
theorem dX5_mixCore_69 : decode cX5_mixCore 69 = .ok (.lload 4, 2) := by decide +kernel
theorem dX5_mixCore_71 : decode cX5_mixCore 71 = .ok (.aload_n 0, 1) := by decide +kernel
theorem dX5_mixCore_72 : decode cX5_mixCore 72 = .ok (.iload_n 3, 1) := by decide +kernel
theorem dX5_mixCore_73 : decode cX5_mixCore 73 = .ok (.iload 6, 2) := by decide +kernel
theorem dX5_mixCore_75 : decode cX5_mixCore 75 = .ok (.invokevirtual 250, 3) := by decide +kernel
theorem dX5_mixCore_78 : decode cX5_mixCore 78 = .ok (.invokestatic 230, 3) := by decide +kernel
theorem dX5_mixCore_81 : decode cX5_mixCore 81 = .ok (.lstore 4, 2) := by decide +kernel
theorem dX5_mixCore_83 : decode cX5_mixCore 83 = .ok (.lload 4, 2) := by decide +kernel
theorem dX5_mixCore_85 : decode cX5_mixCore 85 = .ok (.aload_n 0, 1) := by decide +kernel
theorem dX5_mixCore_86 : decode cX5_mixCore 86 = .ok (.iload_n 3, 1) := by decide +kernel
theorem dX5_mixCore_87 : decode cX5_mixCore 87 = .ok (.iload 6, 2) := by decide +kernel
theorem dX5_mixCore_89 : decode cX5_mixCore 89 = .ok (.invokevirtual 253, 3) := by decide +kernel
theorem dX5_mixCore_92 : decode cX5_mixCore 92 = .ok (.invokestatic 230, 3) := by decide +kernel
theorem dX5_mixCore_95 : decode cX5_mixCore 95 = .ok (.lstore 4, 2) := by decide +kernel
theorem dX5_mixCore_97 : decode cX5_mixCore 97 = .ok (.iinc 6 1, 3) := by decide +kernel
theorem dX5_mixCore_100 : decode cX5_mixCore 100 = .ok (.goto (-38), 3) := by decide +kernel
theorem dX5_mixCore_103 : decode cX5_mixCore 103 = .ok (.lload 4, 2) := by decide +kernel
theorem dX5_mixCore_105 : decode cX5_mixCore 105 = .ok (.lreturn, 1) := by decide +kernel
theorem dX5_mix_0 : decode cX5_mix 0 = .ok (.ldc2_w 256, 3) := by decide +kernel
theorem dX5_mix_3 : decode cX5_mix 3 = .ok (.lload_n 0, 1) := by decide +kernel
theorem dX5_mix_4 : decode cX5_mix 4 = .ok (.lmul, 1) := by decide +kernel
theorem dX5_mix_5 : decode cX5_mix 5 = .ok (.iload_n 2, 1) := by decide +kernel
theorem dX5_mix_6 : decode cX5_mix 6 = .ok (.i2l, 1) := by decide +kernel
theorem dX5_mix_7 : decode cX5_mix 7 = .ok (.ladd, 1) := by decide +kernel
theorem dX5_mix_8 : decode cX5_mix 8 = .ok (.lreturn, 1) := by decide +kernel
theorem dX5_saveState_0 : decode cX5_saveState 0 = .ok (.aload_n 0, 1) := by decide +kernel
theorem dX5_saveState_1 : decode cX5_saveState 1 = .ok (.getfield 36, 3) := by decide +kernel
theorem dX5_saveState_4 : decode cX5_saveState 4 = .ok (.aload_n 0, 1) := by decide +kernel
theorem dX5_saveState_5 : decode cX5_saveState 5 = .ok (.getfield 40, 3) := by decide +kernel
theorem dX5_saveState_8 : decode cX5_saveState 8 = .ok (.aload_n 0, 1) := by decide +kernel
theorem dX5_saveState_9 : decode cX5_saveState 9 = .ok (.getfield 43, 3) := by decide +kernel
theorem dX5_saveState_12 : decode cX5_saveState 12 = .ok (.iadd, 1) := by decide +kernel
theorem dX5_saveState_13 : decode cX5_saveState 13 = .ok (.iconst 4, 1) := by decide +kernel
theorem dX5_saveState_14 : decode cX5_saveState 14 = .ok (.irem, 1) := by decide +kernel
theorem dX5_saveState_15 : decode cX5_saveState 15 = .ok (.aaload, 1) := by decide +kernel
theorem dX5_saveState_16 : decode cX5_saveState 16 = .ok (.aload_n 0, 1) := by decide +kernel
theorem dX5_saveState_17 : decode cX5_saveState 17 = .ok (.getfield 29, 3) := by decide +kernel
theorem dX5_saveState_20 : decode cX5_saveState 20 = .ok (.invokevirtual 224, 3) := by decide +kernel
theorem dX5_saveState_23 : decode cX5_saveState 23 = .ok (.aload_n 0, 1) := by decide +kernel
theorem dX5_saveState_24 : decode cX5_saveState 24 = .ok (.getfield 43, 3) := by decide +kernel
theorem dX5_saveState_27 : decode cX5_saveState 27 = .ok (.iconst 4, 1) := by decide +kernel
theorem dX5_saveState_28 : decode cX5_saveState 28 = .ok (.if_icmp .ge 16, 3) := by decide +kernel
theorem dX5_saveState_31 : decode cX5_saveState 31 = .ok (.aload_n 0, 1) := by decide +kernel
theorem dX5_saveState_32 : decode cX5_saveState 32 = .ok (.dup, 1) := by decide +kernel
theorem dX5_saveState_33 : decode cX5_saveState 33 = .ok (.getfield 43, 3) := by decide +kernel
theorem dX5_saveState_36 : decode cX5_saveState 36 = .ok (.iconst 1, 1) := by decide +kernel
theorem dX5_saveState_37 : decode cX5_saveState 37 = .ok (.iadd, 1) := by decide +kernel
theorem dX5_saveState_38 : decode cX5_saveState 38 = .ok (.putfield 43, 3) := by decide +kernel
theorem dX5_saveState_41 : decode cX5_saveState 41 = .ok (.goto 15, 3) := by decide +kernel
theorem dX5_saveState_44 : decode cX5_saveState 44 = .ok (.aload_n 0, 1) := by decide +kernel
theorem dX5_saveState_45 : decode cX5_saveState 45 = .ok (.aload_n 0, 1) := by decide +kernel
theorem dX5_saveState_46 : decode cX5_saveState 46 = .ok (.getfield 40, 3) := by decide +kernel
theorem dX5_saveState_49 : decode cX5_saveState 49 = .ok (.iconst 1, 1) := by decide +kernel
theorem dX5_saveState_50 : decode cX5_saveState 50 = .ok (.iadd, 1) := by decide +kernel
theorem dX5_saveState_51 : decode cX5_saveState 51 = .ok (.iconst 4, 1) := by decide +kernel
theorem dX5_saveState_52 : decode cX5_saveState 52 = .ok (.irem, 1) := by decide +kernel
theorem dX5_saveState_53 : decode cX5_saveState 53 = .ok (.putfield 40, 3) := by decide +kernel
theorem dX5_saveState_56 : decode cX5_saveState 56 = .ok (.return_, 1) := by decide +kernel
theorem dX5_startTrial_0 : decode cX5_startTrial 0 = .ok (.aload_n 0, 1) := by decide +kernel
theorem dX5_startTrial_1 : decode cX5_startTrial 1 = .ok (.getfield 33, 3) := by decide +kernel
theorem dX5_startTrial_4 : decode cX5_startTrial 4 = .ok (.aload_n 0, 1) := by decide +kernel
theorem dX5_startTrial_5 : decode cX5_startTrial 5 = .ok (.getfield 29, 3) := by decide +kernel
theorem dX5_startTrial_8 : decode cX5_startTrial 8 = .ok (.invokevirtual 224, 3) := by decide +kernel
theorem dX5_startTrial_11 : decode cX5_startTrial 11 = .ok (.aload_n 0, 1) := by decide +kernel
theorem dX5_startTrial_12 : decode cX5_startTrial 12 = .ok (.getfield 33, 3) := by decide +kernel
theorem dX5_startTrial_15 : decode cX5_startTrial 15 = .ok (.iload_n 1, 1) := by decide +kernel
theorem dX5_startTrial_16 : decode cX5_startTrial 16 = .ok (.putfield 78, 3) := by decide +kernel
theorem dX5_startTrial_19 : decode cX5_startTrial 19 = .ok (.return_, 1) := by decide +kernel
theorem dX5_isPolicy_0 : decode cX5_isPolicy 0 = .ok (.iload_n 0, 1) := by decide +kernel
theorem dX5_isPolicy_1 : decode cX5_isPolicy 1 = .ok (.ifCond .lt 12, 3) := by decide +kernel
theorem dX5_isPolicy_4 : decode cX5_isPolicy 4 = .ok (.iload_n 0, 1) := by decide +kernel
theorem dX5_isPolicy_5 : decode cX5_isPolicy 5 = .ok (.iconst 3, 1) := by decide +kernel
theorem dX5_isPolicy_6 : decode cX5_isPolicy 6 = .ok (.if_icmp .ge 7, 3) := by decide +kernel
theorem dX5_isPolicy_9 : decode cX5_isPolicy 9 = .ok (.iconst 1, 1) := by decide +kernel
theorem dX5_isPolicy_10 : decode cX5_isPolicy 10 = .ok (.goto 4, 3) := by decide +kernel
theorem dX5_isPolicy_13 : decode cX5_isPolicy 13 = .ok (.iconst 0, 1) := by decide +kernel
theorem dX5_isPolicy_14 : decode cX5_isPolicy 14 = .ok (.ireturn, 1) := by decide +kernel
theorem dX5_isLine_0 : decode cX5_isLine 0 = .ok (.iload_n 0, 1) := by decide +kernel
theorem dX5_isLine_1 : decode cX5_isLine 1 = .ok (.ifCond .lt 13, 3) := by decide +kernel
theorem dX5_isLine_4 : decode cX5_isLine 4 = .ok (.iload_n 0, 1) := by decide +kernel
theorem dX5_isLine_5 : decode cX5_isLine 5 = .ok (.bipush 8, 2) := by decide +kernel
theorem dX5_isLine_7 : decode cX5_isLine 7 = .ok (.if_icmp .ge 7, 3) := by decide +kernel
theorem dX5_isLine_10 : decode cX5_isLine 10 = .ok (.iconst 1, 1) := by decide +kernel
theorem dX5_isLine_11 : decode cX5_isLine 11 = .ok (.goto 4, 3) := by decide +kernel
theorem dX5_isLine_14 : decode cX5_isLine 14 = .ok (.iconst 0, 1) := by decide +kernel
theorem dX5_isLine_15 : decode cX5_isLine 15 = .ok (.ireturn, 1) := by decide +kernel
theorem dX5_isRunLength_0 : decode cX5_isRunLength 0 = .ok (.iload_n 0, 1) := by decide +kernel
theorem dX5_isRunLength_1 : decode cX5_isRunLength 1 = .ok (.ifCond .lt 14, 3) := by decide +kernel
theorem dX5_isRunLength_4 : decode cX5_isRunLength 4 = .ok (.iload_n 0, 1) := by decide +kernel
theorem dX5_isRunLength_5 : decode cX5_isRunLength 5 = .ok (.sipush 1000, 3) := by decide +kernel
theorem dX5_isRunLength_8 : decode cX5_isRunLength 8 = .ok (.if_icmp .gt 7, 3) := by decide +kernel
theorem dX5_isRunLength_11 : decode cX5_isRunLength 11 = .ok (.iconst 1, 1) := by decide +kernel
theorem dX5_isRunLength_12 : decode cX5_isRunLength 12 = .ok (.goto 4, 3) := by decide +kernel
theorem dX5_isRunLength_15 : decode cX5_isRunLength 15 = .ok (.iconst 0, 1) := by decide +kernel
theorem dX5_isRunLength_16 : decode cX5_isRunLength 16 = .ok (.ireturn, 1) := by decide +kernel
theorem dX5_contains_0 : decode cX5_contains 0 = .ok (.iload_n 0, 1) := by decide +kernel
theorem dX5_contains_1 : decode cX5_contains 1 = .ok (.iconst 1, 1) := by decide +kernel
theorem dX5_contains_2 : decode cX5_contains 2 = .ok (.iload_n 1, 1) := by decide +kernel
theorem dX5_contains_3 : decode cX5_contains 3 = .ok (.ishl, 1) := by decide +kernel
theorem dX5_contains_4 : decode cX5_contains 4 = .ok (.iand, 1) := by decide +kernel
theorem dX5_contains_5 : decode cX5_contains 5 = .ok (.ifCond .eq 7, 3) := by decide +kernel
theorem dX5_contains_8 : decode cX5_contains 8 = .ok (.iconst 1, 1) := by decide +kernel
theorem dX5_contains_9 : decode cX5_contains 9 = .ok (.goto 4, 3) := by decide +kernel
theorem dX5_contains_12 : decode cX5_contains 12 = .ok (.iconst 0, 1) := by decide +kernel
theorem dX5_contains_13 : decode cX5_contains 13 = .ok (.ireturn, 1) := by decide +kernel
theorem dX6_init_0 : decode cX6_init 0 = .ok (.aload_n 0, 1) := by decide +kernel
theorem dX6_init_1 : decode cX6_init 1 = .ok (.invokespecial 1, 3) := by decide +kernel
theorem dX6_init_4 : decode cX6_init 4 = .ok (.aload_n 0, 1) := by decide +kernel
theorem dX6_init_5 : decode cX6_init 5 = .ok (.sipush 8006, 3) := by decide +kernel
theorem dX6_init_8 : decode cX6_init 8 = .ok (.newarray .int, 2) := by decide +kernel
theorem dX6_init_10 : decode cX6_init 10 = .ok (.putfield 7, 3) := by decide +kernel
theorem dX6_init_13 : decode cX6_init 13 = .ok (.aload_n 0, 1) := by decide +kernel
theorem dX6_init_14 : decode cX6_init 14 = .ok (.sipush 8006, 3) := by decide +kernel
theorem dX6_init_17 : decode cX6_init 17 = .ok (.newarray .int, 2) := by decide +kernel
theorem dX6_init_19 : decode cX6_init 19 = .ok (.putfield 13, 3) := by decide +kernel
theorem dX6_init_22 : decode cX6_init 22 = .ok (.aload_n 0, 1) := by decide +kernel
theorem dX6_init_23 : decode cX6_init 23 = .ok (.sipush 8006, 3) := by decide +kernel
theorem dX6_init_26 : decode cX6_init 26 = .ok (.newarray .int, 2) := by decide +kernel
theorem dX6_init_28 : decode cX6_init 28 = .ok (.putfield 16, 3) := by decide +kernel
theorem dX6_init_31 : decode cX6_init 31 = .ok (.aload_n 0, 1) := by decide +kernel
theorem dX6_init_32 : decode cX6_init 32 = .ok (.sipush 8006, 3) := by decide +kernel
theorem dX6_init_35 : decode cX6_init 35 = .ok (.newarray .int, 2) := by decide +kernel
theorem dX6_init_37 : decode cX6_init 37 = .ok (.putfield 19, 3) := by decide +kernel
theorem dX6_init_40 : decode cX6_init 40 = .ok (.aload_n 0, 1) := by decide +kernel
theorem dX6_init_41 : decode cX6_init 41 = .ok (.sipush 8006, 3) := by decide +kernel
theorem dX6_init_44 : decode cX6_init 44 = .ok (.newarray .int, 2) := by decide +kernel
theorem dX6_init_46 : decode cX6_init 46 = .ok (.putfield 22, 3) := by decide +kernel
theorem dX6_init_49 : decode cX6_init 49 = .ok (.aload_n 0, 1) := by decide +kernel
theorem dX6_init_50 : decode cX6_init 50 = .ok (.bipush 120, 2) := by decide +kernel
theorem dX6_init_52 : decode cX6_init 52 = .ok (.newarray .int, 2) := by decide +kernel
theorem dX6_init_54 : decode cX6_init 54 = .ok (.putfield 25, 3) := by decide +kernel
theorem dX6_init_57 : decode cX6_init 57 = .ok (.aload_n 0, 1) := by decide +kernel
theorem dX6_init_58 : decode cX6_init 58 = .ok (.bipush 60, 2) := by decide +kernel
theorem dX6_init_60 : decode cX6_init 60 = .ok (.newarray .int, 2) := by decide +kernel
theorem dX6_init_62 : decode cX6_init 62 = .ok (.putfield 28, 3) := by decide +kernel
theorem dX6_init_65 : decode cX6_init 65 = .ok (.aload_n 0, 1) := by decide +kernel
theorem dX6_init_66 : decode cX6_init 66 = .ok (.bipush 8, 2) := by decide +kernel
theorem dX6_init_68 : decode cX6_init 68 = .ok (.newarray .int, 2) := by decide +kernel
theorem dX6_init_70 : decode cX6_init 70 = .ok (.putfield 31, 3) := by decide +kernel
theorem dX6_init_73 : decode cX6_init 73 = .ok (.aload_n 0, 1) := by decide +kernel
theorem dX6_init_74 : decode cX6_init 74 = .ok (.sipush 406, 3) := by decide +kernel
theorem dX6_init_77 : decode cX6_init 77 = .ok (.newarray .int, 2) := by decide +kernel
theorem dX6_init_79 : decode cX6_init 79 = .ok (.putfield 34, 3) := by decide +kernel
theorem dX6_init_82 : decode cX6_init 82 = .ok (.aload_n 0, 1) := by decide +kernel
theorem dX6_init_83 : decode cX6_init 83 = .ok (.getfield 7, 3) := by decide +kernel
theorem dX6_init_86 : decode cX6_init 86 = .ok (.iconst 3, 1) := by decide +kernel
theorem dX6_init_87 : decode cX6_init 87 = .ok (.iconst 1, 1) := by decide +kernel
theorem dX6_init_88 : decode cX6_init 88 = .ok (.iastore, 1) := by decide +kernel
theorem dX6_init_89 : decode cX6_init 89 = .ok (.aload_n 0, 1) := by decide +kernel
theorem dX6_init_90 : decode cX6_init 90 = .ok (.iconst 2, 1) := by decide +kernel
theorem dX6_init_91 : decode cX6_init 91 = .ok (.iconst 0, 1) := by decide +kernel
theorem dX6_init_92 : decode cX6_init 92 = .ok (.iconst 4, 1) := by decide +kernel
theorem dX6_init_93 : decode cX6_init 93 = .ok (.invokevirtual 37, 3) := by decide +kernel
theorem dX6_init_96 : decode cX6_init 96 = .ok (.return_, 1) := by decide +kernel
theorem dX6_thrown_0 : decode cX6_thrown 0 = .ok (.aload_n 0, 1) := by decide +kernel
theorem dX6_thrown_1 : decode cX6_thrown 1 = .ok (.getfield 41, 3) := by decide +kernel
theorem dX6_thrown_4 : decode cX6_thrown 4 = .ok (.ireturn, 1) := by decide +kernel
theorem dX6_in_0 : decode cX6_in 0 = .ok (.iload_n 0, 1) := by decide +kernel
theorem dX6_in_1 : decode cX6_in 1 = .ok (.iload_n 1, 1) := by decide +kernel
theorem dX6_in_2 : decode cX6_in 2 = .ok (.if_icmp .lt 12, 3) := by decide +kernel
theorem dX6_in_5 : decode cX6_in 5 = .ok (.iload_n 0, 1) := by decide +kernel
theorem dX6_in_6 : decode cX6_in 6 = .ok (.iload_n 2, 1) := by decide +kernel
theorem dX6_in_7 : decode cX6_in 7 = .ok (.if_icmp .gt 7, 3) := by decide +kernel
theorem dX6_in_10 : decode cX6_in 10 = .ok (.iconst 1, 1) := by decide +kernel
theorem dX6_in_11 : decode cX6_in 11 = .ok (.goto 4, 3) := by decide +kernel
theorem dX6_in_14 : decode cX6_in 14 = .ok (.iconst 0, 1) := by decide +kernel
theorem dX6_in_15 : decode cX6_in 15 = .ok (.ireturn, 1) := by decide +kernel
theorem dX6_copyAll_0 : decode cX6_copyAll 0 = .ok (.iconst 0, 1) := by decide +kernel
theorem dX6_copyAll_1 : decode cX6_copyAll 1 = .ok (.istore_n 2, 1) := by decide +kernel
theorem dX6_copyAll_2 : decode cX6_copyAll 2 = .ok (.iload_n 2, 1) := by decide +kernel
theorem dX6_copyAll_3 : decode cX6_copyAll 3 = .ok (.sipush 8006, 3) := by decide +kernel
theorem dX6_copyAll_6 : decode cX6_copyAll 6 = .ok (.if_icmp .ge 15, 3) := by decide +kernel
theorem dX6_copyAll_9 : decode cX6_copyAll 9 = .ok (.aload_n 1, 1) := by decide +kernel
theorem dX6_copyAll_10 : decode cX6_copyAll 10 = .ok (.iload_n 2, 1) := by decide +kernel
theorem dX6_copyAll_11 : decode cX6_copyAll 11 = .ok (.aload_n 0, 1) := by decide +kernel
theorem dX6_copyAll_12 : decode cX6_copyAll 12 = .ok (.iload_n 2, 1) := by decide +kernel
theorem dX6_copyAll_13 : decode cX6_copyAll 13 = .ok (.iaload, 1) := by decide +kernel
theorem dX6_copyAll_14 : decode cX6_copyAll 14 = .ok (.iastore, 1) := by decide +kernel
theorem dX6_copyAll_15 : decode cX6_copyAll 15 = .ok (.iinc 2 1, 3) := by decide +kernel
theorem dX6_copyAll_18 : decode cX6_copyAll 18 = .ok (.goto (-16), 3) := by decide +kernel
theorem dX6_copyAll_21 : decode cX6_copyAll 21 = .ok (.return_, 1) := by decide +kernel
theorem dX6_keep_0 : decode cX6_keep 0 = .ok (.aload_n 0, 1) := by decide +kernel
theorem dX6_keep_1 : decode cX6_keep 1 = .ok (.getfield 19, 3) := by decide +kernel
theorem dX6_keep_4 : decode cX6_keep 4 = .ok (.aload_n 0, 1) := by decide +kernel
theorem dX6_keep_5 : decode cX6_keep 5 = .ok (.getfield 22, 3) := by decide +kernel
theorem dX6_keep_8 : decode cX6_keep 8 = .ok (.invokestatic 45, 3) := by decide +kernel
theorem dX6_keep_11 : decode cX6_keep 11 = .ok (.aload_n 0, 1) := by decide +kernel
theorem dX6_keep_12 : decode cX6_keep 12 = .ok (.getfield 16, 3) := by decide +kernel
theorem dX6_keep_15 : decode cX6_keep 15 = .ok (.aload_n 0, 1) := by decide +kernel
theorem dX6_keep_16 : decode cX6_keep 16 = .ok (.getfield 19, 3) := by decide +kernel
theorem dX6_keep_19 : decode cX6_keep 19 = .ok (.invokestatic 45, 3) := by decide +kernel
theorem dX6_keep_22 : decode cX6_keep 22 = .ok (.aload_n 0, 1) := by decide +kernel
theorem dX6_keep_23 : decode cX6_keep 23 = .ok (.getfield 13, 3) := by decide +kernel
theorem dX6_keep_26 : decode cX6_keep 26 = .ok (.aload_n 0, 1) := by decide +kernel
theorem dX6_keep_27 : decode cX6_keep 27 = .ok (.getfield 16, 3) := by decide +kernel
theorem dX6_keep_30 : decode cX6_keep 30 = .ok (.invokestatic 45, 3) := by decide +kernel
theorem dX6_keep_33 : decode cX6_keep 33 = .ok (.aload_n 0, 1) := by decide +kernel
theorem dX6_keep_34 : decode cX6_keep 34 = .ok (.getfield 7, 3) := by decide +kernel
theorem dX6_keep_37 : decode cX6_keep 37 = .ok (.aload_n 0, 1) := by decide +kernel
theorem dX6_keep_38 : decode cX6_keep 38 = .ok (.getfield 13, 3) := by decide +kernel
theorem dX6_keep_41 : decode cX6_keep 41 = .ok (.invokestatic 45, 3) := by decide +kernel
theorem dX6_keep_44 : decode cX6_keep 44 = .ok (.aload_n 0, 1) := by decide +kernel
theorem dX6_keep_45 : decode cX6_keep 45 = .ok (.dup, 1) := by decide +kernel
theorem dX6_keep_46 : decode cX6_keep 46 = .ok (.getfield 49, 3) := by decide +kernel
theorem dX6_keep_49 : decode cX6_keep 49 = .ok (.aload_n 0, 1) := by decide +kernel
theorem dX6_keep_50 : decode cX6_keep 50 = .ok (.getfield 49, 3) := by decide +kernel
theorem dX6_keep_53 : decode cX6_keep 53 = .ok (.iconst 4, 1) := by decide +kernel
theorem dX6_keep_54 : decode cX6_keep 54 = .ok (.if_icmp .ge 7, 3) := by decide +kernel
theorem dX6_keep_57 : decode cX6_keep 57 = .ok (.iconst 1, 1) := by decide +kernel
theorem dX6_keep_58 : decode cX6_keep 58 = .ok (.goto 4, 3) := by decide +kernel
theorem dX6_keep_61 : decode cX6_keep 61 = .ok (.iconst 0, 1) := by decide +kernel
theorem dX6_keep_62 : decode cX6_keep 62 = .ok (.iadd, 1) := by decide +kernel
theorem dX6_keep_63 : decode cX6_keep 63 = .ok (.putfield 49, 3) := by decide +kernel
theorem dX6_keep_66 : decode cX6_keep 66 = .ok (.return_, 1) := by decide +kernel
theorem dX6_at_0 : decode cX6_at 0 = .ok (.bipush 22, 2) := by decide +kernel
theorem dX6_at_2 : decode cX6_at 2 = .ok (.bipush 96, 2) := by decide +kernel
theorem dX6_at_4 : decode cX6_at 4 = .ok (.iload_n 0, 1) := by decide +kernel
theorem dX6_at_5 : decode cX6_at 5 = .ok (.imul, 1) := by decide +kernel
theorem dX6_at_6 : decode cX6_at 6 = .ok (.iadd, 1) := by decide +kernel
theorem dX6_at_7 : decode cX6_at 7 = .ok (.iload_n 1, 1) := by decide +kernel
theorem dX6_at_8 : decode cX6_at 8 = .ok (.iadd, 1) := by decide +kernel
theorem dX6_at_9 : decode cX6_at 9 = .ok (.ireturn, 1) := by decide +kernel
theorem dX6_of_0 : decode cX6_of 0 = .ok (.aload_n 0, 1) := by decide +kernel
theorem dX6_of_1 : decode cX6_of 1 = .ok (.getfield 7, 3) := by decide +kernel
theorem dX6_of_4 : decode cX6_of 4 = .ok (.iload_n 1, 1) := by decide +kernel
theorem dX6_of_5 : decode cX6_of 5 = .ok (.iload_n 2, 1) := by decide +kernel
theorem dX6_of_6 : decode cX6_of 6 = .ok (.invokestatic 52, 3) := by decide +kernel
theorem dX6_of_9 : decode cX6_of 9 = .ok (.iaload, 1) := by decide +kernel
theorem dX6_of_10 : decode cX6_of 10 = .ok (.ireturn, 1) := by decide +kernel
theorem dX6_put_0 : decode cX6_put 0 = .ok (.aload_n 0, 1) := by decide +kernel
theorem dX6_put_1 : decode cX6_put 1 = .ok (.getfield 7, 3) := by decide +kernel
theorem dX6_put_4 : decode cX6_put 4 = .ok (.iload_n 1, 1) := by decide +kernel
theorem dX6_put_5 : decode cX6_put 5 = .ok (.iload_n 2, 1) := by decide +kernel
theorem dX6_put_6 : decode cX6_put 6 = .ok (.invokestatic 52, 3) := by decide +kernel
theorem dX6_put_9 : decode cX6_put 9 = .ok (.iload_n 3, 1) := by decide +kernel
theorem dX6_put_10 : decode cX6_put 10 = .ok (.iastore, 1) := by decide +kernel
theorem dX6_put_11 : decode cX6_put 11 = .ok (.return_, 1) := by decide +kernel
theorem dX6_isCore_0 : decode cX6_isCore 0 = .ok (.iload_n 1, 1) := by decide +kernel
theorem dX6_isCore_1 : decode cX6_isCore 1 = .ok (.iconst 0, 1) := by decide +kernel
theorem dX6_isCore_2 : decode cX6_isCore 2 = .ok (.aload_n 0, 1) := by decide +kernel
theorem dX6_isCore_3 : decode cX6_isCore 3 = .ok (.getfield 7, 3) := by decide +kernel
theorem dX6_isCore_6 : decode cX6_isCore 6 = .ok (.iconst 0, 1) := by decide +kernel
theorem dX6_isCore_7 : decode cX6_isCore 7 = .ok (.iaload, 1) := by decide +kernel
theorem dX6_isCore_8 : decode cX6_isCore 8 = .ok (.iconst 1, 1) := by decide +kernel
theorem dX6_isCore_9 : decode cX6_isCore 9 = .ok (.isub, 1) := by decide +kernel
theorem dX6_isCore_10 : decode cX6_isCore 10 = .ok (.invokestatic 56, 3) := by decide +kernel
theorem dX6_isCore_13 : decode cX6_isCore 13 = .ok (.ireturn, 1) := by decide +kernel
theorem dX6_isLine_0 : decode cX6_isLine 0 = .ok (.iload_n 0, 1) := by decide +kernel
theorem dX6_isLine_1 : decode cX6_isLine 1 = .ok (.iconst 0, 1) := by decide +kernel
theorem dX6_isLine_2 : decode cX6_isLine 2 = .ok (.bipush 7, 2) := by decide +kernel
theorem dX6_isLine_4 : decode cX6_isLine 4 = .ok (.invokestatic 56, 3) := by decide +kernel
theorem dX6_isLine_7 : decode cX6_isLine 7 = .ok (.ireturn, 1) := by decide +kernel
theorem dX6_hasLine_0 : decode cX6_hasLine 0 = .ok (.iload_n 0, 1) := by decide +kernel
theorem dX6_hasLine_1 : decode cX6_hasLine 1 = .ok (.iload_n 1, 1) := by decide +kernel
theorem dX6_hasLine_2 : decode cX6_hasLine 2 = .ok (.ishr, 1) := by decide +kernel
theorem dX6_hasLine_3 : decode cX6_hasLine 3 = .ok (.iconst 1, 1) := by decide +kernel
theorem dX6_hasLine_4 : decode cX6_hasLine 4 = .ok (.iand, 1) := by decide +kernel
theorem dX6_hasLine_5 : decode cX6_hasLine 5 = .ok (.iconst 1, 1) := by decide +kernel
theorem dX6_hasLine_6 : decode cX6_hasLine 6 = .ok (.if_icmp .ne 7, 3) := by decide +kernel
theorem dX6_hasLine_9 : decode cX6_hasLine 9 = .ok (.iconst 1, 1) := by decide +kernel
theorem dX6_hasLine_10 : decode cX6_hasLine 10 = .ok (.goto 4, 3) := by decide +kernel
theorem dX6_hasLine_13 : decode cX6_hasLine 13 = .ok (.iconst 0, 1) := by decide +kernel
theorem dX6_hasLine_14 : decode cX6_hasLine 14 = .ok (.ireturn, 1) := by decide +kernel
theorem dX6_size_0 : decode cX6_size 0 = .ok (.iconst 0, 1) := by decide +kernel
theorem dX6_size_1 : decode cX6_size 1 = .ok (.istore_n 1, 1) := by decide +kernel
theorem dX6_size_2 : decode cX6_size 2 = .ok (.iconst 0, 1) := by decide +kernel
theorem dX6_size_3 : decode cX6_size 3 = .ok (.istore_n 2, 1) := by decide +kernel
theorem dX6_size_4 : decode cX6_size 4 = .ok (.iload_n 2, 1) := by decide +kernel
theorem dX6_size_5 : decode cX6_size 5 = .ok (.bipush 8, 2) := by decide +kernel
theorem dX6_size_7 : decode cX6_size 7 = .ok (.if_icmp .ge 17, 3) := by decide +kernel
theorem dX6_size_10 : decode cX6_size 10 = .ok (.iload_n 1, 1) := by decide +kernel
theorem dX6_size_11 : decode cX6_size 11 = .ok (.iload_n 0, 1) := by decide +kernel
theorem dX6_size_12 : decode cX6_size 12 = .ok (.iload_n 2, 1) := by decide +kernel
theorem dX6_size_13 : decode cX6_size 13 = .ok (.ishr, 1) := by decide +kernel
theorem dX6_size_14 : decode cX6_size 14 = .ok (.iconst 1, 1) := by decide +kernel
theorem dX6_size_15 : decode cX6_size 15 = .ok (.iand, 1) := by decide +kernel
theorem dX6_size_16 : decode cX6_size 16 = .ok (.iadd, 1) := by decide +kernel
theorem dX6_size_17 : decode cX6_size 17 = .ok (.istore_n 1, 1) := by decide +kernel
theorem dX6_size_18 : decode cX6_size 18 = .ok (.iinc 2 1, 3) := by decide +kernel
theorem dX6_size_21 : decode cX6_size 21 = .ok (.goto (-17), 3) := by decide +kernel
theorem dX6_size_24 : decode cX6_size 24 = .ok (.iload_n 1, 1) := by decide +kernel
theorem dX6_size_25 : decode cX6_size 25 = .ok (.ireturn, 1) := by decide +kernel
theorem dX6_clear_0 : decode cX6_clear 0 = .ok (.aload_n 0, 1) := by decide +kernel
theorem dX6_clear_1 : decode cX6_clear 1 = .ok (.getfield 7, 3) := by decide +kernel
theorem dX6_clear_4 : decode cX6_clear 4 = .ok (.iconst 3, 1) := by decide +kernel
theorem dX6_clear_5 : decode cX6_clear 5 = .ok (.iaload, 1) := by decide +kernel
theorem dX6_clear_6 : decode cX6_clear 6 = .ok (.istore 4, 2) := by decide +kernel
theorem dX6_clear_8 : decode cX6_clear 8 = .ok (.iconst 0, 1) := by decide +kernel
theorem dX6_clear_9 : decode cX6_clear 9 = .ok (.istore 5, 2) := by decide +kernel
theorem dX6_clear_11 : decode cX6_clear 11 = .ok (.iload 5, 2) := by decide +kernel
theorem dX6_clear_13 : decode cX6_clear 13 = .ok (.sipush 8006, 3) := by decide +kernel
theorem dX6_clear_16 : decode cX6_clear 16 = .ok (.if_icmp .ge 17, 3) := by decide +kernel
theorem dX6_clear_19 : decode cX6_clear 19 = .ok (.aload_n 0, 1) := by decide +kernel
theorem dX6_clear_20 : decode cX6_clear 20 = .ok (.getfield 7, 3) := by decide +kernel
theorem dX6_clear_23 : decode cX6_clear 23 = .ok (.iload 5, 2) := by decide +kernel
theorem dX6_clear_25 : decode cX6_clear 25 = .ok (.iconst 0, 1) := by decide +kernel
theorem dX6_clear_26 : decode cX6_clear 26 = .ok (.iastore, 1) := by decide +kernel
theorem dX6_clear_27 : decode cX6_clear 27 = .ok (.iinc 5 1, 3) := by decide +kernel
theorem dX6_clear_30 : decode cX6_clear 30 = .ok (.goto (-19), 3) := by decide +kernel
theorem dX6_clear_33 : decode cX6_clear 33 = .ok (.aload_n 0, 1) := by decide +kernel
theorem dX6_clear_34 : decode cX6_clear 34 = .ok (.getfield 7, 3) := by decide +kernel
theorem dX6_clear_37 : decode cX6_clear 37 = .ok (.iconst 0, 1) := by decide +kernel
theorem dX6_clear_38 : decode cX6_clear 38 = .ok (.iload_n 1, 1) := by decide +kernel
theorem dX6_clear_39 : decode cX6_clear 39 = .ok (.iastore, 1) := by decide +kernel
theorem dX6_clear_40 : decode cX6_clear 40 = .ok (.aload_n 0, 1) := by decide +kernel
theorem dX6_clear_41 : decode cX6_clear 41 = .ok (.getfield 7, 3) := by decide +kernel
theorem dX6_clear_44 : decode cX6_clear 44 = .ok (.iconst 1, 1) := by decide +kernel
theorem dX6_clear_45 : decode cX6_clear 45 = .ok (.iload_n 2, 1) := by decide +kernel
theorem dX6_clear_46 : decode cX6_clear 46 = .ok (.iastore, 1) := by decide +kernel
theorem dX6_clear_47 : decode cX6_clear 47 = .ok (.aload_n 0, 1) := by decide +kernel
theorem dX6_clear_48 : decode cX6_clear 48 = .ok (.getfield 7, 3) := by decide +kernel
theorem dX6_clear_51 : decode cX6_clear 51 = .ok (.iconst 2, 1) := by decide +kernel
theorem dX6_clear_52 : decode cX6_clear 52 = .ok (.iload_n 3, 1) := by decide +kernel
theorem dX6_clear_53 : decode cX6_clear 53 = .ok (.iastore, 1) := by decide +kernel
theorem dX6_clear_54 : decode cX6_clear 54 = .ok (.aload_n 0, 1) := by decide +kernel
theorem dX6_clear_55 : decode cX6_clear 55 = .ok (.getfield 7, 3) := by decide +kernel
theorem dX6_clear_58 : decode cX6_clear 58 = .ok (.iconst 3, 1) := by decide +kernel
theorem dX6_clear_59 : decode cX6_clear 59 = .ok (.iload 4, 2) := by decide +kernel
theorem dX6_clear_61 : decode cX6_clear 61 = .ok (.iastore, 1) := by decide +kernel
theorem dX6_clear_62 : decode cX6_clear 62 = .ok (.iconst 0, 1) := by decide +kernel
theorem dX6_clear_63 : decode cX6_clear 63 = .ok (.istore 5, 2) := by decide +kernel
theorem dX6_clear_65 : decode cX6_clear 65 = .ok (.iload 5, 2) := by decide +kernel
theorem dX6_clear_67 : decode cX6_clear 67 = .ok (.iconst 4, 1) := by decide +kernel
theorem dX6_clear_68 : decode cX6_clear 68 = .ok (.if_icmp .ge 17, 3) := by decide +kernel
theorem dX6_clear_71 : decode cX6_clear 71 = .ok (.aload_n 0, 1) := by decide +kernel
theorem dX6_clear_72 : decode cX6_clear 72 = .ok (.iload 5, 2) := by decide +kernel
theorem dX6_clear_74 : decode cX6_clear 74 = .ok (.iconst 4, 1) := by decide +kernel
theorem dX6_clear_75 : decode cX6_clear 75 = .ok (.iconst (-1), 1) := by decide +kernel
theorem dX6_clear_76 : decode cX6_clear 76 = .ok (.invokevirtual 60, 3) := by decide +kernel
theorem dX6_clear_79 : decode cX6_clear 79 = .ok (.iinc 5 1, 3) := by decide +kernel
theorem dX6_clear_82 : decode cX6_clear 82 = .ok (.goto (-17), 3) := by decide +kernel
theorem dX6_clear_85 : decode cX6_clear 85 = .ok (.return_, 1) := by decide +kernel
theorem dX6_begin_0 : decode cX6_begin 0 = .ok (.aload_n 0, 1) := by decide +kernel
theorem dX6_begin_1 : decode cX6_begin 1 = .ok (.iload_n 1, 1) := by decide +kernel
theorem dX6_begin_2 : decode cX6_begin 2 = .ok (.iconst 2, 1) := by decide +kernel
theorem dX6_begin_3 : decode cX6_begin 3 = .ok (.iconst 4, 1) := by decide +kernel
theorem dX6_begin_4 : decode cX6_begin 4 = .ok (.invokestatic 56, 3) := by decide +kernel
theorem dX6_begin_7 : decode cX6_begin 7 = .ok (.ifCond .eq 26, 3) := by decide +kernel
theorem dX6_begin_10 : decode cX6_begin 10 = .ok (.iload_n 2, 1) := by decide +kernel
theorem dX6_begin_11 : decode cX6_begin 11 = .ok (.iconst 0, 1) := by decide +kernel
theorem dX6_begin_12 : decode cX6_begin 12 = .ok (.iconst 2, 1) := by decide +kernel
theorem dX6_begin_13 : decode cX6_begin 13 = .ok (.invokestatic 56, 3) := by decide +kernel
theorem dX6_begin_16 : decode cX6_begin 16 = .ok (.ifCond .eq 17, 3) := by decide +kernel
theorem dX6_begin_19 : decode cX6_begin 19 = .ok (.iload_n 3, 1) := by decide +kernel
theorem dX6_begin_20 : decode cX6_begin 20 = .ok (.iconst 1, 1) := by decide +kernel
theorem dX6_begin_21 : decode cX6_begin 21 = .ok (.bipush 8, 2) := by decide +kernel
theorem dX6_begin_23 : decode cX6_begin 23 = .ok (.invokestatic 56, 3) := by decide +kernel
theorem dX6_begin_26 : decode cX6_begin 26 = .ok (.ifCond .eq 7, 3) := by decide +kernel
theorem dX6_begin_29 : decode cX6_begin 29 = .ok (.iconst 0, 1) := by decide +kernel
theorem dX6_begin_30 : decode cX6_begin 30 = .ok (.goto 4, 3) := by decide +kernel
theorem dX6_begin_33 : decode cX6_begin 33 = .ok (.iconst 1, 1) := by decide +kernel
theorem dX6_begin_34 : decode cX6_begin 34 = .ok (.putfield 41, 3) := by decide +kernel
theorem dX6_begin_37 : decode cX6_begin 37 = .ok (.aload_n 0, 1) := by decide +kernel
theorem dX6_begin_38 : decode cX6_begin 38 = .ok (.getfield 41, 3) := by decide +kernel
theorem dX6_begin_41 : decode cX6_begin 41 = .ok (.ifCond .eq 5, 3) := by decide +kernel
theorem dX6_begin_44 : decode cX6_begin 44 = .ok (.iconst 0, 1) := by decide +kernel
theorem dX6_begin_45 : decode cX6_begin 45 = .ok (.ireturn, 1) := by decide +kernel
theorem dX6_begin_46 : decode cX6_begin 46 = .ok (.aload_n 0, 1) := by decide +kernel
theorem dX6_begin_47 : decode cX6_begin 47 = .ok (.invokevirtual 63, 3) := by decide +kernel
theorem dX6_begin_50 : decode cX6_begin 50 = .ok (.aload_n 0, 1) := by decide +kernel
theorem dX6_begin_51 : decode cX6_begin 51 = .ok (.getfield 7, 3) := by decide +kernel
theorem dX6_begin_54 : decode cX6_begin 54 = .ok (.bipush 21, 2) := by decide +kernel
theorem dX6_begin_56 : decode cX6_begin 56 = .ok (.iaload, 1) := by decide +kernel
theorem dX6_begin_57 : decode cX6_begin 57 = .ok (.istore 4, 2) := by decide +kernel
theorem dX6_begin_59 : decode cX6_begin 59 = .ok (.aload_n 0, 1) := by decide +kernel
theorem dX6_begin_60 : decode cX6_begin 60 = .ok (.iload_n 1, 1) := by decide +kernel
theorem dX6_begin_61 : decode cX6_begin 61 = .ok (.iload_n 2, 1) := by decide +kernel
theorem dX6_begin_62 : decode cX6_begin 62 = .ok (.iload_n 3, 1) := by decide +kernel
theorem dX6_begin_63 : decode cX6_begin 63 = .ok (.invokevirtual 37, 3) := by decide +kernel
theorem dX6_begin_66 : decode cX6_begin 66 = .ok (.iload 4, 2) := by decide +kernel
theorem dX6_begin_68 : decode cX6_begin 68 = .ok (.ireturn, 1) := by decide +kernel
theorem dX6_setPolicy_0 : decode cX6_setPolicy 0 = .ok (.aload_n 0, 1) := by decide +kernel
theorem dX6_setPolicy_1 : decode cX6_setPolicy 1 = .ok (.iload_n 1, 1) := by decide +kernel
theorem dX6_setPolicy_2 : decode cX6_setPolicy 2 = .ok (.iconst 0, 1) := by decide +kernel
theorem dX6_setPolicy_3 : decode cX6_setPolicy 3 = .ok (.iconst 2, 1) := by decide +kernel
theorem dX6_setPolicy_4 : decode cX6_setPolicy 4 = .ok (.invokestatic 56, 3) := by decide +kernel
theorem dX6_setPolicy_7 : decode cX6_setPolicy 7 = .ok (.ifCond .eq 7, 3) := by decide +kernel
theorem dX6_setPolicy_10 : decode cX6_setPolicy 10 = .ok (.iconst 0, 1) := by decide +kernel
theorem dX6_setPolicy_11 : decode cX6_setPolicy 11 = .ok (.goto 4, 3) := by decide +kernel
theorem dX6_setPolicy_14 : decode cX6_setPolicy 14 = .ok (.iconst 1, 1) := by decide +kernel
theorem dX6_setPolicy_15 : decode cX6_setPolicy 15 = .ok (.putfield 41, 3) := by decide +kernel
theorem dX6_setPolicy_18 : decode cX6_setPolicy 18 = .ok (.aload_n 0, 1) := by decide +kernel
theorem dX6_setPolicy_19 : decode cX6_setPolicy 19 = .ok (.getfield 41, 3) := by decide +kernel
theorem dX6_setPolicy_22 : decode cX6_setPolicy 22 = .ok (.ifCond .eq 5, 3) := by decide +kernel
theorem dX6_setPolicy_25 : decode cX6_setPolicy 25 = .ok (.iconst 0, 1) := by decide +kernel
theorem dX6_setPolicy_26 : decode cX6_setPolicy 26 = .ok (.ireturn, 1) := by decide +kernel
theorem dX6_setPolicy_27 : decode cX6_setPolicy 27 = .ok (.aload_n 0, 1) := by decide +kernel
theorem dX6_setPolicy_28 : decode cX6_setPolicy 28 = .ok (.invokevirtual 63, 3) := by decide +kernel
theorem dX6_setPolicy_31 : decode cX6_setPolicy 31 = .ok (.aload_n 0, 1) := by decide +kernel
theorem dX6_setPolicy_32 : decode cX6_setPolicy 32 = .ok (.getfield 7, 3) := by decide +kernel
theorem dX6_setPolicy_35 : decode cX6_setPolicy 35 = .ok (.iconst 1, 1) := by decide +kernel
theorem dX6_setPolicy_36 : decode cX6_setPolicy 36 = .ok (.iaload, 1) := by decide +kernel
theorem dX6_setPolicy_37 : decode cX6_setPolicy 37 = .ok (.istore_n 2, 1) := by decide +kernel
theorem dX6_setPolicy_38 : decode cX6_setPolicy 38 = .ok (.aload_n 0, 1) := by decide +kernel
theorem dX6_setPolicy_39 : decode cX6_setPolicy 39 = .ok (.getfield 7, 3) := by decide +kernel
theorem dX6_setPolicy_42 : decode cX6_setPolicy 42 = .ok (.iconst 1, 1) := by decide +kernel
theorem dX6_setPolicy_43 : decode cX6_setPolicy 43 = .ok (.iload_n 1, 1) := by decide +kernel
theorem dX6_setPolicy_44 : decode cX6_setPolicy 44 = .ok (.iastore, 1) := by decide +kernel
theorem dX6_setPolicy_45 : decode cX6_setPolicy 45 = .ok (.iload_n 2, 1) := by decide +kernel
theorem dX6_setPolicy_46 : decode cX6_setPolicy 46 = .ok (.ireturn, 1) := by decide +kernel
theorem dX6_seed_0 : decode cX6_seed 0 = .ok (.aload_n 0, 1) := by decide +kernel
theorem dX6_seed_1 : decode cX6_seed 1 = .ok (.iload_n 1, 1) := by decide +kernel
theorem dX6_seed_2 : decode cX6_seed 2 = .ok (.iconst 0, 1) := by decide +kernel
theorem dX6_seed_3 : decode cX6_seed 3 = .ok (.ldc 66, 2) := by decide +kernel
theorem dX6_seed_5 : decode cX6_seed 5 = .ok (.invokestatic 56, 3) := by decide +kernel
theorem dX6_seed_8 : decode cX6_seed 8 = .ok (.ifCond .eq 7, 3) := by decide +kernel
theorem dX6_seed_11 : decode cX6_seed 11 = .ok (.iconst 0, 1) := by decide +kernel
theorem dX6_seed_12 : decode cX6_seed 12 = .ok (.goto 4, 3) := by decide +kernel
theorem dX6_seed_15 : decode cX6_seed 15 = .ok (.iconst 1, 1) := by decide +kernel
theorem dX6_seed_16 : decode cX6_seed 16 = .ok (.putfield 41, 3) := by decide +kernel
theorem dX6_seed_19 : decode cX6_seed 19 = .ok (.aload_n 0, 1) := by decide +kernel
theorem dX6_seed_20 : decode cX6_seed 20 = .ok (.getfield 41, 3) := by decide +kernel
theorem dX6_seed_23 : decode cX6_seed 23 = .ok (.ifCond .eq 5, 3) := by decide +kernel
theorem dX6_seed_26 : decode cX6_seed 26 = .ok (.iconst 0, 1) := by decide +kernel
theorem dX6_seed_27 : decode cX6_seed 27 = .ok (.ireturn, 1) := by decide +kernel
theorem dX6_seed_28 : decode cX6_seed 28 = .ok (.aload_n 0, 1) := by decide +kernel
theorem dX6_seed_29 : decode cX6_seed 29 = .ok (.invokevirtual 63, 3) := by decide +kernel
theorem dX6_seed_32 : decode cX6_seed 32 = .ok (.aload_n 0, 1) := by decide +kernel
theorem dX6_seed_33 : decode cX6_seed 33 = .ok (.getfield 7, 3) := by decide +kernel
theorem dX6_seed_36 : decode cX6_seed 36 = .ok (.iconst 3, 1) := by decide +kernel
theorem dX6_seed_37 : decode cX6_seed 37 = .ok (.iaload, 1) := by decide +kernel
theorem dX6_seed_38 : decode cX6_seed 38 = .ok (.istore_n 2, 1) := by decide +kernel
theorem dX6_seed_39 : decode cX6_seed 39 = .ok (.aload_n 0, 1) := by decide +kernel
theorem dX6_seed_40 : decode cX6_seed 40 = .ok (.getfield 7, 3) := by decide +kernel
theorem dX6_seed_43 : decode cX6_seed 43 = .ok (.iconst 3, 1) := by decide +kernel
theorem dX6_seed_44 : decode cX6_seed 44 = .ok (.iload_n 1, 1) := by decide +kernel
theorem dX6_seed_45 : decode cX6_seed 45 = .ok (.iastore, 1) := by decide +kernel
theorem dX6_seed_46 : decode cX6_seed 46 = .ok (.iload_n 2, 1) := by decide +kernel
theorem dX6_seed_47 : decode cX6_seed 47 = .ok (.ireturn, 1) := by decide +kernel
theorem dX6_append_0 : decode cX6_append 0 = .ok (.aload_n 0, 1) := by decide +kernel
theorem dX6_append_1 : decode cX6_append 1 = .ok (.iload_n 1, 1) := by decide +kernel
theorem dX6_append_2 : decode cX6_append 2 = .ok (.iconst 0, 1) := by decide +kernel
theorem dX6_append_3 : decode cX6_append 3 = .ok (.bipush 127, 2) := by decide +kernel
theorem dX6_append_5 : decode cX6_append 5 = .ok (.invokestatic 56, 3) := by decide +kernel
theorem dX6_append_8 : decode cX6_append 8 = .ok (.ifCond .ne 7, 3) := by decide +kernel
theorem dX6_append_11 : decode cX6_append 11 = .ok (.iconst 1, 1) := by decide +kernel
theorem dX6_append_12 : decode cX6_append 12 = .ok (.goto 17, 3) := by decide +kernel
theorem dX6_append_15 : decode cX6_append 15 = .ok (.aload_n 0, 1) := by decide +kernel
theorem dX6_append_16 : decode cX6_append 16 = .ok (.getfield 67, 3) := by decide +kernel
theorem dX6_append_19 : decode cX6_append 19 = .ok (.bipush 120, 2) := by decide +kernel
theorem dX6_append_21 : decode cX6_append 21 = .ok (.if_icmp .ne 7, 3) := by decide +kernel
theorem dX6_append_24 : decode cX6_append 24 = .ok (.iconst 2, 1) := by decide +kernel
theorem dX6_append_25 : decode cX6_append 25 = .ok (.goto 4, 3) := by decide +kernel
theorem dX6_append_28 : decode cX6_append 28 = .ok (.iconst 0, 1) := by decide +kernel
theorem dX6_append_29 : decode cX6_append 29 = .ok (.putfield 41, 3) := by decide +kernel
theorem dX6_append_32 : decode cX6_append 32 = .ok (.aload_n 0, 1) := by decide +kernel
theorem dX6_append_33 : decode cX6_append 33 = .ok (.getfield 41, 3) := by decide +kernel
theorem dX6_append_36 : decode cX6_append 36 = .ok (.ifCond .eq 5, 3) := by decide +kernel
theorem dX6_append_39 : decode cX6_append 39 = .ok (.iconst 0, 1) := by decide +kernel
theorem dX6_append_40 : decode cX6_append 40 = .ok (.ireturn, 1) := by decide +kernel
theorem dX6_append_41 : decode cX6_append 41 = .ok (.aload_n 0, 1) := by decide +kernel
theorem dX6_append_42 : decode cX6_append 42 = .ok (.getfield 25, 3) := by decide +kernel
theorem dX6_append_45 : decode cX6_append 45 = .ok (.aload_n 0, 1) := by decide +kernel
theorem dX6_append_46 : decode cX6_append 46 = .ok (.getfield 67, 3) := by decide +kernel
theorem dX6_append_49 : decode cX6_append 49 = .ok (.iload_n 1, 1) := by decide +kernel
theorem dX6_append_50 : decode cX6_append 50 = .ok (.iastore, 1) := by decide +kernel
theorem dX6_append_51 : decode cX6_append 51 = .ok (.aload_n 0, 1) := by decide +kernel
theorem dX6_append_52 : decode cX6_append 52 = .ok (.dup, 1) := by decide +kernel
theorem dX6_append_53 : decode cX6_append 53 = .ok (.getfield 67, 3) := by decide +kernel
theorem dX6_append_56 : decode cX6_append 56 = .ok (.iconst 1, 1) := by decide +kernel
theorem dX6_append_57 : decode cX6_append 57 = .ok (.iadd, 1) := by decide +kernel
theorem dX6_append_58 : decode cX6_append 58 = .ok (.putfield 67, 3) := by decide +kernel
theorem dX6_append_61 : decode cX6_append 61 = .ok (.aload_n 0, 1) := by decide +kernel
theorem dX6_append_62 : decode cX6_append 62 = .ok (.getfield 67, 3) := by decide +kernel
theorem dX6_append_65 : decode cX6_append 65 = .ok (.ireturn, 1) := by decide +kernel
theorem dX6_clearText_0 : decode cX6_clearText 0 = .ok (.aload_n 0, 1) := by decide +kernel
theorem dX6_clearText_1 : decode cX6_clearText 1 = .ok (.iconst 0, 1) := by decide +kernel
theorem dX6_clearText_2 : decode cX6_clearText 2 = .ok (.putfield 41, 3) := by decide +kernel
theorem dX6_clearText_5 : decode cX6_clearText 5 = .ok (.aload_n 0, 1) := by decide +kernel
theorem dX6_clearText_6 : decode cX6_clearText 6 = .ok (.getfield 67, 3) := by decide +kernel
theorem dX6_clearText_9 : decode cX6_clearText 9 = .ok (.istore_n 1, 1) := by decide +kernel
theorem dX6_clearText_10 : decode cX6_clearText 10 = .ok (.aload_n 0, 1) := by decide +kernel
theorem dX6_clearText_11 : decode cX6_clearText 11 = .ok (.iconst 0, 1) := by decide +kernel
theorem dX6_clearText_12 : decode cX6_clearText 12 = .ok (.putfield 67, 3) := by decide +kernel
theorem dX6_clearText_15 : decode cX6_clearText 15 = .ok (.iload_n 1, 1) := by decide +kernel
theorem dX6_clearText_16 : decode cX6_clearText 16 = .ok (.ireturn, 1) := by decide +kernel
theorem dX6_here_0 : decode cX6_here 0 = .ok (.aload_n 0, 1) := by decide +kernel
theorem dX6_here_1 : decode cX6_here 1 = .ok (.getfield 70, 3) := by decide +kernel
theorem dX6_here_4 : decode cX6_here 4 = .ok (.aload_n 0, 1) := by decide +kernel
theorem dX6_here_5 : decode cX6_here 5 = .ok (.getfield 67, 3) := by decide +kernel
theorem dX6_here_8 : decode cX6_here 8 = .ok (.if_icmp .ge 15, 3) := by decide +kernel
theorem dX6_here_11 : decode cX6_here 11 = .ok (.aload_n 0, 1) := by decide +kernel
theorem dX6_here_12 : decode cX6_here 12 = .ok (.getfield 25, 3) := by decide +kernel
theorem dX6_here_15 : decode cX6_here 15 = .ok (.aload_n 0, 1) := by decide +kernel
theorem dX6_here_16 : decode cX6_here 16 = .ok (.getfield 70, 3) := by decide +kernel
theorem dX6_here_19 : decode cX6_here 19 = .ok (.iaload, 1) := by decide +kernel
theorem dX6_here_20 : decode cX6_here 20 = .ok (.goto 4, 3) := by decide +kernel
theorem dX6_here_23 : decode cX6_here 23 = .ok (.iconst (-1), 1) := by decide +kernel
theorem dX6_here_24 : decode cX6_here 24 = .ok (.ireturn, 1) := by decide +kernel
theorem dX6_takes_0 : decode cX6_takes 0 = .ok (.aload_n 0, 1) := by decide +kernel
theorem dX6_takes_1 : decode cX6_takes 1 = .ok (.invokevirtual 73, 3) := by decide +kernel
theorem dX6_takes_4 : decode cX6_takes 4 = .ok (.iload_n 1, 1) := by decide +kernel
theorem dX6_takes_5 : decode cX6_takes 5 = .ok (.if_icmp .ne 7, 3) := by decide +kernel
theorem dX6_takes_8 : decode cX6_takes 8 = .ok (.iconst 1, 1) := by decide +kernel
theorem dX6_takes_9 : decode cX6_takes 9 = .ok (.goto 4, 3) := by decide +kernel
theorem dX6_takes_12 : decode cX6_takes 12 = .ok (.iconst 0, 1) := by decide +kernel
theorem dX6_takes_13 : decode cX6_takes 13 = .ok (.istore_n 2, 1) := by decide +kernel
theorem dX6_takes_14 : decode cX6_takes 14 = .ok (.aload_n 0, 1) := by decide +kernel
theorem dX6_takes_15 : decode cX6_takes 15 = .ok (.dup, 1) := by decide +kernel
theorem dX6_takes_16 : decode cX6_takes 16 = .ok (.getfield 70, 3) := by decide +kernel
theorem dX6_takes_19 : decode cX6_takes 19 = .ok (.iload_n 2, 1) := by decide +kernel
theorem dX6_takes_20 : decode cX6_takes 20 = .ok (.ifCond .eq 7, 3) := by decide +kernel
theorem dX6_takes_23 : decode cX6_takes 23 = .ok (.iconst 1, 1) := by decide +kernel
theorem dX6_takes_24 : decode cX6_takes 24 = .ok (.goto 4, 3) := by decide +kernel
theorem dX6_takes_27 : decode cX6_takes 27 = .ok (.iconst 0, 1) := by decide +kernel
theorem dX6_takes_28 : decode cX6_takes 28 = .ok (.iadd, 1) := by decide +kernel
theorem dX6_takes_29 : decode cX6_takes 29 = .ok (.putfield 70, 3) := by decide +kernel
theorem dX6_takes_32 : decode cX6_takes 32 = .ok (.iload_n 2, 1) := by decide +kernel
theorem dX6_takes_33 : decode cX6_takes 33 = .ok (.ireturn, 1) := by decide +kernel
theorem dX6_readLine_0 : decode cX6_readLine 0 = .ok (.aload_n 0, 1) := by decide +kernel
theorem dX6_readLine_1 : decode cX6_readLine 1 = .ok (.invokevirtual 73, 3) := by decide +kernel
theorem dX6_readLine_4 : decode cX6_readLine 4 = .ok (.bipush 48, 2) := by decide +kernel
theorem dX6_readLine_6 : decode cX6_readLine 6 = .ok (.bipush 55, 2) := by decide +kernel
theorem dX6_readLine_8 : decode cX6_readLine 8 = .ok (.invokestatic 56, 3) := by decide +kernel
theorem dX6_readLine_11 : decode cX6_readLine 11 = .ok (.istore_n 1, 1) := by decide +kernel
theorem dX6_readLine_12 : decode cX6_readLine 12 = .ok (.aload_n 0, 1) := by decide +kernel
theorem dX6_readLine_13 : decode cX6_readLine 13 = .ok (.getfield 28, 3) := by decide +kernel
theorem dX6_readLine_16 : decode cX6_readLine 16 = .ok (.iconst 2, 1) := by decide +kernel
theorem dX6_readLine_17 : decode cX6_readLine 17 = .ok (.aload_n 0, 1) := by decide +kernel
theorem dX6_readLine_18 : decode cX6_readLine 18 = .ok (.getfield 77, 3) := by decide +kernel
theorem dX6_readLine_21 : decode cX6_readLine 21 = .ok (.imul, 1) := by decide +kernel
theorem dX6_readLine_22 : decode cX6_readLine 22 = .ok (.iconst 1, 1) := by decide +kernel
theorem dX6_readLine_23 : decode cX6_readLine 23 = .ok (.iadd, 1) := by decide +kernel
theorem dX6_readLine_24 : decode cX6_readLine 24 = .ok (.iload_n 1, 1) := by decide +kernel
theorem dX6_readLine_25 : decode cX6_readLine 25 = .ok (.ifCond .eq 13, 3) := by decide +kernel
theorem dX6_readLine_28 : decode cX6_readLine 28 = .ok (.aload_n 0, 1) := by decide +kernel
theorem dX6_readLine_29 : decode cX6_readLine 29 = .ok (.invokevirtual 73, 3) := by decide +kernel
theorem dX6_readLine_32 : decode cX6_readLine 32 = .ok (.bipush 48, 2) := by decide +kernel
theorem dX6_readLine_34 : decode cX6_readLine 34 = .ok (.isub, 1) := by decide +kernel
theorem dX6_readLine_35 : decode cX6_readLine 35 = .ok (.goto 4, 3) := by decide +kernel
theorem dX6_readLine_38 : decode cX6_readLine 38 = .ok (.iconst 0, 1) := by decide +kernel
theorem dX6_readLine_39 : decode cX6_readLine 39 = .ok (.iastore, 1) := by decide +kernel
theorem dX6_readLine_40 : decode cX6_readLine 40 = .ok (.aload_n 0, 1) := by decide +kernel
theorem dX6_readLine_41 : decode cX6_readLine 41 = .ok (.dup, 1) := by decide +kernel
theorem dX6_readLine_42 : decode cX6_readLine 42 = .ok (.getfield 70, 3) := by decide +kernel
theorem dX6_readLine_45 : decode cX6_readLine 45 = .ok (.iload_n 1, 1) := by decide +kernel
theorem dX6_readLine_46 : decode cX6_readLine 46 = .ok (.ifCond .eq 7, 3) := by decide +kernel
theorem dX6_readLine_49 : decode cX6_readLine 49 = .ok (.iconst 1, 1) := by decide +kernel
theorem dX6_readLine_50 : decode cX6_readLine 50 = .ok (.goto 4, 3) := by decide +kernel
theorem dX6_readLine_53 : decode cX6_readLine 53 = .ok (.iconst 0, 1) := by decide +kernel
theorem dX6_readLine_54 : decode cX6_readLine 54 = .ok (.iadd, 1) := by decide +kernel
theorem dX6_readLine_55 : decode cX6_readLine 55 = .ok (.putfield 70, 3) := by decide +kernel
theorem dX6_readLine_58 : decode cX6_readLine 58 = .ok (.iload_n 1, 1) := by decide +kernel
theorem dX6_readLine_59 : decode cX6_readLine 59 = .ok (.ireturn, 1) := by decide +kernel
theorem dX6_readNumber_0 : decode cX6_readNumber 0 = .ok (.aload_n 0, 1) := by decide +kernel
theorem dX6_readNumber_1 : decode cX6_readNumber 1 = .ok (.bipush 45, 2) := by decide +kernel
theorem dX6_readNumber_3 : decode cX6_readNumber 3 = .ok (.invokevirtual 80, 3) := by decide +kernel
theorem dX6_readNumber_6 : decode cX6_readNumber 6 = .ok (.istore_n 1, 1) := by decide +kernel
theorem dX6_readNumber_7 : decode cX6_readNumber 7 = .ok (.iconst 0, 1) := by decide +kernel
theorem dX6_readNumber_8 : decode cX6_readNumber 8 = .ok (.istore_n 2, 1) := by decide +kernel
theorem dX6_readNumber_9 : decode cX6_readNumber 9 = .ok (.iconst 0, 1) := by decide +kernel
theorem dX6_readNumber_10 : decode cX6_readNumber 10 = .ok (.istore_n 3, 1) := by decide +kernel
theorem dX6_readNumber_11 : decode cX6_readNumber 11 = .ok (.iload_n 2, 1) := by decide +kernel
theorem dX6_readNumber_12 : decode cX6_readNumber 12 = .ok (.iconst 3, 1) := by decide +kernel
theorem dX6_readNumber_13 : decode cX6_readNumber 13 = .ok (.if_icmp .ge 46, 3) := by decide +kernel
theorem dX6_readNumber_16 : decode cX6_readNumber 16 = .ok (.aload_n 0, 1) := by decide +kernel
theorem dX6_readNumber_17 : decode cX6_readNumber 17 = .ok (.invokevirtual 73, 3) := by decide +kernel
theorem dX6_readNumber_20 : decode cX6_readNumber 20 = .ok (.bipush 48, 2) := by decide +kernel
theorem dX6_readNumber_22 : decode cX6_readNumber 22 = .ok (.bipush 57, 2) := by decide +kernel
theorem dX6_readNumber_24 : decode cX6_readNumber 24 = .ok (.invokestatic 56, 3) := by decide +kernel
theorem dX6_readNumber_27 : decode cX6_readNumber 27 = .ok (.ifCond .eq 32, 3) := by decide +kernel
theorem dX6_readNumber_30 : decode cX6_readNumber 30 = .ok (.bipush 10, 2) := by decide +kernel
theorem dX6_readNumber_32 : decode cX6_readNumber 32 = .ok (.iload_n 3, 1) := by decide +kernel
theorem dX6_readNumber_33 : decode cX6_readNumber 33 = .ok (.imul, 1) := by decide +kernel
theorem dX6_readNumber_34 : decode cX6_readNumber 34 = .ok (.aload_n 0, 1) := by decide +kernel
theorem dX6_readNumber_35 : decode cX6_readNumber 35 = .ok (.invokevirtual 73, 3) := by decide +kernel
theorem dX6_readNumber_38 : decode cX6_readNumber 38 = .ok (.iadd, 1) := by decide +kernel
theorem dX6_readNumber_39 : decode cX6_readNumber 39 = .ok (.bipush 48, 2) := by decide +kernel
theorem dX6_readNumber_41 : decode cX6_readNumber 41 = .ok (.isub, 1) := by decide +kernel
theorem dX6_readNumber_42 : decode cX6_readNumber 42 = .ok (.istore_n 3, 1) := by decide +kernel
theorem dX6_readNumber_43 : decode cX6_readNumber 43 = .ok (.iinc 2 1, 3) := by decide +kernel
theorem dX6_readNumber_46 : decode cX6_readNumber 46 = .ok (.aload_n 0, 1) := by decide +kernel
theorem dX6_readNumber_47 : decode cX6_readNumber 47 = .ok (.dup, 1) := by decide +kernel
theorem dX6_readNumber_48 : decode cX6_readNumber 48 = .ok (.getfield 70, 3) := by decide +kernel
theorem dX6_readNumber_51 : decode cX6_readNumber 51 = .ok (.iconst 1, 1) := by decide +kernel
theorem dX6_readNumber_52 : decode cX6_readNumber 52 = .ok (.iadd, 1) := by decide +kernel
theorem dX6_readNumber_53 : decode cX6_readNumber 53 = .ok (.putfield 70, 3) := by decide +kernel
theorem dX6_readNumber_56 : decode cX6_readNumber 56 = .ok (.goto (-45), 3) := by decide +kernel
theorem dX6_readNumber_59 : decode cX6_readNumber 59 = .ok (.aload_n 0, 1) := by decide +kernel
theorem dX6_readNumber_60 : decode cX6_readNumber 60 = .ok (.getfield 28, 3) := by decide +kernel
theorem dX6_readNumber_63 : decode cX6_readNumber 63 = .ok (.iconst 2, 1) := by decide +kernel
theorem dX6_readNumber_64 : decode cX6_readNumber 64 = .ok (.aload_n 0, 1) := by decide +kernel
theorem dX6_readNumber_65 : decode cX6_readNumber 65 = .ok (.getfield 77, 3) := by decide +kernel
theorem dX6_readNumber_68 : decode cX6_readNumber 68 = .ok (.imul, 1) := by decide +kernel
theorem dX6_readNumber_69 : decode cX6_readNumber 69 = .ok (.iconst 1, 1) := by decide +kernel
theorem dX6_readNumber_70 : decode cX6_readNumber 70 = .ok (.iadd, 1) := by decide +kernel
theorem dX6_readNumber_71 : decode cX6_readNumber 71 = .ok (.iload_n 1, 1) := by decide +kernel
theorem dX6_readNumber_72 : decode cX6_readNumber 72 = .ok (.ifCond .eq 8, 3) := by decide +kernel
theorem dX6_readNumber_75 : decode cX6_readNumber 75 = .ok (.iload_n 3, 1) := by decide +kernel
theorem dX6_readNumber_76 : decode cX6_readNumber 76 = .ok (.ineg, 1) := by decide +kernel
theorem dX6_readNumber_77 : decode cX6_readNumber 77 = .ok (.goto 4, 3) := by decide +kernel
theorem dX6_readNumber_80 : decode cX6_readNumber 80 = .ok (.iload_n 3, 1) := by decide +kernel
theorem dX6_readNumber_81 : decode cX6_readNumber 81 = .ok (.iastore, 1) := by decide +kernel
theorem dX6_readNumber_82 : decode cX6_readNumber 82 = .ok (.iload_n 2, 1) := by decide +kernel
theorem dX6_readNumber_83 : decode cX6_readNumber 83 = .ok (.ifCond .le 7, 3) := by decide +kernel
theorem dX6_readNumber_86 : decode cX6_readNumber 86 = .ok (.iconst 1, 1) := by decide +kernel
theorem dX6_readNumber_87 : decode cX6_readNumber 87 = .ok (.goto 4, 3) := by decide +kernel
theorem dX6_readNumber_90 : decode cX6_readNumber 90 = .ok (.iconst 0, 1) := by decide +kernel
theorem dX6_readNumber_91 : decode cX6_readNumber 91 = .ok (.ireturn, 1) := by decide +kernel
theorem dX6_readInstruction_0 : decode cX6_readInstruction 0 = .ok (.aload_n 0, 1) := by decide +kernel
theorem dX6_readInstruction_1 : decode cX6_readInstruction 1 = .ok (.invokevirtual 73, 3) := by decide +kernel
theorem dX6_readInstruction_4 : decode cX6_readInstruction 4 = .ok (.istore_n 1, 1) := by decide +kernel
theorem dX6_readInstruction_5 : decode cX6_readInstruction 5 = .ok (.iload_n 1, 1) := by decide +kernel
theorem dX6_readInstruction_6 : decode cX6_readInstruction 6 = .ok (.bipush 98, 2) := by decide +kernel
theorem dX6_readInstruction_8 : decode cX6_readInstruction 8 = .ok (.if_icmp .eq 27, 3) := by decide +kernel
theorem dX6_readInstruction_11 : decode cX6_readInstruction 11 = .ok (.iload_n 1, 1) := by decide +kernel
theorem dX6_readInstruction_12 : decode cX6_readInstruction 12 = .ok (.bipush 99, 2) := by decide +kernel
theorem dX6_readInstruction_14 : decode cX6_readInstruction 14 = .ok (.if_icmp .eq 21, 3) := by decide +kernel
theorem dX6_readInstruction_17 : decode cX6_readInstruction 17 = .ok (.iload_n 1, 1) := by decide +kernel
theorem dX6_readInstruction_18 : decode cX6_readInstruction 18 = .ok (.bipush 114, 2) := by decide +kernel
theorem dX6_readInstruction_20 : decode cX6_readInstruction 20 = .ok (.if_icmp .eq 15, 3) := by decide +kernel
theorem dX6_readInstruction_23 : decode cX6_readInstruction 23 = .ok (.iload_n 1, 1) := by decide +kernel
theorem dX6_readInstruction_24 : decode cX6_readInstruction 24 = .ok (.bipush 119, 2) := by decide +kernel
theorem dX6_readInstruction_26 : decode cX6_readInstruction 26 = .ok (.if_icmp .eq 9, 3) := by decide +kernel
theorem dX6_readInstruction_29 : decode cX6_readInstruction 29 = .ok (.iload_n 1, 1) := by decide +kernel
theorem dX6_readInstruction_30 : decode cX6_readInstruction 30 = .ok (.bipush 97, 2) := by decide +kernel
theorem dX6_readInstruction_32 : decode cX6_readInstruction 32 = .ok (.if_icmp .ne 7, 3) := by decide +kernel
theorem dX6_readInstruction_35 : decode cX6_readInstruction 35 = .ok (.iconst 1, 1) := by decide +kernel
theorem dX6_readInstruction_36 : decode cX6_readInstruction 36 = .ok (.goto 4, 3) := by decide +kernel
theorem dX6_readInstruction_39 : decode cX6_readInstruction 39 = .ok (.iconst 0, 1) := by decide +kernel
theorem dX6_readInstruction_40 : decode cX6_readInstruction 40 = .ok (.istore_n 2, 1) := by decide +kernel
theorem dX6_readInstruction_41 : decode cX6_readInstruction 41 = .ok (.aload_n 0, 1) := by decide +kernel
theorem dX6_readInstruction_42 : decode cX6_readInstruction 42 = .ok (.getfield 77, 3) := by decide +kernel
theorem dX6_readInstruction_45 : decode cX6_readInstruction 45 = .ok (.bipush 30, 2) := by decide +kernel
theorem dX6_readInstruction_47 : decode cX6_readInstruction 47 = .ok (.if_icmp .eq 7, 3) := by decide +kernel
theorem dX6_readInstruction_50 : decode cX6_readInstruction 50 = .ok (.iload_n 2, 1) := by decide +kernel
theorem dX6_readInstruction_51 : decode cX6_readInstruction 51 = .ok (.ifCond .ne 5, 3) := by decide +kernel
theorem dX6_readInstruction_54 : decode cX6_readInstruction 54 = .ok (.iconst 0, 1) := by decide +kernel
theorem dX6_readInstruction_55 : decode cX6_readInstruction 55 = .ok (.ireturn, 1) := by decide +kernel
theorem dX6_readInstruction_56 : decode cX6_readInstruction 56 = .ok (.aload_n 0, 1) := by decide +kernel
theorem dX6_readInstruction_57 : decode cX6_readInstruction 57 = .ok (.dup, 1) := by decide +kernel
theorem dX6_readInstruction_58 : decode cX6_readInstruction 58 = .ok (.getfield 70, 3) := by decide +kernel
theorem dX6_readInstruction_61 : decode cX6_readInstruction 61 = .ok (.iconst 1, 1) := by decide +kernel
theorem dX6_readInstruction_62 : decode cX6_readInstruction 62 = .ok (.iadd, 1) := by decide +kernel
theorem dX6_readInstruction_63 : decode cX6_readInstruction 63 = .ok (.putfield 70, 3) := by decide +kernel
theorem dX6_readInstruction_66 : decode cX6_readInstruction 66 = .ok (.aload_n 0, 1) := by decide +kernel
theorem dX6_readInstruction_67 : decode cX6_readInstruction 67 = .ok (.getfield 28, 3) := by decide +kernel
theorem dX6_readInstruction_70 : decode cX6_readInstruction 70 = .ok (.iconst 2, 1) := by decide +kernel
theorem dX6_readInstruction_71 : decode cX6_readInstruction 71 = .ok (.aload_n 0, 1) := by decide +kernel
theorem dX6_readInstruction_72 : decode cX6_readInstruction 72 = .ok (.getfield 77, 3) := by decide +kernel
theorem dX6_readInstruction_75 : decode cX6_readInstruction 75 = .ok (.imul, 1) := by decide +kernel
theorem dX6_readInstruction_76 : decode cX6_readInstruction 76 = .ok (.iload_n 1, 1) := by decide +kernel
theorem dX6_readInstruction_77 : decode cX6_readInstruction 77 = .ok (.iastore, 1) := by decide +kernel
theorem dX6_readInstruction_78 : decode cX6_readInstruction 78 = .ok (.aload_n 0, 1) := by decide +kernel
theorem dX6_readInstruction_79 : decode cX6_readInstruction 79 = .ok (.getfield 28, 3) := by decide +kernel
theorem dX6_readInstruction_82 : decode cX6_readInstruction 82 = .ok (.iconst 2, 1) := by decide +kernel
theorem dX6_readInstruction_83 : decode cX6_readInstruction 83 = .ok (.aload_n 0, 1) := by decide +kernel
theorem dX6_readInstruction_84 : decode cX6_readInstruction 84 = .ok (.getfield 77, 3) := by decide +kernel
theorem dX6_readInstruction_87 : decode cX6_readInstruction 87 = .ok (.imul, 1) := by decide +kernel
theorem dX6_readInstruction_88 : decode cX6_readInstruction 88 = .ok (.iconst 1, 1) := by decide +kernel
theorem dX6_readInstruction_89 : decode cX6_readInstruction 89 = .ok (.iadd, 1) := by decide +kernel
theorem dX6_readInstruction_90 : decode cX6_readInstruction 90 = .ok (.iconst 0, 1) := by decide +kernel
theorem dX6_readInstruction_91 : decode cX6_readInstruction 91 = .ok (.iastore, 1) := by decide +kernel
theorem dX6_readInstruction_92 : decode cX6_readInstruction 92 = .ok (.iload_n 1, 1) := by decide +kernel
theorem dX6_readInstruction_93 : decode cX6_readInstruction 93 = .ok (.bipush 98, 2) := by decide +kernel
theorem dX6_readInstruction_95 : decode cX6_readInstruction 95 = .ok (.if_icmp .eq 32, 3) := by decide +kernel
theorem dX6_readInstruction_98 : decode cX6_readInstruction 98 = .ok (.iload_n 1, 1) := by decide +kernel
theorem dX6_readInstruction_99 : decode cX6_readInstruction 99 = .ok (.bipush 99, 2) := by decide +kernel
theorem dX6_readInstruction_101 : decode cX6_readInstruction 101 = .ok (.if_icmp .eq 26, 3) := by decide +kernel
theorem dX6_readInstruction_104 : decode cX6_readInstruction 104 = .ok (.iload_n 1, 1) := by decide +kernel
theorem dX6_readInstruction_105 : decode cX6_readInstruction 105 = .ok (.bipush 97, 2) := by decide +kernel
theorem dX6_readInstruction_107 : decode cX6_readInstruction 107 = .ok (.if_icmp .ne 13, 3) := by decide +kernel
theorem dX6_readInstruction_110 : decode cX6_readInstruction 110 = .ok (.aload_n 0, 1) := by decide +kernel
theorem dX6_readInstruction_111 : decode cX6_readInstruction 111 = .ok (.invokevirtual 84, 3) := by decide +kernel
theorem dX6_readInstruction_114 : decode cX6_readInstruction 114 = .ok (.ifCond .eq 17, 3) := by decide +kernel
theorem dX6_readInstruction_117 : decode cX6_readInstruction 117 = .ok (.goto 10, 3) := by decide +kernel
theorem dX6_readInstruction_120 : decode cX6_readInstruction 120 = .ok (.aload_n 0, 1) := by decide +kernel
theorem dX6_readInstruction_121 : decode cX6_readInstruction 121 = .ok (.invokevirtual 88, 3) := by decide +kernel
theorem dX6_readInstruction_124 : decode cX6_readInstruction 124 = .ok (.ifCond .eq 7, 3) := by decide +kernel
theorem dX6_readInstruction_127 : decode cX6_readInstruction 127 = .ok (.iconst 1, 1) := by decide +kernel
theorem dX6_readInstruction_128 : decode cX6_readInstruction 128 = .ok (.goto 4, 3) := by decide +kernel
theorem dX6_readInstruction_131 : decode cX6_readInstruction 131 = .ok (.iconst 0, 1) := by decide +kernel
theorem dX6_readInstruction_132 : decode cX6_readInstruction 132 = .ok (.istore_n 3, 1) := by decide +kernel
theorem dX6_readInstruction_133 : decode cX6_readInstruction 133 = .ok (.iload_n 3, 1) := by decide +kernel
theorem dX6_readInstruction_134 : decode cX6_readInstruction 134 = .ok (.ifCond .eq 12, 3) := by decide +kernel
theorem dX6_readInstruction_137 : decode cX6_readInstruction 137 = .ok (.aload_n 0, 1) := by decide +kernel
theorem dX6_readInstruction_138 : decode cX6_readInstruction 138 = .ok (.bipush 59, 2) := by decide +kernel
theorem dX6_readInstruction_140 : decode cX6_readInstruction 140 = .ok (.invokevirtual 80, 3) := by decide +kernel
theorem dX6_readInstruction_143 : decode cX6_readInstruction 143 = .ok (.ifCond .ne 5, 3) := by decide +kernel
theorem dX6_readInstruction_146 : decode cX6_readInstruction 146 = .ok (.iconst 0, 1) := by decide +kernel
theorem dX6_readInstruction_147 : decode cX6_readInstruction 147 = .ok (.ireturn, 1) := by decide +kernel
theorem dX6_readInstruction_148 : decode cX6_readInstruction 148 = .ok (.aload_n 0, 1) := by decide +kernel
theorem dX6_readInstruction_149 : decode cX6_readInstruction 149 = .ok (.dup, 1) := by decide +kernel
theorem dX6_readInstruction_150 : decode cX6_readInstruction 150 = .ok (.getfield 77, 3) := by decide +kernel
theorem dX6_readInstruction_153 : decode cX6_readInstruction 153 = .ok (.iconst 1, 1) := by decide +kernel
theorem dX6_readInstruction_154 : decode cX6_readInstruction 154 = .ok (.iadd, 1) := by decide +kernel
theorem dX6_readInstruction_155 : decode cX6_readInstruction 155 = .ok (.putfield 77, 3) := by decide +kernel
theorem dX6_readInstruction_158 : decode cX6_readInstruction 158 = .ok (.iconst 1, 1) := by decide +kernel
theorem dX6_readInstruction_159 : decode cX6_readInstruction 159 = .ok (.ireturn, 1) := by decide +kernel
theorem dX6_readAll_0 : decode cX6_readAll 0 = .ok (.aload_n 0, 1) := by decide +kernel
theorem dX6_readAll_1 : decode cX6_readAll 1 = .ok (.iconst 0, 1) := by decide +kernel
theorem dX6_readAll_2 : decode cX6_readAll 2 = .ok (.putfield 70, 3) := by decide +kernel
theorem dX6_readAll_5 : decode cX6_readAll 5 = .ok (.aload_n 0, 1) := by decide +kernel
theorem dX6_readAll_6 : decode cX6_readAll 6 = .ok (.iconst 0, 1) := by decide +kernel
theorem dX6_readAll_7 : decode cX6_readAll 7 = .ok (.putfield 77, 3) := by decide +kernel
theorem dX6_readAll_10 : decode cX6_readAll 10 = .ok (.iconst 1, 1) := by decide +kernel
theorem dX6_readAll_11 : decode cX6_readAll 11 = .ok (.istore_n 1, 1) := by decide +kernel
theorem dX6_readAll_12 : decode cX6_readAll 12 = .ok (.iload_n 1, 1) := by decide +kernel
theorem dX6_readAll_13 : decode cX6_readAll 13 = .ok (.ifCond .eq 22, 3) := by decide +kernel
theorem dX6_readAll_16 : decode cX6_readAll 16 = .ok (.aload_n 0, 1) := by decide +kernel
theorem dX6_readAll_17 : decode cX6_readAll 17 = .ok (.getfield 70, 3) := by decide +kernel
theorem dX6_readAll_20 : decode cX6_readAll 20 = .ok (.aload_n 0, 1) := by decide +kernel
theorem dX6_readAll_21 : decode cX6_readAll 21 = .ok (.getfield 67, 3) := by decide +kernel
theorem dX6_readAll_24 : decode cX6_readAll 24 = .ok (.if_icmp .ge 11, 3) := by decide +kernel
theorem dX6_readAll_27 : decode cX6_readAll 27 = .ok (.aload_n 0, 1) := by decide +kernel
theorem dX6_readAll_28 : decode cX6_readAll 28 = .ok (.invokevirtual 91, 3) := by decide +kernel
theorem dX6_readAll_31 : decode cX6_readAll 31 = .ok (.istore_n 1, 1) := by decide +kernel
theorem dX6_readAll_32 : decode cX6_readAll 32 = .ok (.goto (-20), 3) := by decide +kernel
theorem dX6_readAll_35 : decode cX6_readAll 35 = .ok (.iload_n 1, 1) := by decide +kernel
theorem dX6_readAll_36 : decode cX6_readAll 36 = .ok (.ireturn, 1) := by decide +kernel
theorem dX6_load_0 : decode cX6_load 0 = .ok (.aload_n 0, 1) := by decide +kernel
theorem dX6_load_1 : decode cX6_load 1 = .ok (.aload_n 0, 1) := by decide +kernel
theorem dX6_load_2 : decode cX6_load 2 = .ok (.iload_n 1, 1) := by decide +kernel
theorem dX6_load_3 : decode cX6_load 3 = .ok (.invokevirtual 94, 3) := by decide +kernel
theorem dX6_load_6 : decode cX6_load 6 = .ok (.ifCond .ne 7, 3) := by decide +kernel
theorem dX6_load_9 : decode cX6_load 9 = .ok (.iconst 1, 1) := by decide +kernel
theorem dX6_load_10 : decode cX6_load 10 = .ok (.goto 18, 3) := by decide +kernel
theorem dX6_load_13 : decode cX6_load 13 = .ok (.aload_n 0, 1) := by decide +kernel
theorem dX6_load_14 : decode cX6_load 14 = .ok (.iload_n 1, 1) := by decide +kernel
theorem dX6_load_15 : decode cX6_load 15 = .ok (.iconst 3, 1) := by decide +kernel
theorem dX6_load_16 : decode cX6_load 16 = .ok (.invokevirtual 97, 3) := by decide +kernel
theorem dX6_load_19 : decode cX6_load 19 = .ok (.iconst 1, 1) := by decide +kernel
theorem dX6_load_20 : decode cX6_load 20 = .ok (.if_icmp .ne 7, 3) := by decide +kernel
theorem dX6_load_23 : decode cX6_load 23 = .ok (.iconst 2, 1) := by decide +kernel
theorem dX6_load_24 : decode cX6_load 24 = .ok (.goto 4, 3) := by decide +kernel
theorem dX6_load_27 : decode cX6_load 27 = .ok (.iconst 0, 1) := by decide +kernel
theorem dX6_load_28 : decode cX6_load 28 = .ok (.putfield 41, 3) := by decide +kernel
theorem dX6_load_31 : decode cX6_load 31 = .ok (.aload_n 0, 1) := by decide +kernel
theorem dX6_load_32 : decode cX6_load 32 = .ok (.getfield 41, 3) := by decide +kernel
theorem dX6_load_35 : decode cX6_load 35 = .ok (.ifCond .eq 5, 3) := by decide +kernel
theorem dX6_load_38 : decode cX6_load 38 = .ok (.iconst 0, 1) := by decide +kernel
theorem dX6_load_39 : decode cX6_load 39 = .ok (.ireturn, 1) := by decide +kernel
theorem dX6_load_40 : decode cX6_load 40 = .ok (.aload_n 0, 1) := by decide +kernel
theorem dX6_load_41 : decode cX6_load 41 = .ok (.invokevirtual 100, 3) := by decide +kernel
theorem dX6_load_44 : decode cX6_load 44 = .ok (.ifCond .ne 11, 3) := by decide +kernel
theorem dX6_load_47 : decode cX6_load 47 = .ok (.bipush (-10), 2) := by decide +kernel
theorem dX6_load_49 : decode cX6_load 49 = .ok (.aload_n 0, 1) := by decide +kernel
theorem dX6_load_50 : decode cX6_load 50 = .ok (.getfield 70, 3) := by decide +kernel
theorem dX6_load_53 : decode cX6_load 53 = .ok (.isub, 1) := by decide +kernel
theorem dX6_load_54 : decode cX6_load 54 = .ok (.ireturn, 1) := by decide +kernel
theorem dX6_load_55 : decode cX6_load 55 = .ok (.aload_n 0, 1) := by decide +kernel
theorem dX6_load_56 : decode cX6_load 56 = .ok (.invokevirtual 63, 3) := by decide +kernel
theorem dX6_load_59 : decode cX6_load 59 = .ok (.iconst 0, 1) := by decide +kernel
theorem dX6_load_60 : decode cX6_load 60 = .ok (.istore_n 2, 1) := by decide +kernel
theorem dX6_load_61 : decode cX6_load 61 = .ok (.iload_n 2, 1) := by decide +kernel
theorem dX6_load_62 : decode cX6_load 62 = .ok (.iconst 2, 1) := by decide +kernel
theorem dX6_load_63 : decode cX6_load 63 = .ok (.aload_n 0, 1) := by decide +kernel
theorem dX6_load_64 : decode cX6_load 64 = .ok (.getfield 77, 3) := by decide +kernel
theorem dX6_load_67 : decode cX6_load 67 = .ok (.imul, 1) := by decide +kernel
theorem dX6_load_68 : decode cX6_load 68 = .ok (.if_icmp .ge 24, 3) := by decide +kernel
theorem dX6_load_71 : decode cX6_load 71 = .ok (.aload_n 0, 1) := by decide +kernel
theorem dX6_load_72 : decode cX6_load 72 = .ok (.iload_n 1, 1) := by decide +kernel
theorem dX6_load_73 : decode cX6_load 73 = .ok (.bipush 36, 2) := by decide +kernel
theorem dX6_load_75 : decode cX6_load 75 = .ok (.iload_n 2, 1) := by decide +kernel
theorem dX6_load_76 : decode cX6_load 76 = .ok (.iadd, 1) := by decide +kernel
theorem dX6_load_77 : decode cX6_load 77 = .ok (.aload_n 0, 1) := by decide +kernel
theorem dX6_load_78 : decode cX6_load 78 = .ok (.getfield 28, 3) := by decide +kernel
theorem dX6_load_81 : decode cX6_load 81 = .ok (.iload_n 2, 1) := by decide +kernel
theorem dX6_load_82 : decode cX6_load 82 = .ok (.iaload, 1) := by decide +kernel
theorem dX6_load_83 : decode cX6_load 83 = .ok (.invokevirtual 60, 3) := by decide +kernel
theorem dX6_load_86 : decode cX6_load 86 = .ok (.iinc 2 1, 3) := by decide +kernel
theorem dX6_load_89 : decode cX6_load 89 = .ok (.goto (-28), 3) := by decide +kernel
theorem dX6_load_92 : decode cX6_load 92 = .ok (.aload_n 0, 1) := by decide +kernel
theorem dX6_load_93 : decode cX6_load 93 = .ok (.iload_n 1, 1) := by decide +kernel
theorem dX6_load_94 : decode cX6_load 94 = .ok (.iconst 2, 1) := by decide +kernel
theorem dX6_load_95 : decode cX6_load 95 = .ok (.aload_n 0, 1) := by decide +kernel
theorem dX6_load_96 : decode cX6_load 96 = .ok (.getfield 77, 3) := by decide +kernel
theorem dX6_load_99 : decode cX6_load 99 = .ok (.invokevirtual 60, 3) := by decide +kernel
theorem dX6_load_102 : decode cX6_load 102 = .ok (.aload_n 0, 1) := by decide +kernel
theorem dX6_load_103 : decode cX6_load 103 = .ok (.iload_n 1, 1) := by decide +kernel
theorem dX6_load_104 : decode cX6_load 104 = .ok (.iconst 1, 1) := by decide +kernel
theorem dX6_load_105 : decode cX6_load 105 = .ok (.iconst 0, 1) := by decide +kernel
theorem dX6_load_106 : decode cX6_load 106 = .ok (.invokevirtual 60, 3) := by decide +kernel
theorem dX6_load_109 : decode cX6_load 109 = .ok (.aload_n 0, 1) := by decide +kernel
theorem dX6_load_110 : decode cX6_load 110 = .ok (.iload_n 1, 1) := by decide +kernel
theorem dX6_load_111 : decode cX6_load 111 = .ok (.iconst 0, 1) := by decide +kernel
theorem dX6_load_112 : decode cX6_load 112 = .ok (.iconst 0, 1) := by decide +kernel
theorem dX6_load_113 : decode cX6_load 113 = .ok (.invokevirtual 60, 3) := by decide +kernel
theorem dX6_load_116 : decode cX6_load 116 = .ok (.aload_n 0, 1) := by decide +kernel
theorem dX6_load_117 : decode cX6_load 117 = .ok (.iload_n 1, 1) := by decide +kernel
theorem dX6_load_118 : decode cX6_load 118 = .ok (.iconst 4, 1) := by decide +kernel
theorem dX6_load_119 : decode cX6_load 119 = .ok (.iconst (-1), 1) := by decide +kernel
theorem dX6_load_120 : decode cX6_load 120 = .ok (.invokevirtual 60, 3) := by decide +kernel
theorem dX6_load_123 : decode cX6_load 123 = .ok (.aload_n 0, 1) := by decide +kernel
theorem dX6_load_124 : decode cX6_load 124 = .ok (.getfield 77, 3) := by decide +kernel
theorem dX6_load_127 : decode cX6_load 127 = .ok (.ireturn, 1) := by decide +kernel
theorem dX6_isFinished_0 : decode cX6_isFinished 0 = .ok (.aload_n 0, 1) := by decide +kernel
theorem dX6_isFinished_1 : decode cX6_isFinished 1 = .ok (.iload_n 1, 1) := by decide +kernel
theorem dX6_isFinished_2 : decode cX6_isFinished 2 = .ok (.iconst 1, 1) := by decide +kernel
theorem dX6_isFinished_3 : decode cX6_isFinished 3 = .ok (.invokevirtual 97, 3) := by decide +kernel
theorem dX6_isFinished_6 : decode cX6_isFinished 6 = .ok (.aload_n 0, 1) := by decide +kernel
theorem dX6_isFinished_7 : decode cX6_isFinished 7 = .ok (.iload_n 1, 1) := by decide +kernel
theorem dX6_isFinished_8 : decode cX6_isFinished 8 = .ok (.iconst 2, 1) := by decide +kernel
theorem dX6_isFinished_9 : decode cX6_isFinished 9 = .ok (.invokevirtual 97, 3) := by decide +kernel
theorem dX6_isFinished_12 : decode cX6_isFinished 12 = .ok (.if_icmp .ne 7, 3) := by decide +kernel
theorem dX6_isFinished_15 : decode cX6_isFinished 15 = .ok (.iconst 1, 1) := by decide +kernel
theorem dX6_isFinished_16 : decode cX6_isFinished 16 = .ok (.goto 4, 3) := by decide +kernel
theorem dX6_isFinished_19 : decode cX6_isFinished 19 = .ok (.iconst 0, 1) := by decide +kernel
theorem dX6_isFinished_20 : decode cX6_isFinished 20 = .ok (.ireturn, 1) := by decide +kernel
theorem dX6_again_0 : decode cX6_again 0 = .ok (.aload_n 0, 1) := by decide +kernel
theorem dX6_again_1 : decode cX6_again 1 = .ok (.aload_n 0, 1) := by decide +kernel
theorem dX6_again_2 : decode cX6_again 2 = .ok (.iload_n 1, 1) := by decide +kernel
theorem dX6_again_3 : decode cX6_again 3 = .ok (.invokevirtual 94, 3) := by decide +kernel
theorem dX6_again_6 : decode cX6_again 6 = .ok (.ifCond .ne 7, 3) := by decide +kernel
theorem dX6_again_9 : decode cX6_again 9 = .ok (.iconst 1, 1) := by decide +kernel
theorem dX6_again_10 : decode cX6_again 10 = .ok (.goto 26, 3) := by decide +kernel
theorem dX6_again_13 : decode cX6_again 13 = .ok (.aload_n 0, 1) := by decide +kernel
theorem dX6_again_14 : decode cX6_again 14 = .ok (.iload_n 1, 1) := by decide +kernel
theorem dX6_again_15 : decode cX6_again 15 = .ok (.invokevirtual 103, 3) := by decide +kernel
theorem dX6_again_18 : decode cX6_again 18 = .ok (.ifCond .eq 13, 3) := by decide +kernel
theorem dX6_again_21 : decode cX6_again 21 = .ok (.aload_n 0, 1) := by decide +kernel
theorem dX6_again_22 : decode cX6_again 22 = .ok (.iload_n 1, 1) := by decide +kernel
theorem dX6_again_23 : decode cX6_again 23 = .ok (.iconst 3, 1) := by decide +kernel
theorem dX6_again_24 : decode cX6_again 24 = .ok (.invokevirtual 97, 3) := by decide +kernel
theorem dX6_again_27 : decode cX6_again 27 = .ok (.iconst 1, 1) := by decide +kernel
theorem dX6_again_28 : decode cX6_again 28 = .ok (.if_icmp .ne 7, 3) := by decide +kernel
theorem dX6_again_31 : decode cX6_again 31 = .ok (.iconst 2, 1) := by decide +kernel
theorem dX6_again_32 : decode cX6_again 32 = .ok (.goto 4, 3) := by decide +kernel
theorem dX6_again_35 : decode cX6_again 35 = .ok (.iconst 0, 1) := by decide +kernel
theorem dX6_again_36 : decode cX6_again 36 = .ok (.putfield 41, 3) := by decide +kernel
theorem dX6_again_39 : decode cX6_again 39 = .ok (.aload_n 0, 1) := by decide +kernel
theorem dX6_again_40 : decode cX6_again 40 = .ok (.getfield 41, 3) := by decide +kernel
theorem dX6_again_43 : decode cX6_again 43 = .ok (.ifCond .eq 5, 3) := by decide +kernel
theorem dX6_again_46 : decode cX6_again 46 = .ok (.iconst 0, 1) := by decide +kernel
theorem dX6_again_47 : decode cX6_again 47 = .ok (.ireturn, 1) := by decide +kernel
theorem dX6_again_48 : decode cX6_again 48 = .ok (.aload_n 0, 1) := by decide +kernel
theorem dX6_again_49 : decode cX6_again 49 = .ok (.invokevirtual 63, 3) := by decide +kernel
theorem dX6_again_52 : decode cX6_again 52 = .ok (.aload_n 0, 1) := by decide +kernel
theorem dX6_again_53 : decode cX6_again 53 = .ok (.iload_n 1, 1) := by decide +kernel
theorem dX6_again_54 : decode cX6_again 54 = .ok (.iconst 1, 1) := by decide +kernel
theorem dX6_again_55 : decode cX6_again 55 = .ok (.iconst 0, 1) := by decide +kernel
theorem dX6_again_56 : decode cX6_again 56 = .ok (.invokevirtual 60, 3) := by decide +kernel
theorem dX6_again_59 : decode cX6_again 59 = .ok (.aload_n 0, 1) := by decide +kernel
theorem dX6_again_60 : decode cX6_again 60 = .ok (.iload_n 1, 1) := by decide +kernel
theorem dX6_again_61 : decode cX6_again 61 = .ok (.iconst 2, 1) := by decide +kernel
theorem dX6_again_62 : decode cX6_again 62 = .ok (.invokevirtual 97, 3) := by decide +kernel
theorem dX6_again_65 : decode cX6_again 65 = .ok (.ireturn, 1) := by decide +kernel
theorem dX6_log_0 : decode cX6_log 0 = .ok (.aload_n 0, 1) := by decide +kernel
theorem dX6_log_1 : decode cX6_log 1 = .ok (.getfield 106, 3) := by decide +kernel
theorem dX6_log_4 : decode cX6_log 4 = .ok (.ifCond .ne 16, 3) := by decide +kernel
theorem dX6_log_7 : decode cX6_log 7 = .ok (.aload_n 0, 1) := by decide +kernel
theorem dX6_log_8 : decode cX6_log 8 = .ok (.getfield 7, 3) := by decide +kernel
theorem dX6_log_11 : decode cX6_log 11 = .ok (.bipush 21, 2) := by decide +kernel
theorem dX6_log_13 : decode cX6_log 13 = .ok (.iaload, 1) := by decide +kernel
theorem dX6_log_14 : decode cX6_log 14 = .ok (.sipush 400, 3) := by decide +kernel
theorem dX6_log_17 : decode cX6_log 17 = .ok (.if_icmp .ne 4, 3) := by decide +kernel
theorem dX6_log_20 : decode cX6_log 20 = .ok (.return_, 1) := by decide +kernel
theorem dX6_log_21 : decode cX6_log 21 = .ok (.sipush 406, 3) := by decide +kernel
theorem dX6_log_24 : decode cX6_log 24 = .ok (.bipush 19, 2) := by decide +kernel
theorem dX6_log_26 : decode cX6_log 26 = .ok (.aload_n 0, 1) := by decide +kernel
theorem dX6_log_27 : decode cX6_log 27 = .ok (.getfield 7, 3) := by decide +kernel
theorem dX6_log_30 : decode cX6_log 30 = .ok (.bipush 21, 2) := by decide +kernel
theorem dX6_log_32 : decode cX6_log 32 = .ok (.iaload, 1) := by decide +kernel
theorem dX6_log_33 : decode cX6_log 33 = .ok (.imul, 1) := by decide +kernel
theorem dX6_log_34 : decode cX6_log 34 = .ok (.iadd, 1) := by decide +kernel
theorem dX6_log_35 : decode cX6_log 35 = .ok (.istore 5, 2) := by decide +kernel
theorem dX6_log_37 : decode cX6_log 37 = .ok (.aload_n 0, 1) := by decide +kernel
theorem dX6_log_38 : decode cX6_log 38 = .ok (.getfield 7, 3) := by decide +kernel
theorem dX6_log_41 : decode cX6_log 41 = .ok (.iload 5, 2) := by decide +kernel
theorem dX6_log_43 : decode cX6_log 43 = .ok (.iload_n 1, 1) := by decide +kernel
theorem dX6_log_44 : decode cX6_log 44 = .ok (.iastore, 1) := by decide +kernel
theorem dX6_log_45 : decode cX6_log 45 = .ok (.aload_n 0, 1) := by decide +kernel
theorem dX6_log_46 : decode cX6_log 46 = .ok (.getfield 7, 3) := by decide +kernel
theorem dX6_log_49 : decode cX6_log 49 = .ok (.iload 5, 2) := by decide +kernel
theorem dX6_log_51 : decode cX6_log 51 = .ok (.iconst 1, 1) := by decide +kernel
theorem dX6_log_52 : decode cX6_log 52 = .ok (.iadd, 1) := by decide +kernel
theorem dX6_log_53 : decode cX6_log 53 = .ok (.iload_n 2, 1) := by decide +kernel
theorem dX6_log_54 : decode cX6_log 54 = .ok (.iastore, 1) := by decide +kernel
theorem dX6_log_55 : decode cX6_log 55 = .ok (.aload_n 0, 1) := by decide +kernel
theorem dX6_log_56 : decode cX6_log 56 = .ok (.getfield 7, 3) := by decide +kernel
theorem dX6_log_59 : decode cX6_log 59 = .ok (.iload 5, 2) := by decide +kernel
theorem dX6_log_61 : decode cX6_log 61 = .ok (.iconst 2, 1) := by decide +kernel
theorem dX6_log_62 : decode cX6_log 62 = .ok (.iadd, 1) := by decide +kernel
theorem dX6_log_63 : decode cX6_log 63 = .ok (.iload_n 3, 1) := by decide +kernel
theorem dX6_log_64 : decode cX6_log 64 = .ok (.sipush 256, 3) := by decide +kernel
theorem dX6_log_67 : decode cX6_log 67 = .ok (.iload 4, 2) := by decide +kernel
theorem dX6_log_69 : decode cX6_log 69 = .ok (.imul, 1) := by decide +kernel
theorem dX6_log_70 : decode cX6_log 70 = .ok (.iadd, 1) := by decide +kernel
theorem dX6_log_71 : decode cX6_log 71 = .ok (.iastore, 1) := by decide +kernel
theorem dX6_log_72 : decode cX6_log 72 = .ok (.iconst 0, 1) := by decide +kernel
theorem dX6_log_73 : decode cX6_log 73 = .ok (.istore 6, 2) := by decide +kernel
theorem dX6_log_75 : decode cX6_log 75 = .ok (.iload 6, 2) := by decide +kernel
theorem dX6_log_77 : decode cX6_log 77 = .ok (.bipush 8, 2) := by decide +kernel
theorem dX6_log_79 : decode cX6_log 79 = .ok (.if_icmp .ge 86, 3) := by decide +kernel
theorem dX6_log_82 : decode cX6_log 82 = .ok (.aload_n 0, 1) := by decide +kernel
theorem dX6_log_83 : decode cX6_log 83 = .ok (.getfield 7, 3) := by decide +kernel
theorem dX6_log_86 : decode cX6_log 86 = .ok (.iload 5, 2) := by decide +kernel
theorem dX6_log_88 : decode cX6_log 88 = .ok (.iconst 3, 1) := by decide +kernel
theorem dX6_log_89 : decode cX6_log 89 = .ok (.iadd, 1) := by decide +kernel
theorem dX6_log_90 : decode cX6_log 90 = .ok (.iload 6, 2) := by decide +kernel
theorem dX6_log_92 : decode cX6_log 92 = .ok (.iadd, 1) := by decide +kernel
theorem dX6_log_93 : decode cX6_log 93 = .ok (.iload_n 3, 1) := by decide +kernel
theorem dX6_log_94 : decode cX6_log 94 = .ok (.iload 6, 2) := by decide +kernel
theorem dX6_log_96 : decode cX6_log 96 = .ok (.invokestatic 110, 3) := by decide +kernel
theorem dX6_log_99 : decode cX6_log 99 = .ok (.ifCond .eq 16, 3) := by decide +kernel
theorem dX6_log_102 : decode cX6_log 102 = .ok (.aload_n 0, 1) := by decide +kernel
theorem dX6_log_103 : decode cX6_log 103 = .ok (.iload_n 1, 1) := by decide +kernel
theorem dX6_log_104 : decode cX6_log 104 = .ok (.bipush 12, 2) := by decide +kernel
theorem dX6_log_106 : decode cX6_log 106 = .ok (.iload 6, 2) := by decide +kernel
theorem dX6_log_108 : decode cX6_log 108 = .ok (.iadd, 1) := by decide +kernel
theorem dX6_log_109 : decode cX6_log 109 = .ok (.invokevirtual 97, 3) := by decide +kernel
theorem dX6_log_112 : decode cX6_log 112 = .ok (.goto 4, 3) := by decide +kernel
theorem dX6_log_115 : decode cX6_log 115 = .ok (.iconst 0, 1) := by decide +kernel
theorem dX6_log_116 : decode cX6_log 116 = .ok (.iastore, 1) := by decide +kernel
theorem dX6_log_117 : decode cX6_log 117 = .ok (.aload_n 0, 1) := by decide +kernel
theorem dX6_log_118 : decode cX6_log 118 = .ok (.getfield 7, 3) := by decide +kernel
theorem dX6_log_121 : decode cX6_log 121 = .ok (.iload 5, 2) := by decide +kernel
theorem dX6_log_123 : decode cX6_log 123 = .ok (.bipush 11, 2) := by decide +kernel
theorem dX6_log_125 : decode cX6_log 125 = .ok (.iadd, 1) := by decide +kernel
theorem dX6_log_126 : decode cX6_log 126 = .ok (.iload 6, 2) := by decide +kernel
theorem dX6_log_128 : decode cX6_log 128 = .ok (.iadd, 1) := by decide +kernel
theorem dX6_log_129 : decode cX6_log 129 = .ok (.iload_n 1, 1) := by decide +kernel
theorem dX6_log_130 : decode cX6_log 130 = .ok (.iconst (-1), 1) := by decide +kernel
theorem dX6_log_131 : decode cX6_log 131 = .ok (.if_icmp .eq 26, 3) := by decide +kernel
theorem dX6_log_134 : decode cX6_log 134 = .ok (.iload 4, 2) := by decide +kernel
theorem dX6_log_136 : decode cX6_log 136 = .ok (.iload 6, 2) := by decide +kernel
theorem dX6_log_138 : decode cX6_log 138 = .ok (.invokestatic 110, 3) := by decide +kernel
theorem dX6_log_141 : decode cX6_log 141 = .ok (.ifCond .eq 16, 3) := by decide +kernel
theorem dX6_log_144 : decode cX6_log 144 = .ok (.aload_n 0, 1) := by decide +kernel
theorem dX6_log_145 : decode cX6_log 145 = .ok (.iload_n 1, 1) := by decide +kernel
theorem dX6_log_146 : decode cX6_log 146 = .ok (.bipush 28, 2) := by decide +kernel
theorem dX6_log_148 : decode cX6_log 148 = .ok (.iload 6, 2) := by decide +kernel
theorem dX6_log_150 : decode cX6_log 150 = .ok (.iadd, 1) := by decide +kernel
theorem dX6_log_151 : decode cX6_log 151 = .ok (.invokevirtual 97, 3) := by decide +kernel
theorem dX6_log_154 : decode cX6_log 154 = .ok (.goto 4, 3) := by decide +kernel
theorem dX6_log_157 : decode cX6_log 157 = .ok (.iconst 0, 1) := by decide +kernel
theorem dX6_log_158 : decode cX6_log 158 = .ok (.iastore, 1) := by decide +kernel
theorem dX6_log_159 : decode cX6_log 159 = .ok (.iinc 6 1, 3) := by decide +kernel
theorem dX6_log_162 : decode cX6_log 162 = .ok (.goto (-87), 3) := by decide +kernel
theorem dX6_log_165 : decode cX6_log 165 = .ok (.aload_n 0, 1) := by decide +kernel
theorem dX6_log_166 : decode cX6_log 166 = .ok (.getfield 7, 3) := by decide +kernel
theorem dX6_log_169 : decode cX6_log 169 = .ok (.bipush 21, 2) := by decide +kernel
theorem dX6_log_171 : decode cX6_log 171 = .ok (.dup2, 1) := by decide +kernel
theorem dX6_log_172 : decode cX6_log 172 = .ok (.iaload, 1) := by decide +kernel
theorem dX6_log_173 : decode cX6_log 173 = .ok (.iconst 1, 1) := by decide +kernel
theorem dX6_log_174 : decode cX6_log 174 = .ok (.iadd, 1) := by decide +kernel
theorem dX6_log_175 : decode cX6_log 175 = .ok (.iastore, 1) := by decide +kernel
theorem dX6_log_176 : decode cX6_log 176 = .ok (.return_, 1) := by decide +kernel
theorem dX6_abort_0 : decode cX6_abort 0 = .ok (.iconst 0, 1) := by decide +kernel
theorem dX6_abort_1 : decode cX6_abort 1 = .ok (.istore_n 3, 1) := by decide +kernel
theorem dX6_abort_2 : decode cX6_abort 2 = .ok (.iload_n 3, 1) := by decide +kernel
theorem dX6_abort_3 : decode cX6_abort 3 = .ok (.bipush 8, 2) := by decide +kernel
theorem dX6_abort_5 : decode cX6_abort 5 = .ok (.if_icmp .ge 43, 3) := by decide +kernel
theorem dX6_abort_8 : decode cX6_abort 8 = .ok (.aload_n 0, 1) := by decide +kernel
theorem dX6_abort_9 : decode cX6_abort 9 = .ok (.iload_n 1, 1) := by decide +kernel
theorem dX6_abort_10 : decode cX6_abort 10 = .ok (.bipush 8, 2) := by decide +kernel
theorem dX6_abort_12 : decode cX6_abort 12 = .ok (.invokevirtual 97, 3) := by decide +kernel
theorem dX6_abort_15 : decode cX6_abort 15 = .ok (.iload_n 3, 1) := by decide +kernel
theorem dX6_abort_16 : decode cX6_abort 16 = .ok (.invokestatic 110, 3) := by decide +kernel
theorem dX6_abort_19 : decode cX6_abort 19 = .ok (.ifCond .eq 23, 3) := by decide +kernel
theorem dX6_abort_22 : decode cX6_abort 22 = .ok (.aload_n 0, 1) := by decide +kernel
theorem dX6_abort_23 : decode cX6_abort 23 = .ok (.iload_n 1, 1) := by decide +kernel
theorem dX6_abort_24 : decode cX6_abort 24 = .ok (.bipush 20, 2) := by decide +kernel
theorem dX6_abort_26 : decode cX6_abort 26 = .ok (.iload_n 3, 1) := by decide +kernel
theorem dX6_abort_27 : decode cX6_abort 27 = .ok (.iadd, 1) := by decide +kernel
theorem dX6_abort_28 : decode cX6_abort 28 = .ok (.iconst 0, 1) := by decide +kernel
theorem dX6_abort_29 : decode cX6_abort 29 = .ok (.invokevirtual 60, 3) := by decide +kernel
theorem dX6_abort_32 : decode cX6_abort 32 = .ok (.aload_n 0, 1) := by decide +kernel
theorem dX6_abort_33 : decode cX6_abort 33 = .ok (.iload_n 1, 1) := by decide +kernel
theorem dX6_abort_34 : decode cX6_abort 34 = .ok (.bipush 28, 2) := by decide +kernel
theorem dX6_abort_36 : decode cX6_abort 36 = .ok (.iload_n 3, 1) := by decide +kernel
theorem dX6_abort_37 : decode cX6_abort 37 = .ok (.iadd, 1) := by decide +kernel
theorem dX6_abort_38 : decode cX6_abort 38 = .ok (.iconst 0, 1) := by decide +kernel
theorem dX6_abort_39 : decode cX6_abort 39 = .ok (.invokevirtual 60, 3) := by decide +kernel
theorem dX6_abort_42 : decode cX6_abort 42 = .ok (.iinc 3 1, 3) := by decide +kernel
theorem dX6_abort_45 : decode cX6_abort 45 = .ok (.goto (-43), 3) := by decide +kernel
theorem dX6_abort_48 : decode cX6_abort 48 = .ok (.aload_n 0, 1) := by decide +kernel
theorem dX6_abort_49 : decode cX6_abort 49 = .ok (.iload_n 1, 1) := by decide +kernel
theorem dX6_abort_50 : decode cX6_abort 50 = .ok (.iconst 1, 1) := by decide +kernel
theorem dX6_abort_51 : decode cX6_abort 51 = .ok (.aload_n 0, 1) := by decide +kernel
theorem dX6_abort_52 : decode cX6_abort 52 = .ok (.iload_n 1, 1) := by decide +kernel
theorem dX6_abort_53 : decode cX6_abort 53 = .ok (.iconst 5, 1) := by decide +kernel
theorem dX6_abort_54 : decode cX6_abort 54 = .ok (.invokevirtual 97, 3) := by decide +kernel
theorem dX6_abort_57 : decode cX6_abort 57 = .ok (.invokevirtual 60, 3) := by decide +kernel
theorem dX6_abort_60 : decode cX6_abort 60 = .ok (.aload_n 0, 1) := by decide +kernel
theorem dX6_abort_61 : decode cX6_abort 61 = .ok (.iload_n 1, 1) := by decide +kernel
theorem dX6_abort_62 : decode cX6_abort 62 = .ok (.iconst 0, 1) := by decide +kernel
theorem dX6_abort_63 : decode cX6_abort 63 = .ok (.aload_n 0, 1) := by decide +kernel
theorem dX6_abort_64 : decode cX6_abort 64 = .ok (.iload_n 1, 1) := by decide +kernel
theorem dX6_abort_65 : decode cX6_abort 65 = .ok (.bipush 6, 2) := by decide +kernel
theorem dX6_abort_67 : decode cX6_abort 67 = .ok (.invokevirtual 97, 3) := by decide +kernel
theorem dX6_abort_70 : decode cX6_abort 70 = .ok (.invokevirtual 60, 3) := by decide +kernel
theorem dX6_abort_73 : decode cX6_abort 73 = .ok (.aload_n 0, 1) := by decide +kernel
theorem dX6_abort_74 : decode cX6_abort 74 = .ok (.iload_n 1, 1) := by decide +kernel
theorem dX6_abort_75 : decode cX6_abort 75 = .ok (.bipush 7, 2) := by decide +kernel
theorem dX6_abort_77 : decode cX6_abort 77 = .ok (.iconst 0, 1) := by decide +kernel
theorem dX6_abort_78 : decode cX6_abort 78 = .ok (.invokevirtual 60, 3) := by decide +kernel
theorem dX6_abort_81 : decode cX6_abort 81 = .ok (.aload_n 0, 1) := by decide +kernel
theorem dX6_abort_82 : decode cX6_abort 82 = .ok (.iload_n 1, 1) := by decide +kernel
theorem dX6_abort_83 : decode cX6_abort 83 = .ok (.bipush 8, 2) := by decide +kernel
theorem dX6_abort_85 : decode cX6_abort 85 = .ok (.iconst 0, 1) := by decide +kernel
theorem dX6_abort_86 : decode cX6_abort 86 = .ok (.invokevirtual 60, 3) := by decide +kernel
theorem dX6_abort_89 : decode cX6_abort 89 = .ok (.aload_n 0, 1) := by decide +kernel
theorem dX6_abort_90 : decode cX6_abort 90 = .ok (.iload_n 1, 1) := by decide +kernel
theorem dX6_abort_91 : decode cX6_abort 91 = .ok (.bipush 11, 2) := by decide +kernel
theorem dX6_abort_93 : decode cX6_abort 93 = .ok (.iconst 0, 1) := by decide +kernel
theorem dX6_abort_94 : decode cX6_abort 94 = .ok (.invokevirtual 60, 3) := by decide +kernel
theorem dX6_abort_97 : decode cX6_abort 97 = .ok (.aload_n 0, 1) := by decide +kernel
theorem dX6_abort_98 : decode cX6_abort 98 = .ok (.iload_n 1, 1) := by decide +kernel
theorem dX6_abort_99 : decode cX6_abort 99 = .ok (.iconst 3, 1) := by decide +kernel
theorem dX6_abort_100 : decode cX6_abort 100 = .ok (.iconst 0, 1) := by decide +kernel
theorem dX6_abort_101 : decode cX6_abort 101 = .ok (.invokevirtual 60, 3) := by decide +kernel
theorem dX6_abort_104 : decode cX6_abort 104 = .ok (.aload_n 0, 1) := by decide +kernel
theorem dX6_abort_105 : decode cX6_abort 105 = .ok (.getfield 7, 3) := by decide +kernel
theorem dX6_abort_108 : decode cX6_abort 108 = .ok (.iload_n 1, 1) := by decide +kernel
theorem dX6_abort_109 : decode cX6_abort 109 = .ok (.bipush 10, 2) := by decide +kernel
theorem dX6_abort_111 : decode cX6_abort 111 = .ok (.invokestatic 52, 3) := by decide +kernel
theorem dX6_abort_114 : decode cX6_abort 114 = .ok (.dup2, 1) := by decide +kernel
theorem dX6_abort_115 : decode cX6_abort 115 = .ok (.iaload, 1) := by decide +kernel
theorem dX6_abort_116 : decode cX6_abort 116 = .ok (.iconst 1, 1) := by decide +kernel
theorem dX6_abort_117 : decode cX6_abort 117 = .ok (.iadd, 1) := by decide +kernel
theorem dX6_abort_118 : decode cX6_abort 118 = .ok (.iastore, 1) := by decide +kernel
theorem dX6_abort_119 : decode cX6_abort 119 = .ok (.aload_n 0, 1) := by decide +kernel
theorem dX6_abort_120 : decode cX6_abort 120 = .ok (.getfield 7, 3) := by decide +kernel
theorem dX6_abort_123 : decode cX6_abort 123 = .ok (.bipush 13, 2) := by decide +kernel
theorem dX6_abort_125 : decode cX6_abort 125 = .ok (.iload_n 2, 1) := by decide +kernel
theorem dX6_abort_126 : decode cX6_abort 126 = .ok (.iadd, 1) := by decide +kernel
theorem dX6_abort_127 : decode cX6_abort 127 = .ok (.dup2, 1) := by decide +kernel
theorem dX6_abort_128 : decode cX6_abort 128 = .ok (.iaload, 1) := by decide +kernel
theorem dX6_abort_129 : decode cX6_abort 129 = .ok (.iconst 1, 1) := by decide +kernel
theorem dX6_abort_130 : decode cX6_abort 130 = .ok (.iadd, 1) := by decide +kernel
theorem dX6_abort_131 : decode cX6_abort 131 = .ok (.iastore, 1) := by decide +kernel
theorem dX6_abort_132 : decode cX6_abort 132 = .ok (.aload_n 0, 1) := by decide +kernel
theorem dX6_abort_133 : decode cX6_abort 133 = .ok (.dup, 1) := by decide +kernel
theorem dX6_abort_134 : decode cX6_abort 134 = .ok (.getfield 114, 3) := by decide +kernel
theorem dX6_abort_137 : decode cX6_abort 137 = .ok (.iconst 1, 1) := by decide +kernel
theorem dX6_abort_138 : decode cX6_abort 138 = .ok (.iadd, 1) := by decide +kernel
theorem dX6_abort_139 : decode cX6_abort 139 = .ok (.putfield 114, 3) := by decide +kernel
theorem dX6_abort_142 : decode cX6_abort 142 = .ok (.return_, 1) := by decide +kernel
theorem dX6_isInWay_0 : decode cX6_isInWay 0 = .ok (.aload_n 0, 1) := by decide +kernel
theorem dX6_isInWay_1 : decode cX6_isInWay 1 = .ok (.iload_n 1, 1) := by decide +kernel
theorem dX6_isInWay_2 : decode cX6_isInWay 2 = .ok (.bipush 8, 2) := by decide +kernel
theorem dX6_isInWay_4 : decode cX6_isInWay 4 = .ok (.invokevirtual 97, 3) := by decide +kernel
theorem dX6_isInWay_7 : decode cX6_isInWay 7 = .ok (.iload_n 3, 1) := by decide +kernel
theorem dX6_isInWay_8 : decode cX6_isInWay 8 = .ok (.ifCond .eq 13, 3) := by decide +kernel
theorem dX6_isInWay_11 : decode cX6_isInWay 11 = .ok (.aload_n 0, 1) := by decide +kernel
theorem dX6_isInWay_12 : decode cX6_isInWay 12 = .ok (.iload_n 1, 1) := by decide +kernel
theorem dX6_isInWay_13 : decode cX6_isInWay 13 = .ok (.bipush 7, 2) := by decide +kernel
theorem dX6_isInWay_15 : decode cX6_isInWay 15 = .ok (.invokevirtual 97, 3) := by decide +kernel
theorem dX6_isInWay_18 : decode cX6_isInWay 18 = .ok (.goto 4, 3) := by decide +kernel
theorem dX6_isInWay_21 : decode cX6_isInWay 21 = .ok (.iconst 0, 1) := by decide +kernel
theorem dX6_isInWay_22 : decode cX6_isInWay 22 = .ok (.ior, 1) := by decide +kernel
theorem dX6_isInWay_23 : decode cX6_isInWay 23 = .ok (.istore 4, 2) := by decide +kernel
theorem dX6_isInWay_25 : decode cX6_isInWay 25 = .ok (.aload_n 0, 1) := by decide +kernel
theorem dX6_isInWay_26 : decode cX6_isInWay 26 = .ok (.iload_n 1, 1) := by decide +kernel
theorem dX6_isInWay_27 : decode cX6_isInWay 27 = .ok (.iconst 3, 1) := by decide +kernel
theorem dX6_isInWay_28 : decode cX6_isInWay 28 = .ok (.invokevirtual 97, 3) := by decide +kernel
theorem dX6_isInWay_31 : decode cX6_isInWay 31 = .ok (.iconst 1, 1) := by decide +kernel
theorem dX6_isInWay_32 : decode cX6_isInWay 32 = .ok (.if_icmp .ne 16, 3) := by decide +kernel
theorem dX6_isInWay_35 : decode cX6_isInWay 35 = .ok (.iload 4, 2) := by decide +kernel
theorem dX6_isInWay_37 : decode cX6_isInWay 37 = .ok (.iload_n 2, 1) := by decide +kernel
theorem dX6_isInWay_38 : decode cX6_isInWay 38 = .ok (.invokestatic 110, 3) := by decide +kernel
theorem dX6_isInWay_41 : decode cX6_isInWay 41 = .ok (.ifCond .eq 7, 3) := by decide +kernel
theorem dX6_isInWay_44 : decode cX6_isInWay 44 = .ok (.iconst 1, 1) := by decide +kernel
theorem dX6_isInWay_45 : decode cX6_isInWay 45 = .ok (.goto 4, 3) := by decide +kernel
theorem dX6_isInWay_48 : decode cX6_isInWay 48 = .ok (.iconst 0, 1) := by decide +kernel
theorem dX6_isInWay_49 : decode cX6_isInWay 49 = .ok (.ireturn, 1) := by decide +kernel
theorem dX6_resolves_0 : decode cX6_resolves 0 = .ok (.iconst 0, 1) := by decide +kernel
theorem dX6_resolves_1 : decode cX6_resolves 1 = .ok (.istore 4, 2) := by decide +kernel
theorem dX6_resolves_3 : decode cX6_resolves 3 = .ok (.iload 4, 2) := by decide +kernel
theorem dX6_resolves_5 : decode cX6_resolves 5 = .ok (.aload_n 0, 1) := by decide +kernel
theorem dX6_resolves_6 : decode cX6_resolves 6 = .ok (.getfield 7, 3) := by decide +kernel
theorem dX6_resolves_9 : decode cX6_resolves 9 = .ok (.iconst 0, 1) := by decide +kernel
theorem dX6_resolves_10 : decode cX6_resolves 10 = .ok (.iaload, 1) := by decide +kernel
theorem dX6_resolves_11 : decode cX6_resolves 11 = .ok (.if_icmp .ge 100, 3) := by decide +kernel
theorem dX6_resolves_14 : decode cX6_resolves 14 = .ok (.iload 4, 2) := by decide +kernel
theorem dX6_resolves_16 : decode cX6_resolves 16 = .ok (.iload_n 1, 1) := by decide +kernel
theorem dX6_resolves_17 : decode cX6_resolves 17 = .ok (.if_icmp .eq 88, 3) := by decide +kernel
theorem dX6_resolves_20 : decode cX6_resolves 20 = .ok (.aload_n 0, 1) := by decide +kernel
theorem dX6_resolves_21 : decode cX6_resolves 21 = .ok (.iload 4, 2) := by decide +kernel
theorem dX6_resolves_23 : decode cX6_resolves 23 = .ok (.iload_n 2, 1) := by decide +kernel
theorem dX6_resolves_24 : decode cX6_resolves 24 = .ok (.iload_n 3, 1) := by decide +kernel
theorem dX6_resolves_25 : decode cX6_resolves 25 = .ok (.invokevirtual 117, 3) := by decide +kernel
theorem dX6_resolves_28 : decode cX6_resolves 28 = .ok (.ifCond .eq 77, 3) := by decide +kernel
theorem dX6_resolves_31 : decode cX6_resolves 31 = .ok (.aload_n 0, 1) := by decide +kernel
theorem dX6_resolves_32 : decode cX6_resolves 32 = .ok (.iload_n 1, 1) := by decide +kernel
theorem dX6_resolves_33 : decode cX6_resolves 33 = .ok (.iconst 3, 1) := by decide +kernel
theorem dX6_resolves_34 : decode cX6_resolves 34 = .ok (.invokevirtual 97, 3) := by decide +kernel
theorem dX6_resolves_37 : decode cX6_resolves 37 = .ok (.ifCond .eq 38, 3) := by decide +kernel
theorem dX6_resolves_40 : decode cX6_resolves 40 = .ok (.aload_n 0, 1) := by decide +kernel
theorem dX6_resolves_41 : decode cX6_resolves 41 = .ok (.getfield 7, 3) := by decide +kernel
theorem dX6_resolves_44 : decode cX6_resolves 44 = .ok (.iconst 1, 1) := by decide +kernel
theorem dX6_resolves_45 : decode cX6_resolves 45 = .ok (.iaload, 1) := by decide +kernel
theorem dX6_resolves_46 : decode cX6_resolves 46 = .ok (.ifCond .eq 29, 3) := by decide +kernel
theorem dX6_resolves_49 : decode cX6_resolves 49 = .ok (.aload_n 0, 1) := by decide +kernel
theorem dX6_resolves_50 : decode cX6_resolves 50 = .ok (.getfield 7, 3) := by decide +kernel
theorem dX6_resolves_53 : decode cX6_resolves 53 = .ok (.iconst 1, 1) := by decide +kernel
theorem dX6_resolves_54 : decode cX6_resolves 54 = .ok (.iaload, 1) := by decide +kernel
theorem dX6_resolves_55 : decode cX6_resolves 55 = .ok (.iconst 2, 1) := by decide +kernel
theorem dX6_resolves_56 : decode cX6_resolves 56 = .ok (.if_icmp .ne 23, 3) := by decide +kernel
theorem dX6_resolves_59 : decode cX6_resolves 59 = .ok (.aload_n 0, 1) := by decide +kernel
theorem dX6_resolves_60 : decode cX6_resolves 60 = .ok (.iload_n 1, 1) := by decide +kernel
theorem dX6_resolves_61 : decode cX6_resolves 61 = .ok (.iconst 4, 1) := by decide +kernel
theorem dX6_resolves_62 : decode cX6_resolves 62 = .ok (.invokevirtual 97, 3) := by decide +kernel
theorem dX6_resolves_65 : decode cX6_resolves 65 = .ok (.aload_n 0, 1) := by decide +kernel
theorem dX6_resolves_66 : decode cX6_resolves 66 = .ok (.iload 4, 2) := by decide +kernel
theorem dX6_resolves_68 : decode cX6_resolves 68 = .ok (.iconst 4, 1) := by decide +kernel
theorem dX6_resolves_69 : decode cX6_resolves 69 = .ok (.invokevirtual 97, 3) := by decide +kernel
theorem dX6_resolves_72 : decode cX6_resolves 72 = .ok (.if_icmp .ge 7, 3) := by decide +kernel
theorem dX6_resolves_75 : decode cX6_resolves 75 = .ok (.iconst 1, 1) := by decide +kernel
theorem dX6_resolves_76 : decode cX6_resolves 76 = .ok (.goto 4, 3) := by decide +kernel
theorem dX6_resolves_79 : decode cX6_resolves 79 = .ok (.iconst 0, 1) := by decide +kernel
theorem dX6_resolves_80 : decode cX6_resolves 80 = .ok (.istore 5, 2) := by decide +kernel
theorem dX6_resolves_82 : decode cX6_resolves 82 = .ok (.aload_n 0, 1) := by decide +kernel
theorem dX6_resolves_83 : decode cX6_resolves 83 = .ok (.iload 5, 2) := by decide +kernel
theorem dX6_resolves_85 : decode cX6_resolves 85 = .ok (.ifCond .eq 8, 3) := by decide +kernel
theorem dX6_resolves_88 : decode cX6_resolves 88 = .ok (.iload 4, 2) := by decide +kernel
theorem dX6_resolves_90 : decode cX6_resolves 90 = .ok (.goto 4, 3) := by decide +kernel
theorem dX6_resolves_93 : decode cX6_resolves 93 = .ok (.iload_n 1, 1) := by decide +kernel
theorem dX6_resolves_94 : decode cX6_resolves 94 = .ok (.iconst 5, 1) := by decide +kernel
theorem dX6_resolves_95 : decode cX6_resolves 95 = .ok (.invokevirtual 121, 3) := by decide +kernel
theorem dX6_resolves_98 : decode cX6_resolves 98 = .ok (.iload 5, 2) := by decide +kernel
theorem dX6_resolves_100 : decode cX6_resolves 100 = .ok (.ifCond .ne 5, 3) := by decide +kernel
theorem dX6_resolves_103 : decode cX6_resolves 103 = .ok (.iconst 0, 1) := by decide +kernel
theorem dX6_resolves_104 : decode cX6_resolves 104 = .ok (.ireturn, 1) := by decide +kernel
theorem dX6_resolves_105 : decode cX6_resolves 105 = .ok (.iinc 4 1, 3) := by decide +kernel
theorem dX6_resolves_108 : decode cX6_resolves 108 = .ok (.goto (-105), 3) := by decide +kernel
theorem dX6_resolves_111 : decode cX6_resolves 111 = .ok (.iconst 1, 1) := by decide +kernel
theorem dX6_resolves_112 : decode cX6_resolves 112 = .ok (.ireturn, 1) := by decide +kernel
theorem dX6_writeBack_0 : decode cX6_writeBack 0 = .ok (.aload_n 0, 1) := by decide +kernel
theorem dX6_writeBack_1 : decode cX6_writeBack 1 = .ok (.getfield 7, 3) := by decide +kernel
theorem dX6_writeBack_4 : decode cX6_writeBack 4 = .ok (.iconst 5, 1) := by decide +kernel
theorem dX6_writeBack_5 : decode cX6_writeBack 5 = .ok (.iload_n 2, 1) := by decide +kernel
theorem dX6_writeBack_6 : decode cX6_writeBack 6 = .ok (.iadd, 1) := by decide +kernel
theorem dX6_writeBack_7 : decode cX6_writeBack 7 = .ok (.aload_n 0, 1) := by decide +kernel
theorem dX6_writeBack_8 : decode cX6_writeBack 8 = .ok (.iload_n 1, 1) := by decide +kernel
theorem dX6_writeBack_9 : decode cX6_writeBack 9 = .ok (.bipush 28, 2) := by decide +kernel
theorem dX6_writeBack_11 : decode cX6_writeBack 11 = .ok (.iload_n 2, 1) := by decide +kernel
theorem dX6_writeBack_12 : decode cX6_writeBack 12 = .ok (.iadd, 1) := by decide +kernel
theorem dX6_writeBack_13 : decode cX6_writeBack 13 = .ok (.invokevirtual 97, 3) := by decide +kernel
theorem dX6_writeBack_16 : decode cX6_writeBack 16 = .ok (.iastore, 1) := by decide +kernel
theorem dX6_writeBack_17 : decode cX6_writeBack 17 = .ok (.aload_n 0, 1) := by decide +kernel
theorem dX6_writeBack_18 : decode cX6_writeBack 18 = .ok (.getfield 7, 3) := by decide +kernel
theorem dX6_writeBack_21 : decode cX6_writeBack 21 = .ok (.bipush 17, 2) := by decide +kernel
theorem dX6_writeBack_23 : decode cX6_writeBack 23 = .ok (.dup2, 1) := by decide +kernel
theorem dX6_writeBack_24 : decode cX6_writeBack 24 = .ok (.iaload, 1) := by decide +kernel
theorem dX6_writeBack_25 : decode cX6_writeBack 25 = .ok (.iconst 1, 1) := by decide +kernel
theorem dX6_writeBack_26 : decode cX6_writeBack 26 = .ok (.iadd, 1) := by decide +kernel
theorem dX6_writeBack_27 : decode cX6_writeBack 27 = .ok (.iastore, 1) := by decide +kernel
theorem dX6_writeBack_28 : decode cX6_writeBack 28 = .ok (.return_, 1) := by decide +kernel
theorem dX6_collect_0 : decode cX6_collect 0 = .ok (.iconst 0, 1) := by decide +kernel
theorem dX6_collect_1 : decode cX6_collect 1 = .ok (.istore_n 3, 1) := by decide +kernel
theorem dX6_collect_2 : decode cX6_collect 2 = .ok (.iload_n 3, 1) := by decide +kernel
theorem dX6_collect_3 : decode cX6_collect 3 = .ok (.aload_n 0, 1) := by decide +kernel
theorem dX6_collect_4 : decode cX6_collect 4 = .ok (.getfield 7, 3) := by decide +kernel
theorem dX6_collect_7 : decode cX6_collect 7 = .ok (.iconst 0, 1) := by decide +kernel
theorem dX6_collect_8 : decode cX6_collect 8 = .ok (.iaload, 1) := by decide +kernel
theorem dX6_collect_9 : decode cX6_collect 9 = .ok (.if_icmp .ge 43, 3) := by decide +kernel
theorem dX6_collect_12 : decode cX6_collect 12 = .ok (.iload_n 3, 1) := by decide +kernel
theorem dX6_collect_13 : decode cX6_collect 13 = .ok (.iload_n 1, 1) := by decide +kernel
theorem dX6_collect_14 : decode cX6_collect 14 = .ok (.if_icmp .eq 32, 3) := by decide +kernel
theorem dX6_collect_17 : decode cX6_collect 17 = .ok (.aload_n 0, 1) := by decide +kernel
theorem dX6_collect_18 : decode cX6_collect 18 = .ok (.iload_n 3, 1) := by decide +kernel
theorem dX6_collect_19 : decode cX6_collect 19 = .ok (.bipush 20, 2) := by decide +kernel
theorem dX6_collect_21 : decode cX6_collect 21 = .ok (.iload_n 2, 1) := by decide +kernel
theorem dX6_collect_22 : decode cX6_collect 22 = .ok (.iadd, 1) := by decide +kernel
theorem dX6_collect_23 : decode cX6_collect 23 = .ok (.invokevirtual 97, 3) := by decide +kernel
theorem dX6_collect_26 : decode cX6_collect 26 = .ok (.iconst 2, 1) := by decide +kernel
theorem dX6_collect_27 : decode cX6_collect 27 = .ok (.if_icmp .ne 19, 3) := by decide +kernel
theorem dX6_collect_30 : decode cX6_collect 30 = .ok (.aload_n 0, 1) := by decide +kernel
theorem dX6_collect_31 : decode cX6_collect 31 = .ok (.iload_n 3, 1) := by decide +kernel
theorem dX6_collect_32 : decode cX6_collect 32 = .ok (.iload_n 2, 1) := by decide +kernel
theorem dX6_collect_33 : decode cX6_collect 33 = .ok (.invokevirtual 125, 3) := by decide +kernel
theorem dX6_collect_36 : decode cX6_collect 36 = .ok (.aload_n 0, 1) := by decide +kernel
theorem dX6_collect_37 : decode cX6_collect 37 = .ok (.iload_n 3, 1) := by decide +kernel
theorem dX6_collect_38 : decode cX6_collect 38 = .ok (.bipush 20, 2) := by decide +kernel
theorem dX6_collect_40 : decode cX6_collect 40 = .ok (.iload_n 2, 1) := by decide +kernel
theorem dX6_collect_41 : decode cX6_collect 41 = .ok (.iadd, 1) := by decide +kernel
theorem dX6_collect_42 : decode cX6_collect 42 = .ok (.iconst 1, 1) := by decide +kernel
theorem dX6_collect_43 : decode cX6_collect 43 = .ok (.invokevirtual 60, 3) := by decide +kernel
theorem dX6_collect_46 : decode cX6_collect 46 = .ok (.iinc 3 1, 3) := by decide +kernel
theorem dX6_collect_49 : decode cX6_collect 49 = .ok (.goto (-47), 3) := by decide +kernel
theorem dX6_collect_52 : decode cX6_collect 52 = .ok (.return_, 1) := by decide +kernel
theorem dX6_loads_0 : decode cX6_loads 0 = .ok (.aload_n 0, 1) := by decide +kernel
theorem dX6_loads_1 : decode cX6_loads 1 = .ok (.iload_n 1, 1) := by decide +kernel
theorem dX6_loads_2 : decode cX6_loads 2 = .ok (.iload_n 2, 1) := by decide +kernel
theorem dX6_loads_3 : decode cX6_loads 3 = .ok (.iconst 0, 1) := by decide +kernel
theorem dX6_loads_4 : decode cX6_loads 4 = .ok (.invokevirtual 128, 3) := by decide +kernel
theorem dX6_loads_7 : decode cX6_loads 7 = .ok (.ifCond .ne 5, 3) := by decide +kernel
theorem dX6_loads_10 : decode cX6_loads 10 = .ok (.iconst 0, 1) := by decide +kernel
theorem dX6_loads_11 : decode cX6_loads 11 = .ok (.ireturn, 1) := by decide +kernel
theorem dX6_loads_12 : decode cX6_loads 12 = .ok (.aload_n 0, 1) := by decide +kernel
theorem dX6_loads_13 : decode cX6_loads 13 = .ok (.iload_n 1, 1) := by decide +kernel
theorem dX6_loads_14 : decode cX6_loads 14 = .ok (.bipush 20, 2) := by decide +kernel
theorem dX6_loads_16 : decode cX6_loads 16 = .ok (.iload_n 2, 1) := by decide +kernel
theorem dX6_loads_17 : decode cX6_loads 17 = .ok (.iadd, 1) := by decide +kernel
theorem dX6_loads_18 : decode cX6_loads 18 = .ok (.invokevirtual 97, 3) := by decide +kernel
theorem dX6_loads_21 : decode cX6_loads 21 = .ok (.ifCond .ne 47, 3) := by decide +kernel
theorem dX6_loads_24 : decode cX6_loads 24 = .ok (.aload_n 0, 1) := by decide +kernel
theorem dX6_loads_25 : decode cX6_loads 25 = .ok (.getfield 7, 3) := by decide +kernel
theorem dX6_loads_28 : decode cX6_loads 28 = .ok (.bipush 13, 2) := by decide +kernel
theorem dX6_loads_30 : decode cX6_loads 30 = .ok (.dup2, 1) := by decide +kernel
theorem dX6_loads_31 : decode cX6_loads 31 = .ok (.iaload, 1) := by decide +kernel
theorem dX6_loads_32 : decode cX6_loads 32 = .ok (.iconst 1, 1) := by decide +kernel
theorem dX6_loads_33 : decode cX6_loads 33 = .ok (.iadd, 1) := by decide +kernel
theorem dX6_loads_34 : decode cX6_loads 34 = .ok (.iastore, 1) := by decide +kernel
theorem dX6_loads_35 : decode cX6_loads 35 = .ok (.aload_n 0, 1) := by decide +kernel
theorem dX6_loads_36 : decode cX6_loads 36 = .ok (.iload_n 1, 1) := by decide +kernel
theorem dX6_loads_37 : decode cX6_loads 37 = .ok (.iload_n 2, 1) := by decide +kernel
theorem dX6_loads_38 : decode cX6_loads 38 = .ok (.invokevirtual 131, 3) := by decide +kernel
theorem dX6_loads_41 : decode cX6_loads 41 = .ok (.aload_n 0, 1) := by decide +kernel
theorem dX6_loads_42 : decode cX6_loads 42 = .ok (.iload_n 1, 1) := by decide +kernel
theorem dX6_loads_43 : decode cX6_loads 43 = .ok (.bipush 20, 2) := by decide +kernel
theorem dX6_loads_45 : decode cX6_loads 45 = .ok (.iload_n 2, 1) := by decide +kernel
theorem dX6_loads_46 : decode cX6_loads 46 = .ok (.iadd, 1) := by decide +kernel
theorem dX6_loads_47 : decode cX6_loads 47 = .ok (.iconst 1, 1) := by decide +kernel
theorem dX6_loads_48 : decode cX6_loads 48 = .ok (.invokevirtual 60, 3) := by decide +kernel
theorem dX6_loads_51 : decode cX6_loads 51 = .ok (.aload_n 0, 1) := by decide +kernel
theorem dX6_loads_52 : decode cX6_loads 52 = .ok (.iload_n 1, 1) := by decide +kernel
theorem dX6_loads_53 : decode cX6_loads 53 = .ok (.bipush 28, 2) := by decide +kernel
theorem dX6_loads_55 : decode cX6_loads 55 = .ok (.iload_n 2, 1) := by decide +kernel
theorem dX6_loads_56 : decode cX6_loads 56 = .ok (.iadd, 1) := by decide +kernel
theorem dX6_loads_57 : decode cX6_loads 57 = .ok (.aload_n 0, 1) := by decide +kernel
theorem dX6_loads_58 : decode cX6_loads 58 = .ok (.getfield 7, 3) := by decide +kernel
theorem dX6_loads_61 : decode cX6_loads 61 = .ok (.iconst 5, 1) := by decide +kernel
theorem dX6_loads_62 : decode cX6_loads 62 = .ok (.iload_n 2, 1) := by decide +kernel
theorem dX6_loads_63 : decode cX6_loads 63 = .ok (.iadd, 1) := by decide +kernel
theorem dX6_loads_64 : decode cX6_loads 64 = .ok (.iaload, 1) := by decide +kernel
theorem dX6_loads_65 : decode cX6_loads 65 = .ok (.invokevirtual 60, 3) := by decide +kernel
theorem dX6_loads_68 : decode cX6_loads 68 = .ok (.aload_n 0, 1) := by decide +kernel
theorem dX6_loads_69 : decode cX6_loads 69 = .ok (.iload_n 1, 1) := by decide +kernel
theorem dX6_loads_70 : decode cX6_loads 70 = .ok (.bipush 28, 2) := by decide +kernel
theorem dX6_loads_72 : decode cX6_loads 72 = .ok (.iload_n 2, 1) := by decide +kernel
theorem dX6_loads_73 : decode cX6_loads 73 = .ok (.iadd, 1) := by decide +kernel
theorem dX6_loads_74 : decode cX6_loads 74 = .ok (.invokevirtual 97, 3) := by decide +kernel
theorem dX6_loads_77 : decode cX6_loads 77 = .ok (.istore_n 3, 1) := by decide +kernel
theorem dX6_loads_78 : decode cX6_loads 78 = .ok (.aload_n 0, 1) := by decide +kernel
theorem dX6_loads_79 : decode cX6_loads 79 = .ok (.iload_n 1, 1) := by decide +kernel
theorem dX6_loads_80 : decode cX6_loads 80 = .ok (.iconst 0, 1) := by decide +kernel
theorem dX6_loads_81 : decode cX6_loads 81 = .ok (.iload_n 3, 1) := by decide +kernel
theorem dX6_loads_82 : decode cX6_loads 82 = .ok (.invokevirtual 60, 3) := by decide +kernel
theorem dX6_loads_85 : decode cX6_loads 85 = .ok (.aload_n 0, 1) := by decide +kernel
theorem dX6_loads_86 : decode cX6_loads 86 = .ok (.iload_n 1, 1) := by decide +kernel
theorem dX6_loads_87 : decode cX6_loads 87 = .ok (.iconst 3, 1) := by decide +kernel
theorem dX6_loads_88 : decode cX6_loads 88 = .ok (.invokevirtual 97, 3) := by decide +kernel
theorem dX6_loads_91 : decode cX6_loads 91 = .ok (.iconst 1, 1) := by decide +kernel
theorem dX6_loads_92 : decode cX6_loads 92 = .ok (.if_icmp .ne 71, 3) := by decide +kernel
theorem dX6_loads_95 : decode cX6_loads 95 = .ok (.aload_n 0, 1) := by decide +kernel
theorem dX6_loads_96 : decode cX6_loads 96 = .ok (.iload_n 1, 1) := by decide +kernel
theorem dX6_loads_97 : decode cX6_loads 97 = .ok (.bipush 8, 2) := by decide +kernel
theorem dX6_loads_99 : decode cX6_loads 99 = .ok (.invokevirtual 97, 3) := by decide +kernel
theorem dX6_loads_102 : decode cX6_loads 102 = .ok (.aload_n 0, 1) := by decide +kernel
theorem dX6_loads_103 : decode cX6_loads 103 = .ok (.iload_n 1, 1) := by decide +kernel
theorem dX6_loads_104 : decode cX6_loads 104 = .ok (.bipush 11, 2) := by decide +kernel
theorem dX6_loads_106 : decode cX6_loads 106 = .ok (.invokevirtual 97, 3) := by decide +kernel
theorem dX6_loads_109 : decode cX6_loads 109 = .ok (.ior, 1) := by decide +kernel
theorem dX6_loads_110 : decode cX6_loads 110 = .ok (.iload_n 2, 1) := by decide +kernel
theorem dX6_loads_111 : decode cX6_loads 111 = .ok (.invokestatic 110, 3) := by decide +kernel
theorem dX6_loads_114 : decode cX6_loads 114 = .ok (.ifCond .ne 31, 3) := by decide +kernel
theorem dX6_loads_117 : decode cX6_loads 117 = .ok (.aload_n 0, 1) := by decide +kernel
theorem dX6_loads_118 : decode cX6_loads 118 = .ok (.iload_n 1, 1) := by decide +kernel
theorem dX6_loads_119 : decode cX6_loads 119 = .ok (.bipush 11, 2) := by decide +kernel
theorem dX6_loads_121 : decode cX6_loads 121 = .ok (.aload_n 0, 1) := by decide +kernel
theorem dX6_loads_122 : decode cX6_loads 122 = .ok (.iload_n 1, 1) := by decide +kernel
theorem dX6_loads_123 : decode cX6_loads 123 = .ok (.bipush 11, 2) := by decide +kernel
theorem dX6_loads_125 : decode cX6_loads 125 = .ok (.invokevirtual 97, 3) := by decide +kernel
theorem dX6_loads_128 : decode cX6_loads 128 = .ok (.iconst 1, 1) := by decide +kernel
theorem dX6_loads_129 : decode cX6_loads 129 = .ok (.iload_n 2, 1) := by decide +kernel
theorem dX6_loads_130 : decode cX6_loads 130 = .ok (.ishl, 1) := by decide +kernel
theorem dX6_loads_131 : decode cX6_loads 131 = .ok (.ior, 1) := by decide +kernel
theorem dX6_loads_132 : decode cX6_loads 132 = .ok (.invokevirtual 60, 3) := by decide +kernel
theorem dX6_loads_135 : decode cX6_loads 135 = .ok (.aload_n 0, 1) := by decide +kernel
theorem dX6_loads_136 : decode cX6_loads 136 = .ok (.iload_n 1, 1) := by decide +kernel
theorem dX6_loads_137 : decode cX6_loads 137 = .ok (.bipush 12, 2) := by decide +kernel
theorem dX6_loads_139 : decode cX6_loads 139 = .ok (.iload_n 2, 1) := by decide +kernel
theorem dX6_loads_140 : decode cX6_loads 140 = .ok (.iadd, 1) := by decide +kernel
theorem dX6_loads_141 : decode cX6_loads 141 = .ok (.iload_n 3, 1) := by decide +kernel
theorem dX6_loads_142 : decode cX6_loads 142 = .ok (.invokevirtual 60, 3) := by decide +kernel
theorem dX6_loads_145 : decode cX6_loads 145 = .ok (.aload_n 0, 1) := by decide +kernel
theorem dX6_loads_146 : decode cX6_loads 146 = .ok (.iload_n 1, 1) := by decide +kernel
theorem dX6_loads_147 : decode cX6_loads 147 = .ok (.bipush 7, 2) := by decide +kernel
theorem dX6_loads_149 : decode cX6_loads 149 = .ok (.aload_n 0, 1) := by decide +kernel
theorem dX6_loads_150 : decode cX6_loads 150 = .ok (.iload_n 1, 1) := by decide +kernel
theorem dX6_loads_151 : decode cX6_loads 151 = .ok (.bipush 7, 2) := by decide +kernel
theorem dX6_loads_153 : decode cX6_loads 153 = .ok (.invokevirtual 97, 3) := by decide +kernel
theorem dX6_loads_156 : decode cX6_loads 156 = .ok (.iconst 1, 1) := by decide +kernel
theorem dX6_loads_157 : decode cX6_loads 157 = .ok (.iload_n 2, 1) := by decide +kernel
theorem dX6_loads_158 : decode cX6_loads 158 = .ok (.ishl, 1) := by decide +kernel
theorem dX6_loads_159 : decode cX6_loads 159 = .ok (.ior, 1) := by decide +kernel
theorem dX6_loads_160 : decode cX6_loads 160 = .ok (.invokevirtual 60, 3) := by decide +kernel
theorem dX6_loads_163 : decode cX6_loads 163 = .ok (.iconst 1, 1) := by decide +kernel
theorem dX6_loads_164 : decode cX6_loads 164 = .ok (.ireturn, 1) := by decide +kernel
theorem dX6_own_0 : decode cX6_own 0 = .ok (.aload_n 0, 1) := by decide +kernel
theorem dX6_own_1 : decode cX6_own 1 = .ok (.iload_n 1, 1) := by decide +kernel
theorem dX6_own_2 : decode cX6_own 2 = .ok (.bipush 20, 2) := by decide +kernel
theorem dX6_own_4 : decode cX6_own 4 = .ok (.iload_n 2, 1) := by decide +kernel
theorem dX6_own_5 : decode cX6_own 5 = .ok (.iadd, 1) := by decide +kernel
theorem dX6_own_6 : decode cX6_own 6 = .ok (.invokevirtual 97, 3) := by decide +kernel
theorem dX6_own_9 : decode cX6_own 9 = .ok (.ifCond .eq 7, 3) := by decide +kernel
theorem dX6_own_12 : decode cX6_own 12 = .ok (.iconst 1, 1) := by decide +kernel
theorem dX6_own_13 : decode cX6_own 13 = .ok (.goto 4, 3) := by decide +kernel
theorem dX6_own_16 : decode cX6_own 16 = .ok (.iconst 0, 1) := by decide +kernel
theorem dX6_own_17 : decode cX6_own 17 = .ok (.istore_n 3, 1) := by decide +kernel
theorem dX6_own_18 : decode cX6_own 18 = .ok (.aload_n 0, 1) := by decide +kernel
theorem dX6_own_19 : decode cX6_own 19 = .ok (.getfield 7, 3) := by decide +kernel
theorem dX6_own_22 : decode cX6_own 22 = .ok (.bipush 13, 2) := by decide +kernel
theorem dX6_own_24 : decode cX6_own 24 = .ok (.iload_n 3, 1) := by decide +kernel
theorem dX6_own_25 : decode cX6_own 25 = .ok (.ifCond .eq 7, 3) := by decide +kernel
theorem dX6_own_28 : decode cX6_own 28 = .ok (.iconst 2, 1) := by decide +kernel
theorem dX6_own_29 : decode cX6_own 29 = .ok (.goto 4, 3) := by decide +kernel
theorem dX6_own_32 : decode cX6_own 32 = .ok (.iconst 1, 1) := by decide +kernel
theorem dX6_own_33 : decode cX6_own 33 = .ok (.iadd, 1) := by decide +kernel
theorem dX6_own_34 : decode cX6_own 34 = .ok (.dup2, 1) := by decide +kernel
theorem dX6_own_35 : decode cX6_own 35 = .ok (.iaload, 1) := by decide +kernel
theorem dX6_own_36 : decode cX6_own 36 = .ok (.iconst 1, 1) := by decide +kernel
theorem dX6_own_37 : decode cX6_own 37 = .ok (.iadd, 1) := by decide +kernel
theorem dX6_own_38 : decode cX6_own 38 = .ok (.iastore, 1) := by decide +kernel
theorem dX6_own_39 : decode cX6_own 39 = .ok (.aload_n 0, 1) := by decide +kernel
theorem dX6_own_40 : decode cX6_own 40 = .ok (.iload_n 1, 1) := by decide +kernel
theorem dX6_own_41 : decode cX6_own 41 = .ok (.iload_n 2, 1) := by decide +kernel
theorem dX6_own_42 : decode cX6_own 42 = .ok (.invokevirtual 131, 3) := by decide +kernel
theorem dX6_own_45 : decode cX6_own 45 = .ok (.iconst 0, 1) := by decide +kernel
theorem dX6_own_46 : decode cX6_own 46 = .ok (.istore 4, 2) := by decide +kernel
theorem dX6_own_48 : decode cX6_own 48 = .ok (.iload 4, 2) := by decide +kernel
theorem dX6_own_50 : decode cX6_own 50 = .ok (.aload_n 0, 1) := by decide +kernel
theorem dX6_own_51 : decode cX6_own 51 = .ok (.getfield 7, 3) := by decide +kernel
theorem dX6_own_54 : decode cX6_own 54 = .ok (.iconst 0, 1) := by decide +kernel
theorem dX6_own_55 : decode cX6_own 55 = .ok (.iaload, 1) := by decide +kernel
theorem dX6_own_56 : decode cX6_own 56 = .ok (.if_icmp .ge 61, 3) := by decide +kernel
theorem dX6_own_59 : decode cX6_own 59 = .ok (.iload 4, 2) := by decide +kernel
theorem dX6_own_61 : decode cX6_own 61 = .ok (.iload_n 1, 1) := by decide +kernel
theorem dX6_own_62 : decode cX6_own 62 = .ok (.if_icmp .eq 49, 3) := by decide +kernel
theorem dX6_own_65 : decode cX6_own 65 = .ok (.aload_n 0, 1) := by decide +kernel
theorem dX6_own_66 : decode cX6_own 66 = .ok (.iload 4, 2) := by decide +kernel
theorem dX6_own_68 : decode cX6_own 68 = .ok (.bipush 20, 2) := by decide +kernel
theorem dX6_own_70 : decode cX6_own 70 = .ok (.iload_n 2, 1) := by decide +kernel
theorem dX6_own_71 : decode cX6_own 71 = .ok (.iadd, 1) := by decide +kernel
theorem dX6_own_72 : decode cX6_own 72 = .ok (.invokevirtual 97, 3) := by decide +kernel
theorem dX6_own_75 : decode cX6_own 75 = .ok (.ifCond .eq 36, 3) := by decide +kernel
theorem dX6_own_78 : decode cX6_own 78 = .ok (.aload_n 0, 1) := by decide +kernel
theorem dX6_own_79 : decode cX6_own 79 = .ok (.iload 4, 2) := by decide +kernel
theorem dX6_own_81 : decode cX6_own 81 = .ok (.bipush 20, 2) := by decide +kernel
theorem dX6_own_83 : decode cX6_own 83 = .ok (.iload_n 2, 1) := by decide +kernel
theorem dX6_own_84 : decode cX6_own 84 = .ok (.iadd, 1) := by decide +kernel
theorem dX6_own_85 : decode cX6_own 85 = .ok (.iconst 0, 1) := by decide +kernel
theorem dX6_own_86 : decode cX6_own 86 = .ok (.invokevirtual 60, 3) := by decide +kernel
theorem dX6_own_89 : decode cX6_own 89 = .ok (.aload_n 0, 1) := by decide +kernel
theorem dX6_own_90 : decode cX6_own 90 = .ok (.iload 4, 2) := by decide +kernel
theorem dX6_own_92 : decode cX6_own 92 = .ok (.bipush 28, 2) := by decide +kernel
theorem dX6_own_94 : decode cX6_own 94 = .ok (.iload_n 2, 1) := by decide +kernel
theorem dX6_own_95 : decode cX6_own 95 = .ok (.iadd, 1) := by decide +kernel
theorem dX6_own_96 : decode cX6_own 96 = .ok (.iconst 0, 1) := by decide +kernel
theorem dX6_own_97 : decode cX6_own 97 = .ok (.invokevirtual 60, 3) := by decide +kernel
theorem dX6_own_100 : decode cX6_own 100 = .ok (.aload_n 0, 1) := by decide +kernel
theorem dX6_own_101 : decode cX6_own 101 = .ok (.getfield 7, 3) := by decide +kernel
theorem dX6_own_104 : decode cX6_own 104 = .ok (.bipush 16, 2) := by decide +kernel
theorem dX6_own_106 : decode cX6_own 106 = .ok (.dup2, 1) := by decide +kernel
theorem dX6_own_107 : decode cX6_own 107 = .ok (.iaload, 1) := by decide +kernel
theorem dX6_own_108 : decode cX6_own 108 = .ok (.iconst 1, 1) := by decide +kernel
theorem dX6_own_109 : decode cX6_own 109 = .ok (.iadd, 1) := by decide +kernel
theorem dX6_own_110 : decode cX6_own 110 = .ok (.iastore, 1) := by decide +kernel
theorem dX6_own_111 : decode cX6_own 111 = .ok (.iinc 4 1, 3) := by decide +kernel
theorem dX6_own_114 : decode cX6_own 114 = .ok (.goto (-66), 3) := by decide +kernel
theorem dX6_own_117 : decode cX6_own 117 = .ok (.iload_n 3, 1) := by decide +kernel
theorem dX6_own_118 : decode cX6_own 118 = .ok (.ifCond .ne 20, 3) := by decide +kernel
theorem dX6_own_121 : decode cX6_own 121 = .ok (.aload_n 0, 1) := by decide +kernel
theorem dX6_own_122 : decode cX6_own 122 = .ok (.iload_n 1, 1) := by decide +kernel
theorem dX6_own_123 : decode cX6_own 123 = .ok (.bipush 28, 2) := by decide +kernel
theorem dX6_own_125 : decode cX6_own 125 = .ok (.iload_n 2, 1) := by decide +kernel
theorem dX6_own_126 : decode cX6_own 126 = .ok (.iadd, 1) := by decide +kernel
theorem dX6_own_127 : decode cX6_own 127 = .ok (.aload_n 0, 1) := by decide +kernel
theorem dX6_own_128 : decode cX6_own 128 = .ok (.getfield 7, 3) := by decide +kernel
theorem dX6_own_131 : decode cX6_own 131 = .ok (.iconst 5, 1) := by decide +kernel
theorem dX6_own_132 : decode cX6_own 132 = .ok (.iload_n 2, 1) := by decide +kernel
theorem dX6_own_133 : decode cX6_own 133 = .ok (.iadd, 1) := by decide +kernel
theorem dX6_own_134 : decode cX6_own 134 = .ok (.iaload, 1) := by decide +kernel
theorem dX6_own_135 : decode cX6_own 135 = .ok (.invokevirtual 60, 3) := by decide +kernel
theorem dX6_own_138 : decode cX6_own 138 = .ok (.aload_n 0, 1) := by decide +kernel
theorem dX6_own_139 : decode cX6_own 139 = .ok (.iload_n 1, 1) := by decide +kernel
theorem dX6_own_140 : decode cX6_own 140 = .ok (.bipush 20, 2) := by decide +kernel
theorem dX6_own_142 : decode cX6_own 142 = .ok (.iload_n 2, 1) := by decide +kernel
theorem dX6_own_143 : decode cX6_own 143 = .ok (.iadd, 1) := by decide +kernel
theorem dX6_own_144 : decode cX6_own 144 = .ok (.iconst 2, 1) := by decide +kernel
theorem dX6_own_145 : decode cX6_own 145 = .ok (.invokevirtual 60, 3) := by decide +kernel
theorem dX6_own_148 : decode cX6_own 148 = .ok (.return_, 1) := by decide +kernel
theorem dX6_stores_0 : decode cX6_stores 0 = .ok (.aload_n 0, 1) := by decide +kernel
theorem dX6_stores_1 : decode cX6_stores 1 = .ok (.iload_n 1, 1) := by decide +kernel
theorem dX6_stores_2 : decode cX6_stores 2 = .ok (.iload_n 2, 1) := by decide +kernel
theorem dX6_stores_3 : decode cX6_stores 3 = .ok (.iconst 1, 1) := by decide +kernel
theorem dX6_stores_4 : decode cX6_stores 4 = .ok (.invokevirtual 128, 3) := by decide +kernel
theorem dX6_stores_7 : decode cX6_stores 7 = .ok (.ifCond .ne 5, 3) := by decide +kernel
theorem dX6_stores_10 : decode cX6_stores 10 = .ok (.iconst 0, 1) := by decide +kernel
theorem dX6_stores_11 : decode cX6_stores 11 = .ok (.ireturn, 1) := by decide +kernel
theorem dX6_stores_12 : decode cX6_stores 12 = .ok (.aload_n 0, 1) := by decide +kernel
theorem dX6_stores_13 : decode cX6_stores 13 = .ok (.iload_n 1, 1) := by decide +kernel
theorem dX6_stores_14 : decode cX6_stores 14 = .ok (.iconst 3, 1) := by decide +kernel
theorem dX6_stores_15 : decode cX6_stores 15 = .ok (.invokevirtual 97, 3) := by decide +kernel
theorem dX6_stores_18 : decode cX6_stores 18 = .ok (.iconst 1, 1) := by decide +kernel
theorem dX6_stores_19 : decode cX6_stores 19 = .ok (.if_icmp .ne 21, 3) := by decide +kernel
theorem dX6_stores_22 : decode cX6_stores 22 = .ok (.aload_n 0, 1) := by decide +kernel
theorem dX6_stores_23 : decode cX6_stores 23 = .ok (.iload_n 1, 1) := by decide +kernel
theorem dX6_stores_24 : decode cX6_stores 24 = .ok (.bipush 8, 2) := by decide +kernel
theorem dX6_stores_26 : decode cX6_stores 26 = .ok (.invokevirtual 97, 3) := by decide +kernel
theorem dX6_stores_29 : decode cX6_stores 29 = .ok (.iload_n 2, 1) := by decide +kernel
theorem dX6_stores_30 : decode cX6_stores 30 = .ok (.invokestatic 110, 3) := by decide +kernel
theorem dX6_stores_33 : decode cX6_stores 33 = .ok (.ifCond .ne 7, 3) := by decide +kernel
theorem dX6_stores_36 : decode cX6_stores 36 = .ok (.iconst 1, 1) := by decide +kernel
theorem dX6_stores_37 : decode cX6_stores 37 = .ok (.goto 4, 3) := by decide +kernel
theorem dX6_stores_40 : decode cX6_stores 40 = .ok (.iconst 0, 1) := by decide +kernel
theorem dX6_stores_41 : decode cX6_stores 41 = .ok (.istore_n 3, 1) := by decide +kernel
theorem dX6_stores_42 : decode cX6_stores 42 = .ok (.iload_n 3, 1) := by decide +kernel
theorem dX6_stores_43 : decode cX6_stores 43 = .ok (.ifCond .eq 31, 3) := by decide +kernel
theorem dX6_stores_46 : decode cX6_stores 46 = .ok (.aload_n 0, 1) := by decide +kernel
theorem dX6_stores_47 : decode cX6_stores 47 = .ok (.iload_n 1, 1) := by decide +kernel
theorem dX6_stores_48 : decode cX6_stores 48 = .ok (.bipush 8, 2) := by decide +kernel
theorem dX6_stores_50 : decode cX6_stores 50 = .ok (.invokevirtual 97, 3) := by decide +kernel
theorem dX6_stores_53 : decode cX6_stores 53 = .ok (.invokestatic 134, 3) := by decide +kernel
theorem dX6_stores_56 : decode cX6_stores 56 = .ok (.aload_n 0, 1) := by decide +kernel
theorem dX6_stores_57 : decode cX6_stores 57 = .ok (.getfield 7, 3) := by decide +kernel
theorem dX6_stores_60 : decode cX6_stores 60 = .ok (.iconst 2, 1) := by decide +kernel
theorem dX6_stores_61 : decode cX6_stores 61 = .ok (.iaload, 1) := by decide +kernel
theorem dX6_stores_62 : decode cX6_stores 62 = .ok (.if_icmp .ne 12, 3) := by decide +kernel
theorem dX6_stores_65 : decode cX6_stores 65 = .ok (.aload_n 0, 1) := by decide +kernel
theorem dX6_stores_66 : decode cX6_stores 66 = .ok (.iload_n 1, 1) := by decide +kernel
theorem dX6_stores_67 : decode cX6_stores 67 = .ok (.bipush 6, 2) := by decide +kernel
theorem dX6_stores_69 : decode cX6_stores 69 = .ok (.invokevirtual 121, 3) := by decide +kernel
theorem dX6_stores_72 : decode cX6_stores 72 = .ok (.iconst 0, 1) := by decide +kernel
theorem dX6_stores_73 : decode cX6_stores 73 = .ok (.ireturn, 1) := by decide +kernel
theorem dX6_stores_74 : decode cX6_stores 74 = .ok (.aload_n 0, 1) := by decide +kernel
theorem dX6_stores_75 : decode cX6_stores 75 = .ok (.iload_n 1, 1) := by decide +kernel
theorem dX6_stores_76 : decode cX6_stores 76 = .ok (.bipush 20, 2) := by decide +kernel
theorem dX6_stores_78 : decode cX6_stores 78 = .ok (.iload_n 2, 1) := by decide +kernel
theorem dX6_stores_79 : decode cX6_stores 79 = .ok (.iadd, 1) := by decide +kernel
theorem dX6_stores_80 : decode cX6_stores 80 = .ok (.invokevirtual 97, 3) := by decide +kernel
theorem dX6_stores_83 : decode cX6_stores 83 = .ok (.iconst 2, 1) := by decide +kernel
theorem dX6_stores_84 : decode cX6_stores 84 = .ok (.if_icmp .eq 12, 3) := by decide +kernel
theorem dX6_stores_87 : decode cX6_stores 87 = .ok (.aload_n 0, 1) := by decide +kernel
theorem dX6_stores_88 : decode cX6_stores 88 = .ok (.iload_n 1, 1) := by decide +kernel
theorem dX6_stores_89 : decode cX6_stores 89 = .ok (.iload_n 2, 1) := by decide +kernel
theorem dX6_stores_90 : decode cX6_stores 90 = .ok (.invokevirtual 138, 3) := by decide +kernel
theorem dX6_stores_93 : decode cX6_stores 93 = .ok (.goto 13, 3) := by decide +kernel
theorem dX6_stores_96 : decode cX6_stores 96 = .ok (.iload_n 3, 1) := by decide +kernel
theorem dX6_stores_97 : decode cX6_stores 97 = .ok (.ifCond .eq 9, 3) := by decide +kernel
theorem dX6_stores_100 : decode cX6_stores 100 = .ok (.aload_n 0, 1) := by decide +kernel
theorem dX6_stores_101 : decode cX6_stores 101 = .ok (.iload_n 1, 1) := by decide +kernel
theorem dX6_stores_102 : decode cX6_stores 102 = .ok (.iload_n 2, 1) := by decide +kernel
theorem dX6_stores_103 : decode cX6_stores 103 = .ok (.invokevirtual 125, 3) := by decide +kernel
theorem dX6_stores_106 : decode cX6_stores 106 = .ok (.aload_n 0, 1) := by decide +kernel
theorem dX6_stores_107 : decode cX6_stores 107 = .ok (.iload_n 1, 1) := by decide +kernel
theorem dX6_stores_108 : decode cX6_stores 108 = .ok (.bipush 28, 2) := by decide +kernel
theorem dX6_stores_110 : decode cX6_stores 110 = .ok (.iload_n 2, 1) := by decide +kernel
theorem dX6_stores_111 : decode cX6_stores 111 = .ok (.iadd, 1) := by decide +kernel
theorem dX6_stores_112 : decode cX6_stores 112 = .ok (.aload_n 0, 1) := by decide +kernel
theorem dX6_stores_113 : decode cX6_stores 113 = .ok (.iload_n 1, 1) := by decide +kernel
theorem dX6_stores_114 : decode cX6_stores 114 = .ok (.iconst 0, 1) := by decide +kernel
theorem dX6_stores_115 : decode cX6_stores 115 = .ok (.invokevirtual 97, 3) := by decide +kernel
theorem dX6_stores_118 : decode cX6_stores 118 = .ok (.invokevirtual 60, 3) := by decide +kernel
theorem dX6_stores_121 : decode cX6_stores 121 = .ok (.iload_n 3, 1) := by decide +kernel
theorem dX6_stores_122 : decode cX6_stores 122 = .ok (.ifCond .eq 21, 3) := by decide +kernel
theorem dX6_stores_125 : decode cX6_stores 125 = .ok (.aload_n 0, 1) := by decide +kernel
theorem dX6_stores_126 : decode cX6_stores 126 = .ok (.iload_n 1, 1) := by decide +kernel
theorem dX6_stores_127 : decode cX6_stores 127 = .ok (.bipush 8, 2) := by decide +kernel
theorem dX6_stores_129 : decode cX6_stores 129 = .ok (.aload_n 0, 1) := by decide +kernel
theorem dX6_stores_130 : decode cX6_stores 130 = .ok (.iload_n 1, 1) := by decide +kernel
theorem dX6_stores_131 : decode cX6_stores 131 = .ok (.bipush 8, 2) := by decide +kernel
theorem dX6_stores_133 : decode cX6_stores 133 = .ok (.invokevirtual 97, 3) := by decide +kernel
theorem dX6_stores_136 : decode cX6_stores 136 = .ok (.iconst 1, 1) := by decide +kernel
theorem dX6_stores_137 : decode cX6_stores 137 = .ok (.iload_n 2, 1) := by decide +kernel
theorem dX6_stores_138 : decode cX6_stores 138 = .ok (.ishl, 1) := by decide +kernel
theorem dX6_stores_139 : decode cX6_stores 139 = .ok (.ior, 1) := by decide +kernel
theorem dX6_stores_140 : decode cX6_stores 140 = .ok (.invokevirtual 60, 3) := by decide +kernel
theorem dX6_stores_143 : decode cX6_stores 143 = .ok (.aload_n 0, 1) := by decide +kernel
theorem dX6_stores_144 : decode cX6_stores 144 = .ok (.iload_n 1, 1) := by decide +kernel
theorem dX6_stores_145 : decode cX6_stores 145 = .ok (.iconst 3, 1) := by decide +kernel
theorem dX6_stores_146 : decode cX6_stores 146 = .ok (.invokevirtual 97, 3) := by decide +kernel
theorem dX6_stores_149 : decode cX6_stores 149 = .ok (.ifCond .ne 13, 3) := by decide +kernel
theorem dX6_stores_152 : decode cX6_stores 152 = .ok (.aload_n 0, 1) := by decide +kernel
theorem dX6_stores_153 : decode cX6_stores 153 = .ok (.iload_n 1, 1) := by decide +kernel
theorem dX6_stores_154 : decode cX6_stores 154 = .ok (.iconst (-1), 1) := by decide +kernel
theorem dX6_stores_155 : decode cX6_stores 155 = .ok (.iconst 0, 1) := by decide +kernel
theorem dX6_stores_156 : decode cX6_stores 156 = .ok (.iconst 1, 1) := by decide +kernel
theorem dX6_stores_157 : decode cX6_stores 157 = .ok (.iload_n 2, 1) := by decide +kernel
theorem dX6_stores_158 : decode cX6_stores 158 = .ok (.ishl, 1) := by decide +kernel
theorem dX6_stores_159 : decode cX6_stores 159 = .ok (.invokevirtual 141, 3) := by decide +kernel
theorem dX6_stores_162 : decode cX6_stores 162 = .ok (.iconst 1, 1) := by decide +kernel
theorem dX6_stores_163 : decode cX6_stores 163 = .ok (.ireturn, 1) := by decide +kernel
theorem dX6_begins_0 : decode cX6_begins 0 = .ok (.aload_n 0, 1) := by decide +kernel
theorem dX6_begins_1 : decode cX6_begins 1 = .ok (.iload_n 1, 1) := by decide +kernel
theorem dX6_begins_2 : decode cX6_begins 2 = .ok (.iconst 3, 1) := by decide +kernel
theorem dX6_begins_3 : decode cX6_begins 3 = .ok (.invokevirtual 97, 3) := by decide +kernel
theorem dX6_begins_6 : decode cX6_begins 6 = .ok (.iconst 1, 1) := by decide +kernel
theorem dX6_begins_7 : decode cX6_begins 7 = .ok (.if_icmp .ne 4, 3) := by decide +kernel
theorem dX6_begins_10 : decode cX6_begins 10 = .ok (.return_, 1) := by decide +kernel
theorem dX6_begins_11 : decode cX6_begins 11 = .ok (.aload_n 0, 1) := by decide +kernel
theorem dX6_begins_12 : decode cX6_begins 12 = .ok (.iload_n 1, 1) := by decide +kernel
theorem dX6_begins_13 : decode cX6_begins 13 = .ok (.iconst 4, 1) := by decide +kernel
theorem dX6_begins_14 : decode cX6_begins 14 = .ok (.invokevirtual 97, 3) := by decide +kernel
theorem dX6_begins_17 : decode cX6_begins 17 = .ok (.iconst (-1), 1) := by decide +kernel
theorem dX6_begins_18 : decode cX6_begins 18 = .ok (.if_icmp .ne 25, 3) := by decide +kernel
theorem dX6_begins_21 : decode cX6_begins 21 = .ok (.aload_n 0, 1) := by decide +kernel
theorem dX6_begins_22 : decode cX6_begins 22 = .ok (.iload_n 1, 1) := by decide +kernel
theorem dX6_begins_23 : decode cX6_begins 23 = .ok (.iconst 4, 1) := by decide +kernel
theorem dX6_begins_24 : decode cX6_begins 24 = .ok (.aload_n 0, 1) := by decide +kernel
theorem dX6_begins_25 : decode cX6_begins 25 = .ok (.getfield 7, 3) := by decide +kernel
theorem dX6_begins_28 : decode cX6_begins 28 = .ok (.iconst 4, 1) := by decide +kernel
theorem dX6_begins_29 : decode cX6_begins 29 = .ok (.iaload, 1) := by decide +kernel
theorem dX6_begins_30 : decode cX6_begins 30 = .ok (.invokevirtual 60, 3) := by decide +kernel
theorem dX6_begins_33 : decode cX6_begins 33 = .ok (.aload_n 0, 1) := by decide +kernel
theorem dX6_begins_34 : decode cX6_begins 34 = .ok (.getfield 7, 3) := by decide +kernel
theorem dX6_begins_37 : decode cX6_begins 37 = .ok (.iconst 4, 1) := by decide +kernel
theorem dX6_begins_38 : decode cX6_begins 38 = .ok (.dup2, 1) := by decide +kernel
theorem dX6_begins_39 : decode cX6_begins 39 = .ok (.iaload, 1) := by decide +kernel
theorem dX6_begins_40 : decode cX6_begins 40 = .ok (.iconst 1, 1) := by decide +kernel
theorem dX6_begins_41 : decode cX6_begins 41 = .ok (.iadd, 1) := by decide +kernel
theorem dX6_begins_42 : decode cX6_begins 42 = .ok (.iastore, 1) := by decide +kernel
theorem dX6_begins_43 : decode cX6_begins 43 = .ok (.aload_n 0, 1) := by decide +kernel
theorem dX6_begins_44 : decode cX6_begins 44 = .ok (.iload_n 1, 1) := by decide +kernel
theorem dX6_begins_45 : decode cX6_begins 45 = .ok (.iconst 3, 1) := by decide +kernel
theorem dX6_begins_46 : decode cX6_begins 46 = .ok (.iconst 1, 1) := by decide +kernel
theorem dX6_begins_47 : decode cX6_begins 47 = .ok (.invokevirtual 60, 3) := by decide +kernel
theorem dX6_begins_50 : decode cX6_begins 50 = .ok (.aload_n 0, 1) := by decide +kernel
theorem dX6_begins_51 : decode cX6_begins 51 = .ok (.iload_n 1, 1) := by decide +kernel
theorem dX6_begins_52 : decode cX6_begins 52 = .ok (.iconst 5, 1) := by decide +kernel
theorem dX6_begins_53 : decode cX6_begins 53 = .ok (.aload_n 0, 1) := by decide +kernel
theorem dX6_begins_54 : decode cX6_begins 54 = .ok (.iload_n 1, 1) := by decide +kernel
theorem dX6_begins_55 : decode cX6_begins 55 = .ok (.iconst 1, 1) := by decide +kernel
theorem dX6_begins_56 : decode cX6_begins 56 = .ok (.invokevirtual 97, 3) := by decide +kernel
theorem dX6_begins_59 : decode cX6_begins 59 = .ok (.invokevirtual 60, 3) := by decide +kernel
theorem dX6_begins_62 : decode cX6_begins 62 = .ok (.aload_n 0, 1) := by decide +kernel
theorem dX6_begins_63 : decode cX6_begins 63 = .ok (.iload_n 1, 1) := by decide +kernel
theorem dX6_begins_64 : decode cX6_begins 64 = .ok (.bipush 6, 2) := by decide +kernel
theorem dX6_begins_66 : decode cX6_begins 66 = .ok (.aload_n 0, 1) := by decide +kernel
theorem dX6_begins_67 : decode cX6_begins 67 = .ok (.iload_n 1, 1) := by decide +kernel
theorem dX6_begins_68 : decode cX6_begins 68 = .ok (.iconst 0, 1) := by decide +kernel
theorem dX6_begins_69 : decode cX6_begins 69 = .ok (.invokevirtual 97, 3) := by decide +kernel
theorem dX6_begins_72 : decode cX6_begins 72 = .ok (.invokevirtual 60, 3) := by decide +kernel
theorem dX6_begins_75 : decode cX6_begins 75 = .ok (.aload_n 0, 1) := by decide +kernel
theorem dX6_begins_76 : decode cX6_begins 76 = .ok (.iload_n 1, 1) := by decide +kernel
theorem dX6_begins_77 : decode cX6_begins 77 = .ok (.bipush 7, 2) := by decide +kernel
theorem dX6_begins_79 : decode cX6_begins 79 = .ok (.iconst 0, 1) := by decide +kernel
theorem dX6_begins_80 : decode cX6_begins 80 = .ok (.invokevirtual 60, 3) := by decide +kernel
theorem dX6_begins_83 : decode cX6_begins 83 = .ok (.aload_n 0, 1) := by decide +kernel
theorem dX6_begins_84 : decode cX6_begins 84 = .ok (.iload_n 1, 1) := by decide +kernel
theorem dX6_begins_85 : decode cX6_begins 85 = .ok (.bipush 8, 2) := by decide +kernel
theorem dX6_begins_87 : decode cX6_begins 87 = .ok (.iconst 0, 1) := by decide +kernel
theorem dX6_begins_88 : decode cX6_begins 88 = .ok (.invokevirtual 60, 3) := by decide +kernel
theorem dX6_begins_91 : decode cX6_begins 91 = .ok (.aload_n 0, 1) := by decide +kernel
theorem dX6_begins_92 : decode cX6_begins 92 = .ok (.iload_n 1, 1) := by decide +kernel
theorem dX6_begins_93 : decode cX6_begins 93 = .ok (.bipush 11, 2) := by decide +kernel
theorem dX6_begins_95 : decode cX6_begins 95 = .ok (.iconst 0, 1) := by decide +kernel
theorem dX6_begins_96 : decode cX6_begins 96 = .ok (.invokevirtual 60, 3) := by decide +kernel
theorem dX6_begins_99 : decode cX6_begins 99 = .ok (.return_, 1) := by decide +kernel
theorem dX6_ends_0 : decode cX6_ends 0 = .ok (.aload_n 0, 1) := by decide +kernel
theorem dX6_ends_1 : decode cX6_ends 1 = .ok (.iload_n 1, 1) := by decide +kernel
theorem dX6_ends_2 : decode cX6_ends 2 = .ok (.iconst 3, 1) := by decide +kernel
theorem dX6_ends_3 : decode cX6_ends 3 = .ok (.invokevirtual 97, 3) := by decide +kernel
theorem dX6_ends_6 : decode cX6_ends 6 = .ok (.ifCond .ne 4, 3) := by decide +kernel
theorem dX6_ends_9 : decode cX6_ends 9 = .ok (.return_, 1) := by decide +kernel
theorem dX6_ends_10 : decode cX6_ends 10 = .ok (.aload_n 0, 1) := by decide +kernel
theorem dX6_ends_11 : decode cX6_ends 11 = .ok (.iload_n 1, 1) := by decide +kernel
theorem dX6_ends_12 : decode cX6_ends 12 = .ok (.aload_n 0, 1) := by decide +kernel
theorem dX6_ends_13 : decode cX6_ends 13 = .ok (.iload_n 1, 1) := by decide +kernel
theorem dX6_ends_14 : decode cX6_ends 14 = .ok (.iconst 4, 1) := by decide +kernel
theorem dX6_ends_15 : decode cX6_ends 15 = .ok (.invokevirtual 97, 3) := by decide +kernel
theorem dX6_ends_18 : decode cX6_ends 18 = .ok (.aload_n 0, 1) := by decide +kernel
theorem dX6_ends_19 : decode cX6_ends 19 = .ok (.iload_n 1, 1) := by decide +kernel
theorem dX6_ends_20 : decode cX6_ends 20 = .ok (.bipush 11, 2) := by decide +kernel
theorem dX6_ends_22 : decode cX6_ends 22 = .ok (.invokevirtual 97, 3) := by decide +kernel
theorem dX6_ends_25 : decode cX6_ends 25 = .ok (.aload_n 0, 1) := by decide +kernel
theorem dX6_ends_26 : decode cX6_ends 26 = .ok (.iload_n 1, 1) := by decide +kernel
theorem dX6_ends_27 : decode cX6_ends 27 = .ok (.bipush 8, 2) := by decide +kernel
theorem dX6_ends_29 : decode cX6_ends 29 = .ok (.invokevirtual 97, 3) := by decide +kernel
theorem dX6_ends_32 : decode cX6_ends 32 = .ok (.invokevirtual 141, 3) := by decide +kernel
theorem dX6_ends_35 : decode cX6_ends 35 = .ok (.aload_n 0, 1) := by decide +kernel
theorem dX6_ends_36 : decode cX6_ends 36 = .ok (.iload_n 1, 1) := by decide +kernel
theorem dX6_ends_37 : decode cX6_ends 37 = .ok (.iconst 3, 1) := by decide +kernel
theorem dX6_ends_38 : decode cX6_ends 38 = .ok (.iconst 0, 1) := by decide +kernel
theorem dX6_ends_39 : decode cX6_ends 39 = .ok (.invokevirtual 60, 3) := by decide +kernel
theorem dX6_ends_42 : decode cX6_ends 42 = .ok (.aload_n 0, 1) := by decide +kernel
theorem dX6_ends_43 : decode cX6_ends 43 = .ok (.iload_n 1, 1) := by decide +kernel
theorem dX6_ends_44 : decode cX6_ends 44 = .ok (.iconst 4, 1) := by decide +kernel
theorem dX6_ends_45 : decode cX6_ends 45 = .ok (.iconst (-1), 1) := by decide +kernel
theorem dX6_ends_46 : decode cX6_ends 46 = .ok (.invokevirtual 60, 3) := by decide +kernel
theorem dX6_ends_49 : decode cX6_ends 49 = .ok (.aload_n 0, 1) := by decide +kernel
theorem dX6_ends_50 : decode cX6_ends 50 = .ok (.iload_n 1, 1) := by decide +kernel
theorem dX6_ends_51 : decode cX6_ends 51 = .ok (.bipush 7, 2) := by decide +kernel
theorem dX6_ends_53 : decode cX6_ends 53 = .ok (.iconst 0, 1) := by decide +kernel
theorem dX6_ends_54 : decode cX6_ends 54 = .ok (.invokevirtual 60, 3) := by decide +kernel
theorem dX6_ends_57 : decode cX6_ends 57 = .ok (.aload_n 0, 1) := by decide +kernel
theorem dX6_ends_58 : decode cX6_ends 58 = .ok (.iload_n 1, 1) := by decide +kernel
theorem dX6_ends_59 : decode cX6_ends 59 = .ok (.bipush 8, 2) := by decide +kernel
theorem dX6_ends_61 : decode cX6_ends 61 = .ok (.iconst 0, 1) := by decide +kernel
theorem dX6_ends_62 : decode cX6_ends 62 = .ok (.invokevirtual 60, 3) := by decide +kernel
theorem dX6_ends_65 : decode cX6_ends 65 = .ok (.aload_n 0, 1) := by decide +kernel
theorem dX6_ends_66 : decode cX6_ends 66 = .ok (.iload_n 1, 1) := by decide +kernel
theorem dX6_ends_67 : decode cX6_ends 67 = .ok (.bipush 11, 2) := by decide +kernel
theorem dX6_ends_69 : decode cX6_ends 69 = .ok (.iconst 0, 1) := by decide +kernel
theorem dX6_ends_70 : decode cX6_ends 70 = .ok (.invokevirtual 60, 3) := by decide +kernel
theorem dX6_ends_73 : decode cX6_ends 73 = .ok (.aload_n 0, 1) := by decide +kernel
theorem dX6_ends_74 : decode cX6_ends 74 = .ok (.getfield 7, 3) := by decide +kernel
theorem dX6_ends_77 : decode cX6_ends 77 = .ok (.iload_n 1, 1) := by decide +kernel
theorem dX6_ends_78 : decode cX6_ends 78 = .ok (.bipush 9, 2) := by decide +kernel
theorem dX6_ends_80 : decode cX6_ends 80 = .ok (.invokestatic 52, 3) := by decide +kernel
theorem dX6_ends_83 : decode cX6_ends 83 = .ok (.dup2, 1) := by decide +kernel
theorem dX6_ends_84 : decode cX6_ends 84 = .ok (.iaload, 1) := by decide +kernel
theorem dX6_ends_85 : decode cX6_ends 85 = .ok (.iconst 1, 1) := by decide +kernel
theorem dX6_ends_86 : decode cX6_ends 86 = .ok (.iadd, 1) := by decide +kernel
theorem dX6_ends_87 : decode cX6_ends 87 = .ok (.iastore, 1) := by decide +kernel
theorem dX6_ends_88 : decode cX6_ends 88 = .ok (.return_, 1) := by decide +kernel
theorem dX6_executes_0 : decode cX6_executes 0 = .ok (.bipush 36, 2) := by decide +kernel
theorem dX6_executes_2 : decode cX6_executes 2 = .ok (.iconst 2, 1) := by decide +kernel
theorem dX6_executes_3 : decode cX6_executes 3 = .ok (.aload_n 0, 1) := by decide +kernel
theorem dX6_executes_4 : decode cX6_executes 4 = .ok (.iload_n 1, 1) := by decide +kernel
theorem dX6_executes_5 : decode cX6_executes 5 = .ok (.iconst 1, 1) := by decide +kernel
theorem dX6_executes_6 : decode cX6_executes 6 = .ok (.invokevirtual 97, 3) := by decide +kernel
theorem dX6_executes_9 : decode cX6_executes 9 = .ok (.imul, 1) := by decide +kernel
theorem dX6_executes_10 : decode cX6_executes 10 = .ok (.iadd, 1) := by decide +kernel
theorem dX6_executes_11 : decode cX6_executes 11 = .ok (.istore_n 2, 1) := by decide +kernel
theorem dX6_executes_12 : decode cX6_executes 12 = .ok (.aload_n 0, 1) := by decide +kernel
theorem dX6_executes_13 : decode cX6_executes 13 = .ok (.iload_n 1, 1) := by decide +kernel
theorem dX6_executes_14 : decode cX6_executes 14 = .ok (.iload_n 2, 1) := by decide +kernel
theorem dX6_executes_15 : decode cX6_executes 15 = .ok (.iconst 1, 1) := by decide +kernel
theorem dX6_executes_16 : decode cX6_executes 16 = .ok (.iadd, 1) := by decide +kernel
theorem dX6_executes_17 : decode cX6_executes 17 = .ok (.invokevirtual 97, 3) := by decide +kernel
theorem dX6_executes_20 : decode cX6_executes 20 = .ok (.istore_n 3, 1) := by decide +kernel
theorem dX6_executes_21 : decode cX6_executes 21 = .ok (.aload_n 0, 1) := by decide +kernel
theorem dX6_executes_22 : decode cX6_executes 22 = .ok (.iload_n 1, 1) := by decide +kernel
theorem dX6_executes_23 : decode cX6_executes 23 = .ok (.iload_n 2, 1) := by decide +kernel
theorem dX6_executes_24 : decode cX6_executes 24 = .ok (.invokevirtual 97, 3) := by decide +kernel
theorem dX6_executes_27 : decode cX6_executes 27 = .ok (.lookupswitch 69 #[(98, 41), (99, 48), (114, 55), (119, 62)], 41) := by decide +kernel
theorem dX6_executes_68 : decode cX6_executes 68 = .ok (.aload_n 0, 1) := by decide +kernel
theorem dX6_executes_69 : decode cX6_executes 69 = .ok (.iload_n 1, 1) := by decide +kernel
theorem dX6_executes_70 : decode cX6_executes 70 = .ok (.invokevirtual 145, 3) := by decide +kernel
theorem dX6_executes_73 : decode cX6_executes 73 = .ok (.iconst 1, 1) := by decide +kernel
theorem dX6_executes_74 : decode cX6_executes 74 = .ok (.ireturn, 1) := by decide +kernel
theorem dX6_executes_75 : decode cX6_executes 75 = .ok (.aload_n 0, 1) := by decide +kernel
theorem dX6_executes_76 : decode cX6_executes 76 = .ok (.iload_n 1, 1) := by decide +kernel
theorem dX6_executes_77 : decode cX6_executes 77 = .ok (.invokevirtual 149, 3) := by decide +kernel
theorem dX6_executes_80 : decode cX6_executes 80 = .ok (.iconst 1, 1) := by decide +kernel
theorem dX6_executes_81 : decode cX6_executes 81 = .ok (.ireturn, 1) := by decide +kernel
theorem dX6_executes_82 : decode cX6_executes 82 = .ok (.aload_n 0, 1) := by decide +kernel
theorem dX6_executes_83 : decode cX6_executes 83 = .ok (.iload_n 1, 1) := by decide +kernel
theorem dX6_executes_84 : decode cX6_executes 84 = .ok (.iload_n 3, 1) := by decide +kernel
theorem dX6_executes_85 : decode cX6_executes 85 = .ok (.invokevirtual 152, 3) := by decide +kernel
theorem dX6_executes_88 : decode cX6_executes 88 = .ok (.ireturn, 1) := by decide +kernel
theorem dX6_executes_89 : decode cX6_executes 89 = .ok (.aload_n 0, 1) := by decide +kernel
theorem dX6_executes_90 : decode cX6_executes 90 = .ok (.iload_n 1, 1) := by decide +kernel
theorem dX6_executes_91 : decode cX6_executes 91 = .ok (.iload_n 3, 1) := by decide +kernel
theorem dX6_executes_92 : decode cX6_executes 92 = .ok (.invokevirtual 155, 3) := by decide +kernel
theorem dX6_executes_95 : decode cX6_executes 95 = .ok (.ireturn, 1) := by decide +kernel
theorem dX6_executes_96 : decode cX6_executes 96 = .ok (.aload_n 0, 1) := by decide +kernel
theorem dX6_executes_97 : decode cX6_executes 97 = .ok (.iload_n 1, 1) := by decide +kernel
theorem dX6_executes_98 : decode cX6_executes 98 = .ok (.iconst 0, 1) := by decide +kernel
theorem dX6_executes_99 : decode cX6_executes 99 = .ok (.aload_n 0, 1) := by decide +kernel
theorem dX6_executes_100 : decode cX6_executes 100 = .ok (.iload_n 1, 1) := by decide +kernel
theorem dX6_executes_101 : decode cX6_executes 101 = .ok (.iconst 0, 1) := by decide +kernel
theorem dX6_executes_102 : decode cX6_executes 102 = .ok (.invokevirtual 97, 3) := by decide +kernel
theorem dX6_executes_105 : decode cX6_executes 105 = .ok (.iload_n 3, 1) := by decide +kernel
theorem dX6_executes_106 : decode cX6_executes 106 = .ok (.iadd, 1) := by decide +kernel
theorem dX6_executes_107 : decode cX6_executes 107 = .ok (.invokevirtual 60, 3) := by decide +kernel
theorem dX6_executes_110 : decode cX6_executes 110 = .ok (.iconst 1, 1) := by decide +kernel
theorem dX6_executes_111 : decode cX6_executes 111 = .ok (.ireturn, 1) := by decide +kernel
theorem dX6_go_0 : decode cX6_go 0 = .ok (.aload_n 0, 1) := by decide +kernel
theorem dX6_go_1 : decode cX6_go 1 = .ok (.iconst 0, 1) := by decide +kernel
theorem dX6_go_2 : decode cX6_go 2 = .ok (.putfield 114, 3) := by decide +kernel
theorem dX6_go_5 : decode cX6_go 5 = .ok (.aload_n 0, 1) := by decide +kernel
theorem dX6_go_6 : decode cX6_go 6 = .ok (.getfield 7, 3) := by decide +kernel
theorem dX6_go_9 : decode cX6_go 9 = .ok (.bipush 20, 2) := by decide +kernel
theorem dX6_go_11 : decode cX6_go 11 = .ok (.dup2, 1) := by decide +kernel
theorem dX6_go_12 : decode cX6_go 12 = .ok (.iaload, 1) := by decide +kernel
theorem dX6_go_13 : decode cX6_go 13 = .ok (.iconst 1, 1) := by decide +kernel
theorem dX6_go_14 : decode cX6_go 14 = .ok (.iadd, 1) := by decide +kernel
theorem dX6_go_15 : decode cX6_go 15 = .ok (.iastore, 1) := by decide +kernel
theorem dX6_go_16 : decode cX6_go 16 = .ok (.aload_n 0, 1) := by decide +kernel
theorem dX6_go_17 : decode cX6_go 17 = .ok (.iload_n 1, 1) := by decide +kernel
theorem dX6_go_18 : decode cX6_go 18 = .ok (.invokevirtual 158, 3) := by decide +kernel
theorem dX6_go_21 : decode cX6_go 21 = .ok (.istore_n 2, 1) := by decide +kernel
theorem dX6_go_22 : decode cX6_go 22 = .ok (.iload_n 2, 1) := by decide +kernel
theorem dX6_go_23 : decode cX6_go 23 = .ok (.ifCond .eq 17, 3) := by decide +kernel
theorem dX6_go_26 : decode cX6_go 26 = .ok (.aload_n 0, 1) := by decide +kernel
theorem dX6_go_27 : decode cX6_go 27 = .ok (.iload_n 1, 1) := by decide +kernel
theorem dX6_go_28 : decode cX6_go 28 = .ok (.iconst 1, 1) := by decide +kernel
theorem dX6_go_29 : decode cX6_go 29 = .ok (.aload_n 0, 1) := by decide +kernel
theorem dX6_go_30 : decode cX6_go 30 = .ok (.iload_n 1, 1) := by decide +kernel
theorem dX6_go_31 : decode cX6_go 31 = .ok (.iconst 1, 1) := by decide +kernel
theorem dX6_go_32 : decode cX6_go 32 = .ok (.invokevirtual 97, 3) := by decide +kernel
theorem dX6_go_35 : decode cX6_go 35 = .ok (.iconst 1, 1) := by decide +kernel
theorem dX6_go_36 : decode cX6_go 36 = .ok (.iadd, 1) := by decide +kernel
theorem dX6_go_37 : decode cX6_go 37 = .ok (.invokevirtual 60, 3) := by decide +kernel
theorem dX6_go_40 : decode cX6_go 40 = .ok (.aload_n 0, 1) := by decide +kernel
theorem dX6_go_41 : decode cX6_go 41 = .ok (.getfield 114, 3) := by decide +kernel
theorem dX6_go_44 : decode cX6_go 44 = .ok (.iload_n 2, 1) := by decide +kernel
theorem dX6_go_45 : decode cX6_go 45 = .ok (.ifCond .eq 7, 3) := by decide +kernel
theorem dX6_go_48 : decode cX6_go 48 = .ok (.iconst 0, 1) := by decide +kernel
theorem dX6_go_49 : decode cX6_go 49 = .ok (.goto 5, 3) := by decide +kernel
theorem dX6_go_52 : decode cX6_go 52 = .ok (.bipush 8, 2) := by decide +kernel
theorem dX6_go_54 : decode cX6_go 54 = .ok (.iadd, 1) := by decide +kernel
theorem dX6_go_55 : decode cX6_go 55 = .ok (.ireturn, 1) := by decide +kernel
theorem dX6_step_0 : decode cX6_step 0 = .ok (.aload_n 0, 1) := by decide +kernel
theorem dX6_step_1 : decode cX6_step 1 = .ok (.aload_n 0, 1) := by decide +kernel
theorem dX6_step_2 : decode cX6_step 2 = .ok (.iload_n 1, 1) := by decide +kernel
theorem dX6_step_3 : decode cX6_step 3 = .ok (.invokevirtual 94, 3) := by decide +kernel
theorem dX6_step_6 : decode cX6_step 6 = .ok (.ifCond .ne 7, 3) := by decide +kernel
theorem dX6_step_9 : decode cX6_step 9 = .ok (.iconst 1, 1) := by decide +kernel
theorem dX6_step_10 : decode cX6_step 10 = .ok (.goto 16, 3) := by decide +kernel
theorem dX6_step_13 : decode cX6_step 13 = .ok (.aload_n 0, 1) := by decide +kernel
theorem dX6_step_14 : decode cX6_step 14 = .ok (.iload_n 1, 1) := by decide +kernel
theorem dX6_step_15 : decode cX6_step 15 = .ok (.invokevirtual 103, 3) := by decide +kernel
theorem dX6_step_18 : decode cX6_step 18 = .ok (.ifCond .eq 7, 3) := by decide +kernel
theorem dX6_step_21 : decode cX6_step 21 = .ok (.iconst 2, 1) := by decide +kernel
theorem dX6_step_22 : decode cX6_step 22 = .ok (.goto 4, 3) := by decide +kernel
theorem dX6_step_25 : decode cX6_step 25 = .ok (.iconst 0, 1) := by decide +kernel
theorem dX6_step_26 : decode cX6_step 26 = .ok (.putfield 41, 3) := by decide +kernel
theorem dX6_step_29 : decode cX6_step 29 = .ok (.aload_n 0, 1) := by decide +kernel
theorem dX6_step_30 : decode cX6_step 30 = .ok (.getfield 41, 3) := by decide +kernel
theorem dX6_step_33 : decode cX6_step 33 = .ok (.ifCond .eq 5, 3) := by decide +kernel
theorem dX6_step_36 : decode cX6_step 36 = .ok (.iconst 0, 1) := by decide +kernel
theorem dX6_step_37 : decode cX6_step 37 = .ok (.ireturn, 1) := by decide +kernel
theorem dX6_step_38 : decode cX6_step 38 = .ok (.aload_n 0, 1) := by decide +kernel
theorem dX6_step_39 : decode cX6_step 39 = .ok (.invokevirtual 63, 3) := by decide +kernel
theorem dX6_step_42 : decode cX6_step 42 = .ok (.aload_n 0, 1) := by decide +kernel
theorem dX6_step_43 : decode cX6_step 43 = .ok (.iload_n 1, 1) := by decide +kernel
theorem dX6_step_44 : decode cX6_step 44 = .ok (.invokevirtual 161, 3) := by decide +kernel
theorem dX6_step_47 : decode cX6_step 47 = .ok (.ireturn, 1) := by decide +kernel
theorem dX6_finishedCount_0 : decode cX6_finishedCount 0 = .ok (.iconst 0, 1) := by decide +kernel
theorem dX6_finishedCount_1 : decode cX6_finishedCount 1 = .ok (.istore_n 1, 1) := by decide +kernel
theorem dX6_finishedCount_2 : decode cX6_finishedCount 2 = .ok (.iconst 0, 1) := by decide +kernel
theorem dX6_finishedCount_3 : decode cX6_finishedCount 3 = .ok (.istore_n 2, 1) := by decide +kernel
theorem dX6_finishedCount_4 : decode cX6_finishedCount 4 = .ok (.iload_n 2, 1) := by decide +kernel
theorem dX6_finishedCount_5 : decode cX6_finishedCount 5 = .ok (.aload_n 0, 1) := by decide +kernel
theorem dX6_finishedCount_6 : decode cX6_finishedCount 6 = .ok (.getfield 7, 3) := by decide +kernel
theorem dX6_finishedCount_9 : decode cX6_finishedCount 9 = .ok (.iconst 0, 1) := by decide +kernel
theorem dX6_finishedCount_10 : decode cX6_finishedCount 10 = .ok (.iaload, 1) := by decide +kernel
theorem dX6_finishedCount_11 : decode cX6_finishedCount 11 = .ok (.if_icmp .ge 25, 3) := by decide +kernel
theorem dX6_finishedCount_14 : decode cX6_finishedCount 14 = .ok (.iload_n 1, 1) := by decide +kernel
theorem dX6_finishedCount_15 : decode cX6_finishedCount 15 = .ok (.aload_n 0, 1) := by decide +kernel
theorem dX6_finishedCount_16 : decode cX6_finishedCount 16 = .ok (.iload_n 2, 1) := by decide +kernel
theorem dX6_finishedCount_17 : decode cX6_finishedCount 17 = .ok (.invokevirtual 103, 3) := by decide +kernel
theorem dX6_finishedCount_20 : decode cX6_finishedCount 20 = .ok (.ifCond .eq 7, 3) := by decide +kernel
theorem dX6_finishedCount_23 : decode cX6_finishedCount 23 = .ok (.iconst 1, 1) := by decide +kernel
theorem dX6_finishedCount_24 : decode cX6_finishedCount 24 = .ok (.goto 4, 3) := by decide +kernel
theorem dX6_finishedCount_27 : decode cX6_finishedCount 27 = .ok (.iconst 0, 1) := by decide +kernel
theorem dX6_finishedCount_28 : decode cX6_finishedCount 28 = .ok (.iadd, 1) := by decide +kernel
theorem dX6_finishedCount_29 : decode cX6_finishedCount 29 = .ok (.istore_n 1, 1) := by decide +kernel
theorem dX6_finishedCount_30 : decode cX6_finishedCount 30 = .ok (.iinc 2 1, 3) := by decide +kernel
theorem dX6_finishedCount_33 : decode cX6_finishedCount 33 = .ok (.goto (-29), 3) := by decide +kernel
theorem dX6_finishedCount_36 : decode cX6_finishedCount 36 = .ok (.iload_n 1, 1) := by decide +kernel
theorem dX6_finishedCount_37 : decode cX6_finishedCount 37 = .ok (.ireturn, 1) := by decide +kernel
theorem dX6_schedules_0 : decode cX6_schedules 0 = .ok (.aload_n 0, 1) := by decide +kernel
theorem dX6_schedules_1 : decode cX6_schedules 1 = .ok (.getfield 7, 3) := by decide +kernel
theorem dX6_schedules_4 : decode cX6_schedules 4 = .ok (.iconst 0, 1) := by decide +kernel
theorem dX6_schedules_5 : decode cX6_schedules 5 = .ok (.iaload, 1) := by decide +kernel
theorem dX6_schedules_6 : decode cX6_schedules 6 = .ok (.aload_n 0, 1) := by decide +kernel
theorem dX6_schedules_7 : decode cX6_schedules 7 = .ok (.invokevirtual 164, 3) := by decide +kernel
theorem dX6_schedules_10 : decode cX6_schedules 10 = .ok (.isub, 1) := by decide +kernel
theorem dX6_schedules_11 : decode cX6_schedules 11 = .ok (.istore_n 1, 1) := by decide +kernel
theorem dX6_schedules_12 : decode cX6_schedules 12 = .ok (.iload_n 1, 1) := by decide +kernel
theorem dX6_schedules_13 : decode cX6_schedules 13 = .ok (.ifCond .ne 5, 3) := by decide +kernel
theorem dX6_schedules_16 : decode cX6_schedules 16 = .ok (.iconst 0, 1) := by decide +kernel
theorem dX6_schedules_17 : decode cX6_schedules 17 = .ok (.ireturn, 1) := by decide +kernel
theorem dX6_schedules_18 : decode cX6_schedules 18 = .ok (.aload_n 0, 1) := by decide +kernel
theorem dX6_schedules_19 : decode cX6_schedules 19 = .ok (.getfield 7, 3) := by decide +kernel
theorem dX6_schedules_22 : decode cX6_schedules 22 = .ok (.iconst 3, 1) := by decide +kernel
theorem dX6_schedules_23 : decode cX6_schedules 23 = .ok (.ldc2_w 167, 3) := by decide +kernel
theorem dX6_schedules_26 : decode cX6_schedules 26 = .ok (.aload_n 0, 1) := by decide +kernel
theorem dX6_schedules_27 : decode cX6_schedules 27 = .ok (.getfield 7, 3) := by decide +kernel
theorem dX6_schedules_30 : decode cX6_schedules 30 = .ok (.iconst 3, 1) := by decide +kernel
theorem dX6_schedules_31 : decode cX6_schedules 31 = .ok (.iaload, 1) := by decide +kernel
theorem dX6_schedules_32 : decode cX6_schedules 32 = .ok (.i2l, 1) := by decide +kernel
theorem dX6_schedules_33 : decode cX6_schedules 33 = .ok (.lmul, 1) := by decide +kernel
theorem dX6_schedules_34 : decode cX6_schedules 34 = .ok (.ldc2_w 169, 3) := by decide +kernel
theorem dX6_schedules_37 : decode cX6_schedules 37 = .ok (.ladd, 1) := by decide +kernel
theorem dX6_schedules_38 : decode cX6_schedules 38 = .ok (.ldc2_w 171, 3) := by decide +kernel
theorem dX6_schedules_41 : decode cX6_schedules 41 = .ok (.lrem, 1) := by decide +kernel
theorem dX6_schedules_42 : decode cX6_schedules 42 = .ok (.l2i, 1) := by decide +kernel
theorem dX6_schedules_43 : decode cX6_schedules 43 = .ok (.iastore, 1) := by decide +kernel
theorem dX6_schedules_44 : decode cX6_schedules 44 = .ok (.aload_n 0, 1) := by decide +kernel
theorem dX6_schedules_45 : decode cX6_schedules 45 = .ok (.getfield 7, 3) := by decide +kernel
theorem dX6_schedules_48 : decode cX6_schedules 48 = .ok (.iconst 3, 1) := by decide +kernel
theorem dX6_schedules_49 : decode cX6_schedules 49 = .ok (.iaload, 1) := by decide +kernel
theorem dX6_schedules_50 : decode cX6_schedules 50 = .ok (.ldc 173, 2) := by decide +kernel
theorem dX6_schedules_52 : decode cX6_schedules 52 = .ok (.idiv, 1) := by decide +kernel
theorem dX6_schedules_53 : decode cX6_schedules 53 = .ok (.iload_n 1, 1) := by decide +kernel
theorem dX6_schedules_54 : decode cX6_schedules 54 = .ok (.irem, 1) := by decide +kernel
theorem dX6_schedules_55 : decode cX6_schedules 55 = .ok (.istore_n 2, 1) := by decide +kernel
theorem dX6_schedules_56 : decode cX6_schedules 56 = .ok (.iconst 0, 1) := by decide +kernel
theorem dX6_schedules_57 : decode cX6_schedules 57 = .ok (.istore_n 3, 1) := by decide +kernel
theorem dX6_schedules_58 : decode cX6_schedules 58 = .ok (.aload_n 0, 1) := by decide +kernel
theorem dX6_schedules_59 : decode cX6_schedules 59 = .ok (.iload_n 3, 1) := by decide +kernel
theorem dX6_schedules_60 : decode cX6_schedules 60 = .ok (.invokevirtual 103, 3) := by decide +kernel
theorem dX6_schedules_63 : decode cX6_schedules 63 = .ok (.ifCond .ne 7, 3) := by decide +kernel
theorem dX6_schedules_66 : decode cX6_schedules 66 = .ok (.iload_n 2, 1) := by decide +kernel
theorem dX6_schedules_67 : decode cX6_schedules 67 = .ok (.ifCond .le 25, 3) := by decide +kernel
theorem dX6_schedules_70 : decode cX6_schedules 70 = .ok (.iload_n 2, 1) := by decide +kernel
theorem dX6_schedules_71 : decode cX6_schedules 71 = .ok (.aload_n 0, 1) := by decide +kernel
theorem dX6_schedules_72 : decode cX6_schedules 72 = .ok (.iload_n 3, 1) := by decide +kernel
theorem dX6_schedules_73 : decode cX6_schedules 73 = .ok (.invokevirtual 103, 3) := by decide +kernel
theorem dX6_schedules_76 : decode cX6_schedules 76 = .ok (.ifCond .eq 7, 3) := by decide +kernel
theorem dX6_schedules_79 : decode cX6_schedules 79 = .ok (.iconst 0, 1) := by decide +kernel
theorem dX6_schedules_80 : decode cX6_schedules 80 = .ok (.goto 4, 3) := by decide +kernel
theorem dX6_schedules_83 : decode cX6_schedules 83 = .ok (.iconst 1, 1) := by decide +kernel
theorem dX6_schedules_84 : decode cX6_schedules 84 = .ok (.isub, 1) := by decide +kernel
theorem dX6_schedules_85 : decode cX6_schedules 85 = .ok (.istore_n 2, 1) := by decide +kernel
theorem dX6_schedules_86 : decode cX6_schedules 86 = .ok (.iinc 3 1, 3) := by decide +kernel
theorem dX6_schedules_89 : decode cX6_schedules 89 = .ok (.goto (-31), 3) := by decide +kernel
theorem dX6_schedules_92 : decode cX6_schedules 92 = .ok (.aload_n 0, 1) := by decide +kernel
theorem dX6_schedules_93 : decode cX6_schedules 93 = .ok (.iload_n 3, 1) := by decide +kernel
theorem dX6_schedules_94 : decode cX6_schedules 94 = .ok (.invokevirtual 161, 3) := by decide +kernel
theorem dX6_schedules_97 : decode cX6_schedules 97 = .ok (.istore 4, 2) := by decide +kernel
theorem dX6_schedules_99 : decode cX6_schedules 99 = .ok (.iload 4, 2) := by decide +kernel
theorem dX6_schedules_101 : decode cX6_schedules 101 = .ok (.ifCond .lt 7, 3) := by decide +kernel
theorem dX6_schedules_104 : decode cX6_schedules 104 = .ok (.iconst 1, 1) := by decide +kernel
theorem dX6_schedules_105 : decode cX6_schedules 105 = .ok (.goto 4, 3) := by decide +kernel
theorem dX6_schedules_108 : decode cX6_schedules 108 = .ok (.iconst 0, 1) := by decide +kernel
theorem dX6_schedules_109 : decode cX6_schedules 109 = .ok (.ireturn, 1) := by decide +kernel
theorem dX6_runs_0 : decode cX6_runs 0 = .ok (.iconst 0, 1) := by decide +kernel
theorem dX6_runs_1 : decode cX6_runs 1 = .ok (.istore_n 2, 1) := by decide +kernel
theorem dX6_runs_2 : decode cX6_runs 2 = .ok (.iload_n 2, 1) := by decide +kernel
theorem dX6_runs_3 : decode cX6_runs 3 = .ok (.iload_n 1, 1) := by decide +kernel
theorem dX6_runs_4 : decode cX6_runs 4 = .ok (.if_icmp .ge 17, 3) := by decide +kernel
theorem dX6_runs_7 : decode cX6_runs 7 = .ok (.aload_n 0, 1) := by decide +kernel
theorem dX6_runs_8 : decode cX6_runs 8 = .ok (.invokevirtual 174, 3) := by decide +kernel
theorem dX6_runs_11 : decode cX6_runs 11 = .ok (.ifCond .ne 4, 3) := by decide +kernel
theorem dX6_runs_14 : decode cX6_runs 14 = .ok (.return_, 1) := by decide +kernel
theorem dX6_runs_15 : decode cX6_runs 15 = .ok (.iinc 2 1, 3) := by decide +kernel
theorem dX6_runs_18 : decode cX6_runs 18 = .ok (.goto (-16), 3) := by decide +kernel
theorem dX6_runs_21 : decode cX6_runs 21 = .ok (.return_, 1) := by decide +kernel
theorem dX6_run_0 : decode cX6_run 0 = .ok (.aload_n 0, 1) := by decide +kernel
theorem dX6_run_1 : decode cX6_run 1 = .ok (.iload_n 1, 1) := by decide +kernel
theorem dX6_run_2 : decode cX6_run 2 = .ok (.iconst 0, 1) := by decide +kernel
theorem dX6_run_3 : decode cX6_run 3 = .ok (.sipush 1000, 3) := by decide +kernel
theorem dX6_run_6 : decode cX6_run 6 = .ok (.invokestatic 56, 3) := by decide +kernel
theorem dX6_run_9 : decode cX6_run 9 = .ok (.ifCond .eq 7, 3) := by decide +kernel
theorem dX6_run_12 : decode cX6_run 12 = .ok (.iconst 0, 1) := by decide +kernel
theorem dX6_run_13 : decode cX6_run 13 = .ok (.goto 4, 3) := by decide +kernel
theorem dX6_run_16 : decode cX6_run 16 = .ok (.iconst 1, 1) := by decide +kernel
theorem dX6_run_17 : decode cX6_run 17 = .ok (.putfield 41, 3) := by decide +kernel
theorem dX6_run_20 : decode cX6_run 20 = .ok (.aload_n 0, 1) := by decide +kernel
theorem dX6_run_21 : decode cX6_run 21 = .ok (.getfield 41, 3) := by decide +kernel
theorem dX6_run_24 : decode cX6_run 24 = .ok (.ifCond .eq 5, 3) := by decide +kernel
theorem dX6_run_27 : decode cX6_run 27 = .ok (.iconst 0, 1) := by decide +kernel
theorem dX6_run_28 : decode cX6_run 28 = .ok (.ireturn, 1) := by decide +kernel
theorem dX6_run_29 : decode cX6_run 29 = .ok (.aload_n 0, 1) := by decide +kernel
theorem dX6_run_30 : decode cX6_run 30 = .ok (.invokevirtual 63, 3) := by decide +kernel
theorem dX6_run_33 : decode cX6_run 33 = .ok (.aload_n 0, 1) := by decide +kernel
theorem dX6_run_34 : decode cX6_run 34 = .ok (.iload_n 1, 1) := by decide +kernel
theorem dX6_run_35 : decode cX6_run 35 = .ok (.invokevirtual 177, 3) := by decide +kernel
theorem dX6_run_38 : decode cX6_run 38 = .ok (.aload_n 0, 1) := by decide +kernel
theorem dX6_run_39 : decode cX6_run 39 = .ok (.invokevirtual 164, 3) := by decide +kernel
theorem dX6_run_42 : decode cX6_run 42 = .ok (.ireturn, 1) := by decide +kernel
theorem dX6_poke_0 : decode cX6_poke 0 = .ok (.aload_n 0, 1) := by decide +kernel
theorem dX6_poke_1 : decode cX6_poke 1 = .ok (.iload_n 1, 1) := by decide +kernel
theorem dX6_poke_2 : decode cX6_poke 2 = .ok (.invokestatic 180, 3) := by decide +kernel
theorem dX6_poke_5 : decode cX6_poke 5 = .ok (.ifCond .eq 7, 3) := by decide +kernel
theorem dX6_poke_8 : decode cX6_poke 8 = .ok (.iconst 0, 1) := by decide +kernel
theorem dX6_poke_9 : decode cX6_poke 9 = .ok (.goto 4, 3) := by decide +kernel
theorem dX6_poke_12 : decode cX6_poke 12 = .ok (.iconst 1, 1) := by decide +kernel
theorem dX6_poke_13 : decode cX6_poke 13 = .ok (.putfield 41, 3) := by decide +kernel
theorem dX6_poke_16 : decode cX6_poke 16 = .ok (.aload_n 0, 1) := by decide +kernel
theorem dX6_poke_17 : decode cX6_poke 17 = .ok (.getfield 41, 3) := by decide +kernel
theorem dX6_poke_20 : decode cX6_poke 20 = .ok (.ifCond .eq 5, 3) := by decide +kernel
theorem dX6_poke_23 : decode cX6_poke 23 = .ok (.iconst 0, 1) := by decide +kernel
theorem dX6_poke_24 : decode cX6_poke 24 = .ok (.ireturn, 1) := by decide +kernel
theorem dX6_poke_25 : decode cX6_poke 25 = .ok (.aload_n 0, 1) := by decide +kernel
theorem dX6_poke_26 : decode cX6_poke 26 = .ok (.invokevirtual 63, 3) := by decide +kernel
theorem dX6_poke_29 : decode cX6_poke 29 = .ok (.aload_n 0, 1) := by decide +kernel
theorem dX6_poke_30 : decode cX6_poke 30 = .ok (.iconst 0, 1) := by decide +kernel
theorem dX6_poke_31 : decode cX6_poke 31 = .ok (.putfield 114, 3) := by decide +kernel
theorem dX6_poke_34 : decode cX6_poke 34 = .ok (.iconst 0, 1) := by decide +kernel
theorem dX6_poke_35 : decode cX6_poke 35 = .ok (.istore_n 3, 1) := by decide +kernel
theorem dX6_poke_36 : decode cX6_poke 36 = .ok (.iload_n 3, 1) := by decide +kernel
theorem dX6_poke_37 : decode cX6_poke 37 = .ok (.aload_n 0, 1) := by decide +kernel
theorem dX6_poke_38 : decode cX6_poke 38 = .ok (.getfield 7, 3) := by decide +kernel
theorem dX6_poke_41 : decode cX6_poke 41 = .ok (.iconst 0, 1) := by decide +kernel
theorem dX6_poke_42 : decode cX6_poke 42 = .ok (.iaload, 1) := by decide +kernel
theorem dX6_poke_43 : decode cX6_poke 43 = .ok (.if_icmp .ge 45, 3) := by decide +kernel
theorem dX6_poke_46 : decode cX6_poke 46 = .ok (.aload_n 0, 1) := by decide +kernel
theorem dX6_poke_47 : decode cX6_poke 47 = .ok (.iload_n 3, 1) := by decide +kernel
theorem dX6_poke_48 : decode cX6_poke 48 = .ok (.iload_n 1, 1) := by decide +kernel
theorem dX6_poke_49 : decode cX6_poke 49 = .ok (.iconst 1, 1) := by decide +kernel
theorem dX6_poke_50 : decode cX6_poke 50 = .ok (.invokevirtual 117, 3) := by decide +kernel
theorem dX6_poke_53 : decode cX6_poke 53 = .ok (.ifCond .eq 9, 3) := by decide +kernel
theorem dX6_poke_56 : decode cX6_poke 56 = .ok (.aload_n 0, 1) := by decide +kernel
theorem dX6_poke_57 : decode cX6_poke 57 = .ok (.iload_n 3, 1) := by decide +kernel
theorem dX6_poke_58 : decode cX6_poke 58 = .ok (.iconst 5, 1) := by decide +kernel
theorem dX6_poke_59 : decode cX6_poke 59 = .ok (.invokevirtual 121, 3) := by decide +kernel
theorem dX6_poke_62 : decode cX6_poke 62 = .ok (.aload_n 0, 1) := by decide +kernel
theorem dX6_poke_63 : decode cX6_poke 63 = .ok (.iload_n 3, 1) := by decide +kernel
theorem dX6_poke_64 : decode cX6_poke 64 = .ok (.bipush 20, 2) := by decide +kernel
theorem dX6_poke_66 : decode cX6_poke 66 = .ok (.iload_n 1, 1) := by decide +kernel
theorem dX6_poke_67 : decode cX6_poke 67 = .ok (.iadd, 1) := by decide +kernel
theorem dX6_poke_68 : decode cX6_poke 68 = .ok (.iconst 0, 1) := by decide +kernel
theorem dX6_poke_69 : decode cX6_poke 69 = .ok (.invokevirtual 60, 3) := by decide +kernel
theorem dX6_poke_72 : decode cX6_poke 72 = .ok (.aload_n 0, 1) := by decide +kernel
theorem dX6_poke_73 : decode cX6_poke 73 = .ok (.iload_n 3, 1) := by decide +kernel
theorem dX6_poke_74 : decode cX6_poke 74 = .ok (.bipush 28, 2) := by decide +kernel
theorem dX6_poke_76 : decode cX6_poke 76 = .ok (.iload_n 1, 1) := by decide +kernel
theorem dX6_poke_77 : decode cX6_poke 77 = .ok (.iadd, 1) := by decide +kernel
theorem dX6_poke_78 : decode cX6_poke 78 = .ok (.iconst 0, 1) := by decide +kernel
theorem dX6_poke_79 : decode cX6_poke 79 = .ok (.invokevirtual 60, 3) := by decide +kernel
theorem dX6_poke_82 : decode cX6_poke 82 = .ok (.iinc 3 1, 3) := by decide +kernel
theorem dX6_poke_85 : decode cX6_poke 85 = .ok (.goto (-49), 3) := by decide +kernel
theorem dX6_poke_88 : decode cX6_poke 88 = .ok (.aload_n 0, 1) := by decide +kernel
theorem dX6_poke_89 : decode cX6_poke 89 = .ok (.getfield 7, 3) := by decide +kernel
theorem dX6_poke_92 : decode cX6_poke 92 = .ok (.iconst 5, 1) := by decide +kernel
theorem dX6_poke_93 : decode cX6_poke 93 = .ok (.iload_n 1, 1) := by decide +kernel
theorem dX6_poke_94 : decode cX6_poke 94 = .ok (.iadd, 1) := by decide +kernel
theorem dX6_poke_95 : decode cX6_poke 95 = .ok (.iload_n 2, 1) := by decide +kernel
theorem dX6_poke_96 : decode cX6_poke 96 = .ok (.iastore, 1) := by decide +kernel
theorem dX6_poke_97 : decode cX6_poke 97 = .ok (.sipush 406, 3) := by decide +kernel
theorem dX6_poke_100 : decode cX6_poke 100 = .ok (.bipush 19, 2) := by decide +kernel
theorem dX6_poke_102 : decode cX6_poke 102 = .ok (.aload_n 0, 1) := by decide +kernel
theorem dX6_poke_103 : decode cX6_poke 103 = .ok (.getfield 7, 3) := by decide +kernel
theorem dX6_poke_106 : decode cX6_poke 106 = .ok (.bipush 21, 2) := by decide +kernel
theorem dX6_poke_108 : decode cX6_poke 108 = .ok (.iaload, 1) := by decide +kernel
theorem dX6_poke_109 : decode cX6_poke 109 = .ok (.imul, 1) := by decide +kernel
theorem dX6_poke_110 : decode cX6_poke 110 = .ok (.iadd, 1) := by decide +kernel
theorem dX6_poke_111 : decode cX6_poke 111 = .ok (.istore_n 3, 1) := by decide +kernel
theorem dX6_poke_112 : decode cX6_poke 112 = .ok (.aload_n 0, 1) := by decide +kernel
theorem dX6_poke_113 : decode cX6_poke 113 = .ok (.iconst (-1), 1) := by decide +kernel
theorem dX6_poke_114 : decode cX6_poke 114 = .ok (.iconst (-1), 1) := by decide +kernel
theorem dX6_poke_115 : decode cX6_poke 115 = .ok (.iconst 0, 1) := by decide +kernel
theorem dX6_poke_116 : decode cX6_poke 116 = .ok (.iconst 1, 1) := by decide +kernel
theorem dX6_poke_117 : decode cX6_poke 117 = .ok (.iload_n 1, 1) := by decide +kernel
theorem dX6_poke_118 : decode cX6_poke 118 = .ok (.ishl, 1) := by decide +kernel
theorem dX6_poke_119 : decode cX6_poke 119 = .ok (.invokevirtual 141, 3) := by decide +kernel
theorem dX6_poke_122 : decode cX6_poke 122 = .ok (.iload_n 3, 1) := by decide +kernel
theorem dX6_poke_123 : decode cX6_poke 123 = .ok (.sipush 406, 3) := by decide +kernel
theorem dX6_poke_126 : decode cX6_poke 126 = .ok (.bipush 19, 2) := by decide +kernel
theorem dX6_poke_128 : decode cX6_poke 128 = .ok (.aload_n 0, 1) := by decide +kernel
theorem dX6_poke_129 : decode cX6_poke 129 = .ok (.getfield 7, 3) := by decide +kernel
theorem dX6_poke_132 : decode cX6_poke 132 = .ok (.bipush 21, 2) := by decide +kernel
theorem dX6_poke_134 : decode cX6_poke 134 = .ok (.iaload, 1) := by decide +kernel
theorem dX6_poke_135 : decode cX6_poke 135 = .ok (.imul, 1) := by decide +kernel
theorem dX6_poke_136 : decode cX6_poke 136 = .ok (.iadd, 1) := by decide +kernel
theorem dX6_poke_137 : decode cX6_poke 137 = .ok (.if_icmp .ge 15, 3) := by decide +kernel
theorem dX6_poke_140 : decode cX6_poke 140 = .ok (.aload_n 0, 1) := by decide +kernel
theorem dX6_poke_141 : decode cX6_poke 141 = .ok (.getfield 7, 3) := by decide +kernel
theorem dX6_poke_144 : decode cX6_poke 144 = .ok (.iload_n 3, 1) := by decide +kernel
theorem dX6_poke_145 : decode cX6_poke 145 = .ok (.bipush 11, 2) := by decide +kernel
theorem dX6_poke_147 : decode cX6_poke 147 = .ok (.iadd, 1) := by decide +kernel
theorem dX6_poke_148 : decode cX6_poke 148 = .ok (.iload_n 1, 1) := by decide +kernel
theorem dX6_poke_149 : decode cX6_poke 149 = .ok (.iadd, 1) := by decide +kernel
theorem dX6_poke_150 : decode cX6_poke 150 = .ok (.iload_n 2, 1) := by decide +kernel
theorem dX6_poke_151 : decode cX6_poke 151 = .ok (.iastore, 1) := by decide +kernel
theorem dX6_poke_152 : decode cX6_poke 152 = .ok (.aload_n 0, 1) := by decide +kernel
theorem dX6_poke_153 : decode cX6_poke 153 = .ok (.getfield 114, 3) := by decide +kernel
theorem dX6_poke_156 : decode cX6_poke 156 = .ok (.ireturn, 1) := by decide +kernel
theorem dX6_state_0 : decode cX6_state 0 = .ok (.aload_n 0, 1) := by decide +kernel
theorem dX6_state_1 : decode cX6_state 1 = .ok (.aload_n 0, 1) := by decide +kernel
theorem dX6_state_2 : decode cX6_state 2 = .ok (.iload_n 1, 1) := by decide +kernel
theorem dX6_state_3 : decode cX6_state 3 = .ok (.invokevirtual 94, 3) := by decide +kernel
theorem dX6_state_6 : decode cX6_state 6 = .ok (.ifCond .eq 14, 3) := by decide +kernel
theorem dX6_state_9 : decode cX6_state 9 = .ok (.iload_n 2, 1) := by decide +kernel
theorem dX6_state_10 : decode cX6_state 10 = .ok (.invokestatic 180, 3) := by decide +kernel
theorem dX6_state_13 : decode cX6_state 13 = .ok (.ifCond .eq 7, 3) := by decide +kernel
theorem dX6_state_16 : decode cX6_state 16 = .ok (.iconst 0, 1) := by decide +kernel
theorem dX6_state_17 : decode cX6_state 17 = .ok (.goto 4, 3) := by decide +kernel
theorem dX6_state_20 : decode cX6_state 20 = .ok (.iconst 1, 1) := by decide +kernel
theorem dX6_state_21 : decode cX6_state 21 = .ok (.putfield 41, 3) := by decide +kernel
theorem dX6_state_24 : decode cX6_state 24 = .ok (.aload_n 0, 1) := by decide +kernel
theorem dX6_state_25 : decode cX6_state 25 = .ok (.getfield 41, 3) := by decide +kernel
theorem dX6_state_28 : decode cX6_state 28 = .ok (.ifCond .eq 7, 3) := by decide +kernel
theorem dX6_state_31 : decode cX6_state 31 = .ok (.iconst 0, 1) := by decide +kernel
theorem dX6_state_32 : decode cX6_state 32 = .ok (.goto 12, 3) := by decide +kernel
theorem dX6_state_35 : decode cX6_state 35 = .ok (.aload_n 0, 1) := by decide +kernel
theorem dX6_state_36 : decode cX6_state 36 = .ok (.iload_n 1, 1) := by decide +kernel
theorem dX6_state_37 : decode cX6_state 37 = .ok (.bipush 20, 2) := by decide +kernel
theorem dX6_state_39 : decode cX6_state 39 = .ok (.iload_n 2, 1) := by decide +kernel
theorem dX6_state_40 : decode cX6_state 40 = .ok (.iadd, 1) := by decide +kernel
theorem dX6_state_41 : decode cX6_state 41 = .ok (.invokevirtual 97, 3) := by decide +kernel
theorem dX6_state_44 : decode cX6_state 44 = .ok (.ireturn, 1) := by decide +kernel
theorem dX6_cached_0 : decode cX6_cached 0 = .ok (.aload_n 0, 1) := by decide +kernel
theorem dX6_cached_1 : decode cX6_cached 1 = .ok (.aload_n 0, 1) := by decide +kernel
theorem dX6_cached_2 : decode cX6_cached 2 = .ok (.iload_n 1, 1) := by decide +kernel
theorem dX6_cached_3 : decode cX6_cached 3 = .ok (.invokevirtual 94, 3) := by decide +kernel
theorem dX6_cached_6 : decode cX6_cached 6 = .ok (.ifCond .eq 14, 3) := by decide +kernel
theorem dX6_cached_9 : decode cX6_cached 9 = .ok (.iload_n 2, 1) := by decide +kernel
theorem dX6_cached_10 : decode cX6_cached 10 = .ok (.invokestatic 180, 3) := by decide +kernel
theorem dX6_cached_13 : decode cX6_cached 13 = .ok (.ifCond .eq 7, 3) := by decide +kernel
theorem dX6_cached_16 : decode cX6_cached 16 = .ok (.iconst 0, 1) := by decide +kernel
theorem dX6_cached_17 : decode cX6_cached 17 = .ok (.goto 4, 3) := by decide +kernel
theorem dX6_cached_20 : decode cX6_cached 20 = .ok (.iconst 1, 1) := by decide +kernel
theorem dX6_cached_21 : decode cX6_cached 21 = .ok (.putfield 41, 3) := by decide +kernel
theorem dX6_cached_24 : decode cX6_cached 24 = .ok (.aload_n 0, 1) := by decide +kernel
theorem dX6_cached_25 : decode cX6_cached 25 = .ok (.getfield 41, 3) := by decide +kernel
theorem dX6_cached_28 : decode cX6_cached 28 = .ok (.ifCond .eq 7, 3) := by decide +kernel
theorem dX6_cached_31 : decode cX6_cached 31 = .ok (.iconst 0, 1) := by decide +kernel
theorem dX6_cached_32 : decode cX6_cached 32 = .ok (.goto 12, 3) := by decide +kernel
theorem dX6_cached_35 : decode cX6_cached 35 = .ok (.aload_n 0, 1) := by decide +kernel
theorem dX6_cached_36 : decode cX6_cached 36 = .ok (.iload_n 1, 1) := by decide +kernel
theorem dX6_cached_37 : decode cX6_cached 37 = .ok (.bipush 28, 2) := by decide +kernel
theorem dX6_cached_39 : decode cX6_cached 39 = .ok (.iload_n 2, 1) := by decide +kernel
theorem dX6_cached_40 : decode cX6_cached 40 = .ok (.iadd, 1) := by decide +kernel
theorem dX6_cached_41 : decode cX6_cached 41 = .ok (.invokevirtual 97, 3) := by decide +kernel
theorem dX6_cached_44 : decode cX6_cached 44 = .ok (.ireturn, 1) := by decide +kernel
theorem dX6_memoryOf_0 : decode cX6_memoryOf 0 = .ok (.aload_n 0, 1) := by decide +kernel
theorem dX6_memoryOf_1 : decode cX6_memoryOf 1 = .ok (.getfield 7, 3) := by decide +kernel
theorem dX6_memoryOf_4 : decode cX6_memoryOf 4 = .ok (.iconst 5, 1) := by decide +kernel
theorem dX6_memoryOf_5 : decode cX6_memoryOf 5 = .ok (.iload_n 1, 1) := by decide +kernel
theorem dX6_memoryOf_6 : decode cX6_memoryOf 6 = .ok (.iadd, 1) := by decide +kernel
theorem dX6_memoryOf_7 : decode cX6_memoryOf 7 = .ok (.iaload, 1) := by decide +kernel
theorem dX6_memoryOf_8 : decode cX6_memoryOf 8 = .ok (.istore_n 3, 1) := by decide +kernel
theorem dX6_memoryOf_9 : decode cX6_memoryOf 9 = .ok (.iconst 0, 1) := by decide +kernel
theorem dX6_memoryOf_10 : decode cX6_memoryOf 10 = .ok (.istore 4, 2) := by decide +kernel
theorem dX6_memoryOf_12 : decode cX6_memoryOf 12 = .ok (.iload 4, 2) := by decide +kernel
theorem dX6_memoryOf_14 : decode cX6_memoryOf 14 = .ok (.aload_n 0, 1) := by decide +kernel
theorem dX6_memoryOf_15 : decode cX6_memoryOf 15 = .ok (.getfield 7, 3) := by decide +kernel
theorem dX6_memoryOf_18 : decode cX6_memoryOf 18 = .ok (.iconst 0, 1) := by decide +kernel
theorem dX6_memoryOf_19 : decode cX6_memoryOf 19 = .ok (.iaload, 1) := by decide +kernel
theorem dX6_memoryOf_20 : decode cX6_memoryOf 20 = .ok (.if_icmp .ge 69, 3) := by decide +kernel
theorem dX6_memoryOf_23 : decode cX6_memoryOf 23 = .ok (.aload_n 0, 1) := by decide +kernel
theorem dX6_memoryOf_24 : decode cX6_memoryOf 24 = .ok (.iload 4, 2) := by decide +kernel
theorem dX6_memoryOf_26 : decode cX6_memoryOf 26 = .ok (.bipush 20, 2) := by decide +kernel
theorem dX6_memoryOf_28 : decode cX6_memoryOf 28 = .ok (.iload_n 1, 1) := by decide +kernel
theorem dX6_memoryOf_29 : decode cX6_memoryOf 29 = .ok (.iadd, 1) := by decide +kernel
theorem dX6_memoryOf_30 : decode cX6_memoryOf 30 = .ok (.invokevirtual 97, 3) := by decide +kernel
theorem dX6_memoryOf_33 : decode cX6_memoryOf 33 = .ok (.iconst 2, 1) := by decide +kernel
theorem dX6_memoryOf_34 : decode cX6_memoryOf 34 = .ok (.if_icmp .ne 22, 3) := by decide +kernel
theorem dX6_memoryOf_37 : decode cX6_memoryOf 37 = .ok (.aload_n 0, 1) := by decide +kernel
theorem dX6_memoryOf_38 : decode cX6_memoryOf 38 = .ok (.iload 4, 2) := by decide +kernel
theorem dX6_memoryOf_40 : decode cX6_memoryOf 40 = .ok (.bipush 8, 2) := by decide +kernel
theorem dX6_memoryOf_42 : decode cX6_memoryOf 42 = .ok (.invokevirtual 97, 3) := by decide +kernel
theorem dX6_memoryOf_45 : decode cX6_memoryOf 45 = .ok (.iload_n 1, 1) := by decide +kernel
theorem dX6_memoryOf_46 : decode cX6_memoryOf 46 = .ok (.invokestatic 110, 3) := by decide +kernel
theorem dX6_memoryOf_49 : decode cX6_memoryOf 49 = .ok (.ifCond .ne 7, 3) := by decide +kernel
theorem dX6_memoryOf_52 : decode cX6_memoryOf 52 = .ok (.iconst 1, 1) := by decide +kernel
theorem dX6_memoryOf_53 : decode cX6_memoryOf 53 = .ok (.goto 4, 3) := by decide +kernel
theorem dX6_memoryOf_56 : decode cX6_memoryOf 56 = .ok (.iconst 0, 1) := by decide +kernel
theorem dX6_memoryOf_57 : decode cX6_memoryOf 57 = .ok (.istore 5, 2) := by decide +kernel
theorem dX6_memoryOf_59 : decode cX6_memoryOf 59 = .ok (.iload_n 2, 1) := by decide +kernel
theorem dX6_memoryOf_60 : decode cX6_memoryOf 60 = .ok (.ifCond .eq 21, 3) := by decide +kernel
theorem dX6_memoryOf_63 : decode cX6_memoryOf 63 = .ok (.iload 5, 2) := by decide +kernel
theorem dX6_memoryOf_65 : decode cX6_memoryOf 65 = .ok (.ifCond .eq 16, 3) := by decide +kernel
theorem dX6_memoryOf_68 : decode cX6_memoryOf 68 = .ok (.aload_n 0, 1) := by decide +kernel
theorem dX6_memoryOf_69 : decode cX6_memoryOf 69 = .ok (.iload 4, 2) := by decide +kernel
theorem dX6_memoryOf_71 : decode cX6_memoryOf 71 = .ok (.bipush 28, 2) := by decide +kernel
theorem dX6_memoryOf_73 : decode cX6_memoryOf 73 = .ok (.iload_n 1, 1) := by decide +kernel
theorem dX6_memoryOf_74 : decode cX6_memoryOf 74 = .ok (.iadd, 1) := by decide +kernel
theorem dX6_memoryOf_75 : decode cX6_memoryOf 75 = .ok (.invokevirtual 97, 3) := by decide +kernel
theorem dX6_memoryOf_78 : decode cX6_memoryOf 78 = .ok (.goto 4, 3) := by decide +kernel
theorem dX6_memoryOf_81 : decode cX6_memoryOf 81 = .ok (.iload_n 3, 1) := by decide +kernel
theorem dX6_memoryOf_82 : decode cX6_memoryOf 82 = .ok (.istore_n 3, 1) := by decide +kernel
theorem dX6_memoryOf_83 : decode cX6_memoryOf 83 = .ok (.iinc 4 1, 3) := by decide +kernel
theorem dX6_memoryOf_86 : decode cX6_memoryOf 86 = .ok (.goto (-74), 3) := by decide +kernel
theorem dX6_memoryOf_89 : decode cX6_memoryOf 89 = .ok (.iload_n 3, 1) := by decide +kernel
theorem dX6_memoryOf_90 : decode cX6_memoryOf 90 = .ok (.ireturn, 1) := by decide +kernel
theorem dX6_memory_0 : decode cX6_memory 0 = .ok (.aload_n 0, 1) := by decide +kernel
theorem dX6_memory_1 : decode cX6_memory 1 = .ok (.iload_n 1, 1) := by decide +kernel
theorem dX6_memory_2 : decode cX6_memory 2 = .ok (.invokestatic 180, 3) := by decide +kernel
theorem dX6_memory_5 : decode cX6_memory 5 = .ok (.ifCond .eq 7, 3) := by decide +kernel
theorem dX6_memory_8 : decode cX6_memory 8 = .ok (.iconst 0, 1) := by decide +kernel
theorem dX6_memory_9 : decode cX6_memory 9 = .ok (.goto 4, 3) := by decide +kernel
theorem dX6_memory_12 : decode cX6_memory 12 = .ok (.iconst 1, 1) := by decide +kernel
theorem dX6_memory_13 : decode cX6_memory 13 = .ok (.putfield 41, 3) := by decide +kernel
theorem dX6_memory_16 : decode cX6_memory 16 = .ok (.aload_n 0, 1) := by decide +kernel
theorem dX6_memory_17 : decode cX6_memory 17 = .ok (.getfield 41, 3) := by decide +kernel
theorem dX6_memory_20 : decode cX6_memory 20 = .ok (.ifCond .eq 7, 3) := by decide +kernel
theorem dX6_memory_23 : decode cX6_memory 23 = .ok (.iconst 0, 1) := by decide +kernel
theorem dX6_memory_24 : decode cX6_memory 24 = .ok (.goto 9, 3) := by decide +kernel
theorem dX6_memory_27 : decode cX6_memory 27 = .ok (.aload_n 0, 1) := by decide +kernel
theorem dX6_memory_28 : decode cX6_memory 28 = .ok (.iload_n 1, 1) := by decide +kernel
theorem dX6_memory_29 : decode cX6_memory 29 = .ok (.iload_n 2, 1) := by decide +kernel
theorem dX6_memory_30 : decode cX6_memory 30 = .ok (.invokevirtual 183, 3) := by decide +kernel
theorem dX6_memory_33 : decode cX6_memory 33 = .ok (.ireturn, 1) := by decide +kernel
theorem dX6_set_0 : decode cX6_set 0 = .ok (.aload_n 0, 1) := by decide +kernel
theorem dX6_set_1 : decode cX6_set 1 = .ok (.aload_n 0, 1) := by decide +kernel
theorem dX6_set_2 : decode cX6_set 2 = .ok (.iload_n 1, 1) := by decide +kernel
theorem dX6_set_3 : decode cX6_set 3 = .ok (.invokevirtual 94, 3) := by decide +kernel
theorem dX6_set_6 : decode cX6_set 6 = .ok (.ifCond .eq 7, 3) := by decide +kernel
theorem dX6_set_9 : decode cX6_set 9 = .ok (.iconst 0, 1) := by decide +kernel
theorem dX6_set_10 : decode cX6_set 10 = .ok (.goto 4, 3) := by decide +kernel
theorem dX6_set_13 : decode cX6_set 13 = .ok (.iconst 1, 1) := by decide +kernel
theorem dX6_set_14 : decode cX6_set 14 = .ok (.putfield 41, 3) := by decide +kernel
theorem dX6_set_17 : decode cX6_set 17 = .ok (.aload_n 0, 1) := by decide +kernel
theorem dX6_set_18 : decode cX6_set 18 = .ok (.getfield 41, 3) := by decide +kernel
theorem dX6_set_21 : decode cX6_set 21 = .ok (.ifCond .eq 7, 3) := by decide +kernel
theorem dX6_set_24 : decode cX6_set 24 = .ok (.iconst 0, 1) := by decide +kernel
theorem dX6_set_25 : decode cX6_set 25 = .ok (.goto 19, 3) := by decide +kernel
theorem dX6_set_28 : decode cX6_set 28 = .ok (.aload_n 0, 1) := by decide +kernel
theorem dX6_set_29 : decode cX6_set 29 = .ok (.iload_n 1, 1) := by decide +kernel
theorem dX6_set_30 : decode cX6_set 30 = .ok (.iload_n 2, 1) := by decide +kernel
theorem dX6_set_31 : decode cX6_set 31 = .ok (.ifCond .eq 8, 3) := by decide +kernel
theorem dX6_set_34 : decode cX6_set 34 = .ok (.bipush 8, 2) := by decide +kernel
theorem dX6_set_36 : decode cX6_set 36 = .ok (.goto 5, 3) := by decide +kernel
theorem dX6_set_39 : decode cX6_set 39 = .ok (.bipush 7, 2) := by decide +kernel
theorem dX6_set_41 : decode cX6_set 41 = .ok (.invokevirtual 97, 3) := by decide +kernel
theorem dX6_set_44 : decode cX6_set 44 = .ok (.ireturn, 1) := by decide +kernel
theorem dX6_coreOf_0 : decode cX6_coreOf 0 = .ok (.iload_n 2, 1) := by decide +kernel
theorem dX6_coreOf_1 : decode cX6_coreOf 1 = .ok (.tableswitch 64 3 5 #[27, 48, 56], 27) := by decide +kernel
theorem dX6_coreOf_28 : decode cX6_coreOf 28 = .ok (.aload_n 0, 1) := by decide +kernel
theorem dX6_coreOf_29 : decode cX6_coreOf 29 = .ok (.iload_n 1, 1) := by decide +kernel
theorem dX6_coreOf_30 : decode cX6_coreOf 30 = .ok (.iconst 3, 1) := by decide +kernel
theorem dX6_coreOf_31 : decode cX6_coreOf 31 = .ok (.invokevirtual 97, 3) := by decide +kernel
theorem dX6_coreOf_34 : decode cX6_coreOf 34 = .ok (.iconst 1, 1) := by decide +kernel
theorem dX6_coreOf_35 : decode cX6_coreOf 35 = .ok (.if_icmp .ne 12, 3) := by decide +kernel
theorem dX6_coreOf_38 : decode cX6_coreOf 38 = .ok (.aload_n 0, 1) := by decide +kernel
theorem dX6_coreOf_39 : decode cX6_coreOf 39 = .ok (.iload_n 1, 1) := by decide +kernel
theorem dX6_coreOf_40 : decode cX6_coreOf 40 = .ok (.iconst 4, 1) := by decide +kernel
theorem dX6_coreOf_41 : decode cX6_coreOf 41 = .ok (.invokevirtual 97, 3) := by decide +kernel
theorem dX6_coreOf_44 : decode cX6_coreOf 44 = .ok (.goto 4, 3) := by decide +kernel
theorem dX6_coreOf_47 : decode cX6_coreOf 47 = .ok (.iconst (-1), 1) := by decide +kernel
theorem dX6_coreOf_48 : decode cX6_coreOf 48 = .ok (.ireturn, 1) := by decide +kernel
theorem dX6_coreOf_49 : decode cX6_coreOf 49 = .ok (.aload_n 0, 1) := by decide +kernel
theorem dX6_coreOf_50 : decode cX6_coreOf 50 = .ok (.iload_n 1, 1) := by decide +kernel
theorem dX6_coreOf_51 : decode cX6_coreOf 51 = .ok (.bipush 9, 2) := by decide +kernel
theorem dX6_coreOf_53 : decode cX6_coreOf 53 = .ok (.invokevirtual 97, 3) := by decide +kernel
theorem dX6_coreOf_56 : decode cX6_coreOf 56 = .ok (.ireturn, 1) := by decide +kernel
theorem dX6_coreOf_57 : decode cX6_coreOf 57 = .ok (.aload_n 0, 1) := by decide +kernel
theorem dX6_coreOf_58 : decode cX6_coreOf 58 = .ok (.iload_n 1, 1) := by decide +kernel
theorem dX6_coreOf_59 : decode cX6_coreOf 59 = .ok (.bipush 10, 2) := by decide +kernel
theorem dX6_coreOf_61 : decode cX6_coreOf 61 = .ok (.invokevirtual 97, 3) := by decide +kernel
theorem dX6_coreOf_64 : decode cX6_coreOf 64 = .ok (.ireturn, 1) := by decide +kernel
theorem dX6_coreOf_65 : decode cX6_coreOf 65 = .ok (.aload_n 0, 1) := by decide +kernel
theorem dX6_coreOf_66 : decode cX6_coreOf 66 = .ok (.iload_n 1, 1) := by decide +kernel
theorem dX6_coreOf_67 : decode cX6_coreOf 67 = .ok (.iload_n 2, 1) := by decide +kernel
theorem dX6_coreOf_68 : decode cX6_coreOf 68 = .ok (.invokevirtual 97, 3) := by decide +kernel
theorem dX6_coreOf_71 : decode cX6_coreOf 71 = .ok (.ireturn, 1) := by decide +kernel
theorem dX6_core_0 : decode cX6_core 0 = .ok (.aload_n 0, 1) := by decide +kernel
theorem dX6_core_1 : decode cX6_core 1 = .ok (.aload_n 0, 1) := by decide +kernel
theorem dX6_core_2 : decode cX6_core 2 = .ok (.iload_n 1, 1) := by decide +kernel
theorem dX6_core_3 : decode cX6_core 3 = .ok (.invokevirtual 94, 3) := by decide +kernel
theorem dX6_core_6 : decode cX6_core 6 = .ok (.ifCond .ne 7, 3) := by decide +kernel
theorem dX6_core_9 : decode cX6_core 9 = .ok (.iconst 1, 1) := by decide +kernel
theorem dX6_core_10 : decode cX6_core 10 = .ok (.goto 17, 3) := by decide +kernel
theorem dX6_core_13 : decode cX6_core 13 = .ok (.iload_n 2, 1) := by decide +kernel
theorem dX6_core_14 : decode cX6_core 14 = .ok (.iconst 0, 1) := by decide +kernel
theorem dX6_core_15 : decode cX6_core 15 = .ok (.iconst 5, 1) := by decide +kernel
theorem dX6_core_16 : decode cX6_core 16 = .ok (.invokestatic 56, 3) := by decide +kernel
theorem dX6_core_19 : decode cX6_core 19 = .ok (.ifCond .ne 7, 3) := by decide +kernel
theorem dX6_core_22 : decode cX6_core 22 = .ok (.iconst 2, 1) := by decide +kernel
theorem dX6_core_23 : decode cX6_core 23 = .ok (.goto 4, 3) := by decide +kernel
theorem dX6_core_26 : decode cX6_core 26 = .ok (.iconst 0, 1) := by decide +kernel
theorem dX6_core_27 : decode cX6_core 27 = .ok (.putfield 41, 3) := by decide +kernel
theorem dX6_core_30 : decode cX6_core 30 = .ok (.aload_n 0, 1) := by decide +kernel
theorem dX6_core_31 : decode cX6_core 31 = .ok (.getfield 41, 3) := by decide +kernel
theorem dX6_core_34 : decode cX6_core 34 = .ok (.ifCond .eq 7, 3) := by decide +kernel
theorem dX6_core_37 : decode cX6_core 37 = .ok (.iconst 0, 1) := by decide +kernel
theorem dX6_core_38 : decode cX6_core 38 = .ok (.goto 9, 3) := by decide +kernel
theorem dX6_core_41 : decode cX6_core 41 = .ok (.aload_n 0, 1) := by decide +kernel
theorem dX6_core_42 : decode cX6_core 42 = .ok (.iload_n 1, 1) := by decide +kernel
theorem dX6_core_43 : decode cX6_core 43 = .ok (.iload_n 2, 1) := by decide +kernel
theorem dX6_core_44 : decode cX6_core 44 = .ok (.invokevirtual 187, 3) := by decide +kernel
theorem dX6_core_47 : decode cX6_core 47 = .ok (.ireturn, 1) := by decide +kernel
theorem dX6_valueOf_0 : decode cX6_valueOf 0 = .ok (.iload_n 1, 1) := by decide +kernel
theorem dX6_valueOf_1 : decode cX6_valueOf 1 = .ok (.iconst 3, 1) := by decide +kernel
theorem dX6_valueOf_2 : decode cX6_valueOf 2 = .ok (.if_icmp .ge 12, 3) := by decide +kernel
theorem dX6_valueOf_5 : decode cX6_valueOf 5 = .ok (.aload_n 0, 1) := by decide +kernel
theorem dX6_valueOf_6 : decode cX6_valueOf 6 = .ok (.getfield 7, 3) := by decide +kernel
theorem dX6_valueOf_9 : decode cX6_valueOf 9 = .ok (.iload_n 1, 1) := by decide +kernel
theorem dX6_valueOf_10 : decode cX6_valueOf 10 = .ok (.iaload, 1) := by decide +kernel
theorem dX6_valueOf_11 : decode cX6_valueOf 11 = .ok (.goto 21, 3) := by decide +kernel
theorem dX6_valueOf_14 : decode cX6_valueOf 14 = .ok (.iload_n 1, 1) := by decide +kernel
theorem dX6_valueOf_15 : decode cX6_valueOf 15 = .ok (.iconst 3, 1) := by decide +kernel
theorem dX6_valueOf_16 : decode cX6_valueOf 16 = .ok (.if_icmp .ne 10, 3) := by decide +kernel
theorem dX6_valueOf_19 : decode cX6_valueOf 19 = .ok (.aload_n 0, 1) := by decide +kernel
theorem dX6_valueOf_20 : decode cX6_valueOf 20 = .ok (.invokevirtual 164, 3) := by decide +kernel
theorem dX6_valueOf_23 : decode cX6_valueOf 23 = .ok (.goto 9, 3) := by decide +kernel
theorem dX6_valueOf_26 : decode cX6_valueOf 26 = .ok (.aload_n 0, 1) := by decide +kernel
theorem dX6_valueOf_27 : decode cX6_valueOf 27 = .ok (.getfield 7, 3) := by decide +kernel
theorem dX6_valueOf_30 : decode cX6_valueOf 30 = .ok (.iconst 4, 1) := by decide +kernel
theorem dX6_valueOf_31 : decode cX6_valueOf 31 = .ok (.iaload, 1) := by decide +kernel
theorem dX6_valueOf_32 : decode cX6_valueOf 32 = .ok (.ireturn, 1) := by decide +kernel
theorem dX6_value_0 : decode cX6_value 0 = .ok (.aload_n 0, 1) := by decide +kernel
theorem dX6_value_1 : decode cX6_value 1 = .ok (.iload_n 1, 1) := by decide +kernel
theorem dX6_value_2 : decode cX6_value 2 = .ok (.iconst 0, 1) := by decide +kernel
theorem dX6_value_3 : decode cX6_value 3 = .ok (.iconst 4, 1) := by decide +kernel
theorem dX6_value_4 : decode cX6_value 4 = .ok (.invokestatic 56, 3) := by decide +kernel
theorem dX6_value_7 : decode cX6_value 7 = .ok (.ifCond .eq 7, 3) := by decide +kernel
theorem dX6_value_10 : decode cX6_value 10 = .ok (.iconst 0, 1) := by decide +kernel
theorem dX6_value_11 : decode cX6_value 11 = .ok (.goto 4, 3) := by decide +kernel
theorem dX6_value_14 : decode cX6_value 14 = .ok (.iconst 1, 1) := by decide +kernel
theorem dX6_value_15 : decode cX6_value 15 = .ok (.putfield 41, 3) := by decide +kernel
theorem dX6_value_18 : decode cX6_value 18 = .ok (.aload_n 0, 1) := by decide +kernel
theorem dX6_value_19 : decode cX6_value 19 = .ok (.getfield 41, 3) := by decide +kernel
theorem dX6_value_22 : decode cX6_value 22 = .ok (.ifCond .eq 7, 3) := by decide +kernel
theorem dX6_value_25 : decode cX6_value 25 = .ok (.iconst 0, 1) := by decide +kernel
theorem dX6_value_26 : decode cX6_value 26 = .ok (.goto 8, 3) := by decide +kernel
theorem dX6_value_29 : decode cX6_value 29 = .ok (.aload_n 0, 1) := by decide +kernel
theorem dX6_value_30 : decode cX6_value 30 = .ok (.iload_n 1, 1) := by decide +kernel
theorem dX6_value_31 : decode cX6_value 31 = .ok (.invokevirtual 190, 3) := by decide +kernel
theorem dX6_value_34 : decode cX6_value 34 = .ok (.ireturn, 1) := by decide +kernel
theorem dX6_counter_0 : decode cX6_counter 0 = .ok (.aload_n 0, 1) := by decide +kernel
theorem dX6_counter_1 : decode cX6_counter 1 = .ok (.iload_n 1, 1) := by decide +kernel
theorem dX6_counter_2 : decode cX6_counter 2 = .ok (.iconst 0, 1) := by decide +kernel
theorem dX6_counter_3 : decode cX6_counter 3 = .ok (.bipush 7, 2) := by decide +kernel
theorem dX6_counter_5 : decode cX6_counter 5 = .ok (.invokestatic 56, 3) := by decide +kernel
theorem dX6_counter_8 : decode cX6_counter 8 = .ok (.ifCond .eq 7, 3) := by decide +kernel
theorem dX6_counter_11 : decode cX6_counter 11 = .ok (.iconst 0, 1) := by decide +kernel
theorem dX6_counter_12 : decode cX6_counter 12 = .ok (.goto 4, 3) := by decide +kernel
theorem dX6_counter_15 : decode cX6_counter 15 = .ok (.iconst 1, 1) := by decide +kernel
theorem dX6_counter_16 : decode cX6_counter 16 = .ok (.putfield 41, 3) := by decide +kernel
theorem dX6_counter_19 : decode cX6_counter 19 = .ok (.aload_n 0, 1) := by decide +kernel
theorem dX6_counter_20 : decode cX6_counter 20 = .ok (.getfield 41, 3) := by decide +kernel
theorem dX6_counter_23 : decode cX6_counter 23 = .ok (.ifCond .eq 7, 3) := by decide +kernel
theorem dX6_counter_26 : decode cX6_counter 26 = .ok (.iconst 0, 1) := by decide +kernel
theorem dX6_counter_27 : decode cX6_counter 27 = .ok (.goto 12, 3) := by decide +kernel
theorem dX6_counter_30 : decode cX6_counter 30 = .ok (.aload_n 0, 1) := by decide +kernel
theorem dX6_counter_31 : decode cX6_counter 31 = .ok (.getfield 7, 3) := by decide +kernel
theorem dX6_counter_34 : decode cX6_counter 34 = .ok (.bipush 13, 2) := by decide +kernel
theorem dX6_counter_36 : decode cX6_counter 36 = .ok (.iload_n 1, 1) := by decide +kernel
theorem dX6_counter_37 : decode cX6_counter 37 = .ok (.iadd, 1) := by decide +kernel
theorem dX6_counter_38 : decode cX6_counter 38 = .ok (.iaload, 1) := by decide +kernel
theorem dX6_counter_39 : decode cX6_counter 39 = .ok (.ireturn, 1) := by decide +kernel
theorem dX6_commits_0 : decode cX6_commits 0 = .ok (.aload_n 0, 1) := by decide +kernel
theorem dX6_commits_1 : decode cX6_commits 1 = .ok (.iconst 0, 1) := by decide +kernel
theorem dX6_commits_2 : decode cX6_commits 2 = .ok (.putfield 41, 3) := by decide +kernel
theorem dX6_commits_5 : decode cX6_commits 5 = .ok (.aload_n 0, 1) := by decide +kernel
theorem dX6_commits_6 : decode cX6_commits 6 = .ok (.getfield 7, 3) := by decide +kernel
theorem dX6_commits_9 : decode cX6_commits 9 = .ok (.bipush 21, 2) := by decide +kernel
theorem dX6_commits_11 : decode cX6_commits 11 = .ok (.iaload, 1) := by decide +kernel
theorem dX6_commits_12 : decode cX6_commits 12 = .ok (.ireturn, 1) := by decide +kernel
theorem dX6_commit_0 : decode cX6_commit 0 = .ok (.aload_n 0, 1) := by decide +kernel
theorem dX6_commit_1 : decode cX6_commit 1 = .ok (.iload_n 1, 1) := by decide +kernel
theorem dX6_commit_2 : decode cX6_commit 2 = .ok (.iconst 0, 1) := by decide +kernel
theorem dX6_commit_3 : decode cX6_commit 3 = .ok (.aload_n 0, 1) := by decide +kernel
theorem dX6_commit_4 : decode cX6_commit 4 = .ok (.getfield 7, 3) := by decide +kernel
theorem dX6_commit_7 : decode cX6_commit 7 = .ok (.bipush 21, 2) := by decide +kernel
theorem dX6_commit_9 : decode cX6_commit 9 = .ok (.iaload, 1) := by decide +kernel
theorem dX6_commit_10 : decode cX6_commit 10 = .ok (.iconst 1, 1) := by decide +kernel
theorem dX6_commit_11 : decode cX6_commit 11 = .ok (.isub, 1) := by decide +kernel
theorem dX6_commit_12 : decode cX6_commit 12 = .ok (.invokestatic 56, 3) := by decide +kernel
theorem dX6_commit_15 : decode cX6_commit 15 = .ok (.ifCond .ne 7, 3) := by decide +kernel
theorem dX6_commit_18 : decode cX6_commit 18 = .ok (.iconst 1, 1) := by decide +kernel
theorem dX6_commit_19 : decode cX6_commit 19 = .ok (.goto 17, 3) := by decide +kernel
theorem dX6_commit_22 : decode cX6_commit 22 = .ok (.iload_n 2, 1) := by decide +kernel
theorem dX6_commit_23 : decode cX6_commit 23 = .ok (.iconst 0, 1) := by decide +kernel
theorem dX6_commit_24 : decode cX6_commit 24 = .ok (.iconst 3, 1) := by decide +kernel
theorem dX6_commit_25 : decode cX6_commit 25 = .ok (.invokestatic 56, 3) := by decide +kernel
theorem dX6_commit_28 : decode cX6_commit 28 = .ok (.ifCond .ne 7, 3) := by decide +kernel
theorem dX6_commit_31 : decode cX6_commit 31 = .ok (.iconst 2, 1) := by decide +kernel
theorem dX6_commit_32 : decode cX6_commit 32 = .ok (.goto 4, 3) := by decide +kernel
theorem dX6_commit_35 : decode cX6_commit 35 = .ok (.iconst 0, 1) := by decide +kernel
theorem dX6_commit_36 : decode cX6_commit 36 = .ok (.putfield 41, 3) := by decide +kernel
theorem dX6_commit_39 : decode cX6_commit 39 = .ok (.aload_n 0, 1) := by decide +kernel
theorem dX6_commit_40 : decode cX6_commit 40 = .ok (.getfield 41, 3) := by decide +kernel
theorem dX6_commit_43 : decode cX6_commit 43 = .ok (.ifCond .eq 5, 3) := by decide +kernel
theorem dX6_commit_46 : decode cX6_commit 46 = .ok (.iconst 0, 1) := by decide +kernel
theorem dX6_commit_47 : decode cX6_commit 47 = .ok (.ireturn, 1) := by decide +kernel
theorem dX6_commit_48 : decode cX6_commit 48 = .ok (.sipush 406, 3) := by decide +kernel
theorem dX6_commit_51 : decode cX6_commit 51 = .ok (.bipush 19, 2) := by decide +kernel
theorem dX6_commit_53 : decode cX6_commit 53 = .ok (.iload_n 1, 1) := by decide +kernel
theorem dX6_commit_54 : decode cX6_commit 54 = .ok (.imul, 1) := by decide +kernel
theorem dX6_commit_55 : decode cX6_commit 55 = .ok (.iadd, 1) := by decide +kernel
theorem dX6_commit_56 : decode cX6_commit 56 = .ok (.istore_n 3, 1) := by decide +kernel
theorem dX6_commit_57 : decode cX6_commit 57 = .ok (.iload_n 2, 1) := by decide +kernel
theorem dX6_commit_58 : decode cX6_commit 58 = .ok (.iconst 2, 1) := by decide +kernel
theorem dX6_commit_59 : decode cX6_commit 59 = .ok (.if_icmp .ge 14, 3) := by decide +kernel
theorem dX6_commit_62 : decode cX6_commit 62 = .ok (.aload_n 0, 1) := by decide +kernel
theorem dX6_commit_63 : decode cX6_commit 63 = .ok (.getfield 7, 3) := by decide +kernel
theorem dX6_commit_66 : decode cX6_commit 66 = .ok (.iload_n 3, 1) := by decide +kernel
theorem dX6_commit_67 : decode cX6_commit 67 = .ok (.iload_n 2, 1) := by decide +kernel
theorem dX6_commit_68 : decode cX6_commit 68 = .ok (.iadd, 1) := by decide +kernel
theorem dX6_commit_69 : decode cX6_commit 69 = .ok (.iaload, 1) := by decide +kernel
theorem dX6_commit_70 : decode cX6_commit 70 = .ok (.goto 35, 3) := by decide +kernel
theorem dX6_commit_73 : decode cX6_commit 73 = .ok (.iload_n 2, 1) := by decide +kernel
theorem dX6_commit_74 : decode cX6_commit 74 = .ok (.iconst 2, 1) := by decide +kernel
theorem dX6_commit_75 : decode cX6_commit 75 = .ok (.if_icmp .ne 18, 3) := by decide +kernel
theorem dX6_commit_78 : decode cX6_commit 78 = .ok (.aload_n 0, 1) := by decide +kernel
theorem dX6_commit_79 : decode cX6_commit 79 = .ok (.getfield 7, 3) := by decide +kernel
theorem dX6_commit_82 : decode cX6_commit 82 = .ok (.iload_n 3, 1) := by decide +kernel
theorem dX6_commit_83 : decode cX6_commit 83 = .ok (.iconst 2, 1) := by decide +kernel
theorem dX6_commit_84 : decode cX6_commit 84 = .ok (.iadd, 1) := by decide +kernel
theorem dX6_commit_85 : decode cX6_commit 85 = .ok (.iaload, 1) := by decide +kernel
theorem dX6_commit_86 : decode cX6_commit 86 = .ok (.sipush 256, 3) := by decide +kernel
theorem dX6_commit_89 : decode cX6_commit 89 = .ok (.irem, 1) := by decide +kernel
theorem dX6_commit_90 : decode cX6_commit 90 = .ok (.goto 15, 3) := by decide +kernel
theorem dX6_commit_93 : decode cX6_commit 93 = .ok (.aload_n 0, 1) := by decide +kernel
theorem dX6_commit_94 : decode cX6_commit 94 = .ok (.getfield 7, 3) := by decide +kernel
theorem dX6_commit_97 : decode cX6_commit 97 = .ok (.iload_n 3, 1) := by decide +kernel
theorem dX6_commit_98 : decode cX6_commit 98 = .ok (.iconst 2, 1) := by decide +kernel
theorem dX6_commit_99 : decode cX6_commit 99 = .ok (.iadd, 1) := by decide +kernel
theorem dX6_commit_100 : decode cX6_commit 100 = .ok (.iaload, 1) := by decide +kernel
theorem dX6_commit_101 : decode cX6_commit 101 = .ok (.sipush 256, 3) := by decide +kernel
theorem dX6_commit_104 : decode cX6_commit 104 = .ok (.idiv, 1) := by decide +kernel
theorem dX6_commit_105 : decode cX6_commit 105 = .ok (.ireturn, 1) := by decide +kernel
theorem dX6_commitValue_0 : decode cX6_commitValue 0 = .ok (.aload_n 0, 1) := by decide +kernel
theorem dX6_commitValue_1 : decode cX6_commitValue 1 = .ok (.iload_n 1, 1) := by decide +kernel
theorem dX6_commitValue_2 : decode cX6_commitValue 2 = .ok (.iconst 0, 1) := by decide +kernel
theorem dX6_commitValue_3 : decode cX6_commitValue 3 = .ok (.aload_n 0, 1) := by decide +kernel
theorem dX6_commitValue_4 : decode cX6_commitValue 4 = .ok (.getfield 7, 3) := by decide +kernel
theorem dX6_commitValue_7 : decode cX6_commitValue 7 = .ok (.bipush 21, 2) := by decide +kernel
theorem dX6_commitValue_9 : decode cX6_commitValue 9 = .ok (.iaload, 1) := by decide +kernel
theorem dX6_commitValue_10 : decode cX6_commitValue 10 = .ok (.iconst 1, 1) := by decide +kernel
theorem dX6_commitValue_11 : decode cX6_commitValue 11 = .ok (.isub, 1) := by decide +kernel
theorem dX6_commitValue_12 : decode cX6_commitValue 12 = .ok (.invokestatic 56, 3) := by decide +kernel
theorem dX6_commitValue_15 : decode cX6_commitValue 15 = .ok (.ifCond .eq 14, 3) := by decide +kernel
theorem dX6_commitValue_18 : decode cX6_commitValue 18 = .ok (.iload_n 2, 1) := by decide +kernel
theorem dX6_commitValue_19 : decode cX6_commitValue 19 = .ok (.invokestatic 180, 3) := by decide +kernel
theorem dX6_commitValue_22 : decode cX6_commitValue 22 = .ok (.ifCond .eq 7, 3) := by decide +kernel
theorem dX6_commitValue_25 : decode cX6_commitValue 25 = .ok (.iconst 0, 1) := by decide +kernel
theorem dX6_commitValue_26 : decode cX6_commitValue 26 = .ok (.goto 4, 3) := by decide +kernel
theorem dX6_commitValue_29 : decode cX6_commitValue 29 = .ok (.iconst 1, 1) := by decide +kernel
theorem dX6_commitValue_30 : decode cX6_commitValue 30 = .ok (.putfield 41, 3) := by decide +kernel
theorem dX6_commitValue_33 : decode cX6_commitValue 33 = .ok (.aload_n 0, 1) := by decide +kernel
theorem dX6_commitValue_34 : decode cX6_commitValue 34 = .ok (.getfield 41, 3) := by decide +kernel
theorem dX6_commitValue_37 : decode cX6_commitValue 37 = .ok (.ifCond .eq 7, 3) := by decide +kernel
theorem dX6_commitValue_40 : decode cX6_commitValue 40 = .ok (.iconst 0, 1) := by decide +kernel
theorem dX6_commitValue_41 : decode cX6_commitValue 41 = .ok (.goto 29, 3) := by decide +kernel
theorem dX6_commitValue_44 : decode cX6_commitValue 44 = .ok (.aload_n 0, 1) := by decide +kernel
theorem dX6_commitValue_45 : decode cX6_commitValue 45 = .ok (.getfield 7, 3) := by decide +kernel
theorem dX6_commitValue_48 : decode cX6_commitValue 48 = .ok (.sipush 406, 3) := by decide +kernel
theorem dX6_commitValue_51 : decode cX6_commitValue 51 = .ok (.bipush 19, 2) := by decide +kernel
theorem dX6_commitValue_53 : decode cX6_commitValue 53 = .ok (.iload_n 1, 1) := by decide +kernel
theorem dX6_commitValue_54 : decode cX6_commitValue 54 = .ok (.imul, 1) := by decide +kernel
theorem dX6_commitValue_55 : decode cX6_commitValue 55 = .ok (.iadd, 1) := by decide +kernel
theorem dX6_commitValue_56 : decode cX6_commitValue 56 = .ok (.iload_n 3, 1) := by decide +kernel
theorem dX6_commitValue_57 : decode cX6_commitValue 57 = .ok (.ifCond .eq 8, 3) := by decide +kernel
theorem dX6_commitValue_60 : decode cX6_commitValue 60 = .ok (.bipush 11, 2) := by decide +kernel
theorem dX6_commitValue_62 : decode cX6_commitValue 62 = .ok (.goto 4, 3) := by decide +kernel
theorem dX6_commitValue_65 : decode cX6_commitValue 65 = .ok (.iconst 3, 1) := by decide +kernel
theorem dX6_commitValue_66 : decode cX6_commitValue 66 = .ok (.iadd, 1) := by decide +kernel
theorem dX6_commitValue_67 : decode cX6_commitValue 67 = .ok (.iload_n 2, 1) := by decide +kernel
theorem dX6_commitValue_68 : decode cX6_commitValue 68 = .ok (.iadd, 1) := by decide +kernel
theorem dX6_commitValue_69 : decode cX6_commitValue 69 = .ok (.iaload, 1) := by decide +kernel
theorem dX6_commitValue_70 : decode cX6_commitValue 70 = .ok (.ireturn, 1) := by decide +kernel
theorem dX6_serializable_0 : decode cX6_serializable 0 = .ok (.aload_n 0, 1) := by decide +kernel
theorem dX6_serializable_1 : decode cX6_serializable 1 = .ok (.iconst 0, 1) := by decide +kernel
theorem dX6_serializable_2 : decode cX6_serializable 2 = .ok (.putfield 41, 3) := by decide +kernel
theorem dX6_serializable_5 : decode cX6_serializable 5 = .ok (.iconst 0, 1) := by decide +kernel
theorem dX6_serializable_6 : decode cX6_serializable 6 = .ok (.istore_n 1, 1) := by decide +kernel
theorem dX6_serializable_7 : decode cX6_serializable 7 = .ok (.iload_n 1, 1) := by decide +kernel
theorem dX6_serializable_8 : decode cX6_serializable 8 = .ok (.bipush 8, 2) := by decide +kernel
theorem dX6_serializable_10 : decode cX6_serializable 10 = .ok (.if_icmp .ge 16, 3) := by decide +kernel
theorem dX6_serializable_13 : decode cX6_serializable 13 = .ok (.aload_n 0, 1) := by decide +kernel
theorem dX6_serializable_14 : decode cX6_serializable 14 = .ok (.getfield 31, 3) := by decide +kernel
theorem dX6_serializable_17 : decode cX6_serializable 17 = .ok (.iload_n 1, 1) := by decide +kernel
theorem dX6_serializable_18 : decode cX6_serializable 18 = .ok (.iconst 0, 1) := by decide +kernel
theorem dX6_serializable_19 : decode cX6_serializable 19 = .ok (.iastore, 1) := by decide +kernel
theorem dX6_serializable_20 : decode cX6_serializable 20 = .ok (.iinc 1 1, 3) := by decide +kernel
theorem dX6_serializable_23 : decode cX6_serializable 23 = .ok (.goto (-16), 3) := by decide +kernel
theorem dX6_serializable_26 : decode cX6_serializable 26 = .ok (.iconst 1, 1) := by decide +kernel
theorem dX6_serializable_27 : decode cX6_serializable 27 = .ok (.istore_n 1, 1) := by decide +kernel
theorem dX6_serializable_28 : decode cX6_serializable 28 = .ok (.iconst 0, 1) := by decide +kernel
theorem dX6_serializable_29 : decode cX6_serializable 29 = .ok (.istore_n 2, 1) := by decide +kernel
theorem dX6_serializable_30 : decode cX6_serializable 30 = .ok (.iload_n 2, 1) := by decide +kernel
theorem dX6_serializable_31 : decode cX6_serializable 31 = .ok (.aload_n 0, 1) := by decide +kernel
theorem dX6_serializable_32 : decode cX6_serializable 32 = .ok (.getfield 7, 3) := by decide +kernel
theorem dX6_serializable_35 : decode cX6_serializable 35 = .ok (.bipush 21, 2) := by decide +kernel
theorem dX6_serializable_37 : decode cX6_serializable 37 = .ok (.iaload, 1) := by decide +kernel
theorem dX6_serializable_38 : decode cX6_serializable 38 = .ok (.if_icmp .ge 146, 3) := by decide +kernel
theorem dX6_serializable_41 : decode cX6_serializable 41 = .ok (.sipush 406, 3) := by decide +kernel
theorem dX6_serializable_44 : decode cX6_serializable 44 = .ok (.bipush 19, 2) := by decide +kernel
theorem dX6_serializable_46 : decode cX6_serializable 46 = .ok (.iload_n 2, 1) := by decide +kernel
theorem dX6_serializable_47 : decode cX6_serializable 47 = .ok (.imul, 1) := by decide +kernel
theorem dX6_serializable_48 : decode cX6_serializable 48 = .ok (.iadd, 1) := by decide +kernel
theorem dX6_serializable_49 : decode cX6_serializable 49 = .ok (.istore_n 3, 1) := by decide +kernel
theorem dX6_serializable_50 : decode cX6_serializable 50 = .ok (.iconst 0, 1) := by decide +kernel
theorem dX6_serializable_51 : decode cX6_serializable 51 = .ok (.istore 4, 2) := by decide +kernel
theorem dX6_serializable_53 : decode cX6_serializable 53 = .ok (.iload 4, 2) := by decide +kernel
theorem dX6_serializable_55 : decode cX6_serializable 55 = .ok (.bipush 8, 2) := by decide +kernel
theorem dX6_serializable_57 : decode cX6_serializable 57 = .ok (.if_icmp .ge 56, 3) := by decide +kernel
theorem dX6_serializable_60 : decode cX6_serializable 60 = .ok (.iload_n 1, 1) := by decide +kernel
theorem dX6_serializable_61 : decode cX6_serializable 61 = .ok (.ifCond .eq 44, 3) := by decide +kernel
theorem dX6_serializable_64 : decode cX6_serializable 64 = .ok (.aload_n 0, 1) := by decide +kernel
theorem dX6_serializable_65 : decode cX6_serializable 65 = .ok (.getfield 7, 3) := by decide +kernel
theorem dX6_serializable_68 : decode cX6_serializable 68 = .ok (.iload_n 3, 1) := by decide +kernel
theorem dX6_serializable_69 : decode cX6_serializable 69 = .ok (.iconst 2, 1) := by decide +kernel
theorem dX6_serializable_70 : decode cX6_serializable 70 = .ok (.iadd, 1) := by decide +kernel
theorem dX6_serializable_71 : decode cX6_serializable 71 = .ok (.iaload, 1) := by decide +kernel
theorem dX6_serializable_72 : decode cX6_serializable 72 = .ok (.iload 4, 2) := by decide +kernel
theorem dX6_serializable_74 : decode cX6_serializable 74 = .ok (.invokestatic 110, 3) := by decide +kernel
theorem dX6_serializable_77 : decode cX6_serializable 77 = .ok (.ifCond .eq 24, 3) := by decide +kernel
theorem dX6_serializable_80 : decode cX6_serializable 80 = .ok (.aload_n 0, 1) := by decide +kernel
theorem dX6_serializable_81 : decode cX6_serializable 81 = .ok (.getfield 31, 3) := by decide +kernel
theorem dX6_serializable_84 : decode cX6_serializable 84 = .ok (.iload 4, 2) := by decide +kernel
theorem dX6_serializable_86 : decode cX6_serializable 86 = .ok (.iaload, 1) := by decide +kernel
theorem dX6_serializable_87 : decode cX6_serializable 87 = .ok (.aload_n 0, 1) := by decide +kernel
theorem dX6_serializable_88 : decode cX6_serializable 88 = .ok (.getfield 7, 3) := by decide +kernel
theorem dX6_serializable_91 : decode cX6_serializable 91 = .ok (.iload_n 3, 1) := by decide +kernel
theorem dX6_serializable_92 : decode cX6_serializable 92 = .ok (.iconst 3, 1) := by decide +kernel
theorem dX6_serializable_93 : decode cX6_serializable 93 = .ok (.iadd, 1) := by decide +kernel
theorem dX6_serializable_94 : decode cX6_serializable 94 = .ok (.iload 4, 2) := by decide +kernel
theorem dX6_serializable_96 : decode cX6_serializable 96 = .ok (.iadd, 1) := by decide +kernel
theorem dX6_serializable_97 : decode cX6_serializable 97 = .ok (.iaload, 1) := by decide +kernel
theorem dX6_serializable_98 : decode cX6_serializable 98 = .ok (.if_icmp .ne 7, 3) := by decide +kernel
theorem dX6_serializable_101 : decode cX6_serializable 101 = .ok (.iconst 1, 1) := by decide +kernel
theorem dX6_serializable_102 : decode cX6_serializable 102 = .ok (.goto 4, 3) := by decide +kernel
theorem dX6_serializable_105 : decode cX6_serializable 105 = .ok (.iconst 0, 1) := by decide +kernel
theorem dX6_serializable_106 : decode cX6_serializable 106 = .ok (.istore_n 1, 1) := by decide +kernel
theorem dX6_serializable_107 : decode cX6_serializable 107 = .ok (.iinc 4 1, 3) := by decide +kernel
theorem dX6_serializable_110 : decode cX6_serializable 110 = .ok (.goto (-57), 3) := by decide +kernel
theorem dX6_serializable_113 : decode cX6_serializable 113 = .ok (.iconst 0, 1) := by decide +kernel
theorem dX6_serializable_114 : decode cX6_serializable 114 = .ok (.istore 4, 2) := by decide +kernel
theorem dX6_serializable_116 : decode cX6_serializable 116 = .ok (.iload 4, 2) := by decide +kernel
theorem dX6_serializable_118 : decode cX6_serializable 118 = .ok (.bipush 8, 2) := by decide +kernel
theorem dX6_serializable_120 : decode cX6_serializable 120 = .ok (.if_icmp .ge 58, 3) := by decide +kernel
theorem dX6_serializable_123 : decode cX6_serializable 123 = .ok (.aload_n 0, 1) := by decide +kernel
theorem dX6_serializable_124 : decode cX6_serializable 124 = .ok (.getfield 31, 3) := by decide +kernel
theorem dX6_serializable_127 : decode cX6_serializable 127 = .ok (.iload 4, 2) := by decide +kernel
theorem dX6_serializable_129 : decode cX6_serializable 129 = .ok (.aload_n 0, 1) := by decide +kernel
theorem dX6_serializable_130 : decode cX6_serializable 130 = .ok (.getfield 7, 3) := by decide +kernel
theorem dX6_serializable_133 : decode cX6_serializable 133 = .ok (.iload_n 3, 1) := by decide +kernel
theorem dX6_serializable_134 : decode cX6_serializable 134 = .ok (.iconst 2, 1) := by decide +kernel
theorem dX6_serializable_135 : decode cX6_serializable 135 = .ok (.iadd, 1) := by decide +kernel
theorem dX6_serializable_136 : decode cX6_serializable 136 = .ok (.iaload, 1) := by decide +kernel
theorem dX6_serializable_137 : decode cX6_serializable 137 = .ok (.sipush 256, 3) := by decide +kernel
theorem dX6_serializable_140 : decode cX6_serializable 140 = .ok (.idiv, 1) := by decide +kernel
theorem dX6_serializable_141 : decode cX6_serializable 141 = .ok (.iload 4, 2) := by decide +kernel
theorem dX6_serializable_143 : decode cX6_serializable 143 = .ok (.invokestatic 110, 3) := by decide +kernel
theorem dX6_serializable_146 : decode cX6_serializable 146 = .ok (.ifCond .eq 18, 3) := by decide +kernel
theorem dX6_serializable_149 : decode cX6_serializable 149 = .ok (.aload_n 0, 1) := by decide +kernel
theorem dX6_serializable_150 : decode cX6_serializable 150 = .ok (.getfield 7, 3) := by decide +kernel
theorem dX6_serializable_153 : decode cX6_serializable 153 = .ok (.iload_n 3, 1) := by decide +kernel
theorem dX6_serializable_154 : decode cX6_serializable 154 = .ok (.bipush 11, 2) := by decide +kernel
theorem dX6_serializable_156 : decode cX6_serializable 156 = .ok (.iadd, 1) := by decide +kernel
theorem dX6_serializable_157 : decode cX6_serializable 157 = .ok (.iload 4, 2) := by decide +kernel
theorem dX6_serializable_159 : decode cX6_serializable 159 = .ok (.iadd, 1) := by decide +kernel
theorem dX6_serializable_160 : decode cX6_serializable 160 = .ok (.iaload, 1) := by decide +kernel
theorem dX6_serializable_161 : decode cX6_serializable 161 = .ok (.goto 10, 3) := by decide +kernel
theorem dX6_serializable_164 : decode cX6_serializable 164 = .ok (.aload_n 0, 1) := by decide +kernel
theorem dX6_serializable_165 : decode cX6_serializable 165 = .ok (.getfield 31, 3) := by decide +kernel
theorem dX6_serializable_168 : decode cX6_serializable 168 = .ok (.iload 4, 2) := by decide +kernel
theorem dX6_serializable_170 : decode cX6_serializable 170 = .ok (.iaload, 1) := by decide +kernel
theorem dX6_serializable_171 : decode cX6_serializable 171 = .ok (.iastore, 1) := by decide +kernel
theorem dX6_serializable_172 : decode cX6_serializable 172 = .ok (.iinc 4 1, 3) := by decide +kernel
theorem dX6_serializable_175 : decode cX6_serializable 175 = .ok (.goto (-59), 3) := by decide +kernel
theorem dX6_serializable_178 : decode cX6_serializable 178 = .ok (.iinc 2 1, 3) := by decide +kernel
theorem dX6_serializable_181 : decode cX6_serializable 181 = .ok (.goto (-151), 3) := by decide +kernel
theorem dX6_serializable_184 : decode cX6_serializable 184 = .ok (.iload_n 1, 1) := by decide +kernel
theorem dX6_serializable_185 : decode cX6_serializable 185 = .ok (.ireturn, 1) := by decide +kernel
theorem dX6_beginTrial_0 : decode cX6_beginTrial 0 = .ok (.iconst 0, 1) := by decide +kernel
theorem dX6_beginTrial_1 : decode cX6_beginTrial 1 = .ok (.istore_n 2, 1) := by decide +kernel
theorem dX6_beginTrial_2 : decode cX6_beginTrial 2 = .ok (.iload_n 2, 1) := by decide +kernel
theorem dX6_beginTrial_3 : decode cX6_beginTrial 3 = .ok (.sipush 406, 3) := by decide +kernel
theorem dX6_beginTrial_6 : decode cX6_beginTrial 6 = .ok (.if_icmp .ge 21, 3) := by decide +kernel
theorem dX6_beginTrial_9 : decode cX6_beginTrial 9 = .ok (.aload_n 0, 1) := by decide +kernel
theorem dX6_beginTrial_10 : decode cX6_beginTrial 10 = .ok (.getfield 34, 3) := by decide +kernel
theorem dX6_beginTrial_13 : decode cX6_beginTrial 13 = .ok (.iload_n 2, 1) := by decide +kernel
theorem dX6_beginTrial_14 : decode cX6_beginTrial 14 = .ok (.aload_n 0, 1) := by decide +kernel
theorem dX6_beginTrial_15 : decode cX6_beginTrial 15 = .ok (.getfield 7, 3) := by decide +kernel
theorem dX6_beginTrial_18 : decode cX6_beginTrial 18 = .ok (.iload_n 2, 1) := by decide +kernel
theorem dX6_beginTrial_19 : decode cX6_beginTrial 19 = .ok (.iaload, 1) := by decide +kernel
theorem dX6_beginTrial_20 : decode cX6_beginTrial 20 = .ok (.iastore, 1) := by decide +kernel
theorem dX6_beginTrial_21 : decode cX6_beginTrial 21 = .ok (.iinc 2 1, 3) := by decide +kernel
theorem dX6_beginTrial_24 : decode cX6_beginTrial 24 = .ok (.goto (-22), 3) := by decide +kernel
theorem dX6_beginTrial_27 : decode cX6_beginTrial 27 = .ok (.aload_n 0, 1) := by decide +kernel
theorem dX6_beginTrial_28 : decode cX6_beginTrial 28 = .ok (.iconst 1, 1) := by decide +kernel
theorem dX6_beginTrial_29 : decode cX6_beginTrial 29 = .ok (.putfield 106, 3) := by decide +kernel
theorem dX6_beginTrial_32 : decode cX6_beginTrial 32 = .ok (.aload_n 0, 1) := by decide +kernel
theorem dX6_beginTrial_33 : decode cX6_beginTrial 33 = .ok (.getfield 7, 3) := by decide +kernel
theorem dX6_beginTrial_36 : decode cX6_beginTrial 36 = .ok (.iconst 1, 1) := by decide +kernel
theorem dX6_beginTrial_37 : decode cX6_beginTrial 37 = .ok (.iload_n 1, 1) := by decide +kernel
theorem dX6_beginTrial_38 : decode cX6_beginTrial 38 = .ok (.iastore, 1) := by decide +kernel
theorem dX6_beginTrial_39 : decode cX6_beginTrial 39 = .ok (.return_, 1) := by decide +kernel
theorem dX6_endTrial_0 : decode cX6_endTrial 0 = .ok (.aload_n 0, 1) := by decide +kernel
theorem dX6_endTrial_1 : decode cX6_endTrial 1 = .ok (.iconst 0, 1) := by decide +kernel
theorem dX6_endTrial_2 : decode cX6_endTrial 2 = .ok (.putfield 106, 3) := by decide +kernel
theorem dX6_endTrial_5 : decode cX6_endTrial 5 = .ok (.iconst 0, 1) := by decide +kernel
theorem dX6_endTrial_6 : decode cX6_endTrial 6 = .ok (.istore_n 1, 1) := by decide +kernel
theorem dX6_endTrial_7 : decode cX6_endTrial 7 = .ok (.iload_n 1, 1) := by decide +kernel
theorem dX6_endTrial_8 : decode cX6_endTrial 8 = .ok (.sipush 406, 3) := by decide +kernel
theorem dX6_endTrial_11 : decode cX6_endTrial 11 = .ok (.if_icmp .ge 21, 3) := by decide +kernel
theorem dX6_endTrial_14 : decode cX6_endTrial 14 = .ok (.aload_n 0, 1) := by decide +kernel
theorem dX6_endTrial_15 : decode cX6_endTrial 15 = .ok (.getfield 7, 3) := by decide +kernel
theorem dX6_endTrial_18 : decode cX6_endTrial 18 = .ok (.iload_n 1, 1) := by decide +kernel
theorem dX6_endTrial_19 : decode cX6_endTrial 19 = .ok (.aload_n 0, 1) := by decide +kernel
theorem dX6_endTrial_20 : decode cX6_endTrial 20 = .ok (.getfield 34, 3) := by decide +kernel
theorem dX6_endTrial_23 : decode cX6_endTrial 23 = .ok (.iload_n 1, 1) := by decide +kernel
theorem dX6_endTrial_24 : decode cX6_endTrial 24 = .ok (.iaload, 1) := by decide +kernel
theorem dX6_endTrial_25 : decode cX6_endTrial 25 = .ok (.iastore, 1) := by decide +kernel
theorem dX6_endTrial_26 : decode cX6_endTrial 26 = .ok (.iinc 1 1, 3) := by decide +kernel
theorem dX6_endTrial_29 : decode cX6_endTrial 29 = .ok (.goto (-22), 3) := by decide +kernel
theorem dX6_endTrial_32 : decode cX6_endTrial 32 = .ok (.return_, 1) := by decide +kernel
theorem dX6_finishOf_0 : decode cX6_finishOf 0 = .ok (.aload_n 0, 1) := by decide +kernel
theorem dX6_finishOf_1 : decode cX6_finishOf 1 = .ok (.iload_n 1, 1) := by decide +kernel
theorem dX6_finishOf_2 : decode cX6_finishOf 2 = .ok (.invokevirtual 193, 3) := by decide +kernel
theorem dX6_finishOf_5 : decode cX6_finishOf 5 = .ok (.iconst 0, 1) := by decide +kernel
theorem dX6_finishOf_6 : decode cX6_finishOf 6 = .ok (.istore_n 2, 1) := by decide +kernel
theorem dX6_finishOf_7 : decode cX6_finishOf 7 = .ok (.iload_n 2, 1) := by decide +kernel
theorem dX6_finishOf_8 : decode cX6_finishOf 8 = .ok (.sipush 2000, 3) := by decide +kernel
theorem dX6_finishOf_11 : decode cX6_finishOf 11 = .ok (.if_icmp .ge 16, 3) := by decide +kernel
theorem dX6_finishOf_14 : decode cX6_finishOf 14 = .ok (.aload_n 0, 1) := by decide +kernel
theorem dX6_finishOf_15 : decode cX6_finishOf 15 = .ok (.invokevirtual 174, 3) := by decide +kernel
theorem dX6_finishOf_18 : decode cX6_finishOf 18 = .ok (.ifCond .eq 9, 3) := by decide +kernel
theorem dX6_finishOf_21 : decode cX6_finishOf 21 = .ok (.iinc 2 1, 3) := by decide +kernel
theorem dX6_finishOf_24 : decode cX6_finishOf 24 = .ok (.goto (-17), 3) := by decide +kernel
theorem dX6_finishOf_27 : decode cX6_finishOf 27 = .ok (.aload_n 0, 1) := by decide +kernel
theorem dX6_finishOf_28 : decode cX6_finishOf 28 = .ok (.invokevirtual 164, 3) := by decide +kernel
theorem dX6_finishOf_31 : decode cX6_finishOf 31 = .ok (.aload_n 0, 1) := by decide +kernel
theorem dX6_finishOf_32 : decode cX6_finishOf 32 = .ok (.getfield 7, 3) := by decide +kernel
theorem dX6_finishOf_35 : decode cX6_finishOf 35 = .ok (.iconst 0, 1) := by decide +kernel
theorem dX6_finishOf_36 : decode cX6_finishOf 36 = .ok (.iaload, 1) := by decide +kernel
theorem dX6_finishOf_37 : decode cX6_finishOf 37 = .ok (.if_icmp .ne 7, 3) := by decide +kernel
theorem dX6_finishOf_40 : decode cX6_finishOf 40 = .ok (.iconst 1, 1) := by decide +kernel
theorem dX6_finishOf_41 : decode cX6_finishOf 41 = .ok (.goto 4, 3) := by decide +kernel
theorem dX6_finishOf_44 : decode cX6_finishOf 44 = .ok (.iconst 0, 1) := by decide +kernel
theorem dX6_finishOf_45 : decode cX6_finishOf 45 = .ok (.istore_n 3, 1) := by decide +kernel
theorem dX6_finishOf_46 : decode cX6_finishOf 46 = .ok (.aload_n 0, 1) := by decide +kernel
theorem dX6_finishOf_47 : decode cX6_finishOf 47 = .ok (.invokevirtual 196, 3) := by decide +kernel
theorem dX6_finishOf_50 : decode cX6_finishOf 50 = .ok (.iload_n 3, 1) := by decide +kernel
theorem dX6_finishOf_51 : decode cX6_finishOf 51 = .ok (.ifCond .eq 7, 3) := by decide +kernel
theorem dX6_finishOf_54 : decode cX6_finishOf 54 = .ok (.iload_n 2, 1) := by decide +kernel
theorem dX6_finishOf_55 : decode cX6_finishOf 55 = .ok (.goto 4, 3) := by decide +kernel
theorem dX6_finishOf_58 : decode cX6_finishOf 58 = .ok (.iconst (-1), 1) := by decide +kernel
theorem dX6_finishOf_59 : decode cX6_finishOf 59 = .ok (.ireturn, 1) := by decide +kernel
theorem dX6_finish_0 : decode cX6_finish 0 = .ok (.aload_n 0, 1) := by decide +kernel
theorem dX6_finish_1 : decode cX6_finish 1 = .ok (.iload_n 1, 1) := by decide +kernel
theorem dX6_finish_2 : decode cX6_finish 2 = .ok (.iconst 0, 1) := by decide +kernel
theorem dX6_finish_3 : decode cX6_finish 3 = .ok (.iconst 2, 1) := by decide +kernel
theorem dX6_finish_4 : decode cX6_finish 4 = .ok (.invokestatic 56, 3) := by decide +kernel
theorem dX6_finish_7 : decode cX6_finish 7 = .ok (.ifCond .eq 7, 3) := by decide +kernel
theorem dX6_finish_10 : decode cX6_finish 10 = .ok (.iconst 0, 1) := by decide +kernel
theorem dX6_finish_11 : decode cX6_finish 11 = .ok (.goto 4, 3) := by decide +kernel
theorem dX6_finish_14 : decode cX6_finish 14 = .ok (.iconst 1, 1) := by decide +kernel
theorem dX6_finish_15 : decode cX6_finish 15 = .ok (.putfield 41, 3) := by decide +kernel
theorem dX6_finish_18 : decode cX6_finish 18 = .ok (.aload_n 0, 1) := by decide +kernel
theorem dX6_finish_19 : decode cX6_finish 19 = .ok (.getfield 41, 3) := by decide +kernel
theorem dX6_finish_22 : decode cX6_finish 22 = .ok (.ifCond .eq 7, 3) := by decide +kernel
theorem dX6_finish_25 : decode cX6_finish 25 = .ok (.iconst 0, 1) := by decide +kernel
theorem dX6_finish_26 : decode cX6_finish 26 = .ok (.goto 8, 3) := by decide +kernel
theorem dX6_finish_29 : decode cX6_finish 29 = .ok (.aload_n 0, 1) := by decide +kernel
theorem dX6_finish_30 : decode cX6_finish 30 = .ok (.iload_n 1, 1) := by decide +kernel
theorem dX6_finish_31 : decode cX6_finish 31 = .ok (.invokevirtual 199, 3) := by decide +kernel
theorem dX6_finish_34 : decode cX6_finish 34 = .ok (.ireturn, 1) := by decide +kernel
theorem dX6_abortsWith_0 : decode cX6_abortsWith 0 = .ok (.aload_n 0, 1) := by decide +kernel
theorem dX6_abortsWith_1 : decode cX6_abortsWith 1 = .ok (.iload_n 1, 1) := by decide +kernel
theorem dX6_abortsWith_2 : decode cX6_abortsWith 2 = .ok (.iconst 0, 1) := by decide +kernel
theorem dX6_abortsWith_3 : decode cX6_abortsWith 3 = .ok (.iconst 2, 1) := by decide +kernel
theorem dX6_abortsWith_4 : decode cX6_abortsWith 4 = .ok (.invokestatic 56, 3) := by decide +kernel
theorem dX6_abortsWith_7 : decode cX6_abortsWith 7 = .ok (.ifCond .eq 18, 3) := by decide +kernel
theorem dX6_abortsWith_10 : decode cX6_abortsWith 10 = .ok (.iload_n 2, 1) := by decide +kernel
theorem dX6_abortsWith_11 : decode cX6_abortsWith 11 = .ok (.iconst 0, 1) := by decide +kernel
theorem dX6_abortsWith_12 : decode cX6_abortsWith 12 = .ok (.sipush 1000, 3) := by decide +kernel
theorem dX6_abortsWith_15 : decode cX6_abortsWith 15 = .ok (.invokestatic 56, 3) := by decide +kernel
theorem dX6_abortsWith_18 : decode cX6_abortsWith 18 = .ok (.ifCond .eq 7, 3) := by decide +kernel
theorem dX6_abortsWith_21 : decode cX6_abortsWith 21 = .ok (.iconst 0, 1) := by decide +kernel
theorem dX6_abortsWith_22 : decode cX6_abortsWith 22 = .ok (.goto 4, 3) := by decide +kernel
theorem dX6_abortsWith_25 : decode cX6_abortsWith 25 = .ok (.iconst 1, 1) := by decide +kernel
theorem dX6_abortsWith_26 : decode cX6_abortsWith 26 = .ok (.putfield 41, 3) := by decide +kernel
theorem dX6_abortsWith_29 : decode cX6_abortsWith 29 = .ok (.aload_n 0, 1) := by decide +kernel
theorem dX6_abortsWith_30 : decode cX6_abortsWith 30 = .ok (.getfield 41, 3) := by decide +kernel
theorem dX6_abortsWith_33 : decode cX6_abortsWith 33 = .ok (.ifCond .eq 5, 3) := by decide +kernel
theorem dX6_abortsWith_36 : decode cX6_abortsWith 36 = .ok (.iconst 0, 1) := by decide +kernel
theorem dX6_abortsWith_37 : decode cX6_abortsWith 37 = .ok (.ireturn, 1) := by decide +kernel
theorem dX6_abortsWith_38 : decode cX6_abortsWith 38 = .ok (.aload_n 0, 1) := by decide +kernel
theorem dX6_abortsWith_39 : decode cX6_abortsWith 39 = .ok (.iload_n 1, 1) := by decide +kernel
theorem dX6_abortsWith_40 : decode cX6_abortsWith 40 = .ok (.invokevirtual 193, 3) := by decide +kernel
theorem dX6_abortsWith_43 : decode cX6_abortsWith 43 = .ok (.aload_n 0, 1) := by decide +kernel
theorem dX6_abortsWith_44 : decode cX6_abortsWith 44 = .ok (.getfield 7, 3) := by decide +kernel
theorem dX6_abortsWith_47 : decode cX6_abortsWith 47 = .ok (.bipush 18, 2) := by decide +kernel
theorem dX6_abortsWith_49 : decode cX6_abortsWith 49 = .ok (.iaload, 1) := by decide +kernel
theorem dX6_abortsWith_50 : decode cX6_abortsWith 50 = .ok (.aload_n 0, 1) := by decide +kernel
theorem dX6_abortsWith_51 : decode cX6_abortsWith 51 = .ok (.getfield 7, 3) := by decide +kernel
theorem dX6_abortsWith_54 : decode cX6_abortsWith 54 = .ok (.bipush 19, 2) := by decide +kernel
theorem dX6_abortsWith_56 : decode cX6_abortsWith 56 = .ok (.iaload, 1) := by decide +kernel
theorem dX6_abortsWith_57 : decode cX6_abortsWith 57 = .ok (.iadd, 1) := by decide +kernel
theorem dX6_abortsWith_58 : decode cX6_abortsWith 58 = .ok (.istore_n 3, 1) := by decide +kernel
theorem dX6_abortsWith_59 : decode cX6_abortsWith 59 = .ok (.aload_n 0, 1) := by decide +kernel
theorem dX6_abortsWith_60 : decode cX6_abortsWith 60 = .ok (.iload_n 2, 1) := by decide +kernel
theorem dX6_abortsWith_61 : decode cX6_abortsWith 61 = .ok (.invokevirtual 177, 3) := by decide +kernel
theorem dX6_abortsWith_64 : decode cX6_abortsWith 64 = .ok (.aload_n 0, 1) := by decide +kernel
theorem dX6_abortsWith_65 : decode cX6_abortsWith 65 = .ok (.getfield 7, 3) := by decide +kernel
theorem dX6_abortsWith_68 : decode cX6_abortsWith 68 = .ok (.bipush 18, 2) := by decide +kernel
theorem dX6_abortsWith_70 : decode cX6_abortsWith 70 = .ok (.iaload, 1) := by decide +kernel
theorem dX6_abortsWith_71 : decode cX6_abortsWith 71 = .ok (.aload_n 0, 1) := by decide +kernel
theorem dX6_abortsWith_72 : decode cX6_abortsWith 72 = .ok (.getfield 7, 3) := by decide +kernel
theorem dX6_abortsWith_75 : decode cX6_abortsWith 75 = .ok (.bipush 19, 2) := by decide +kernel
theorem dX6_abortsWith_77 : decode cX6_abortsWith 77 = .ok (.iaload, 1) := by decide +kernel
theorem dX6_abortsWith_78 : decode cX6_abortsWith 78 = .ok (.iadd, 1) := by decide +kernel
theorem dX6_abortsWith_79 : decode cX6_abortsWith 79 = .ok (.iload_n 3, 1) := by decide +kernel
theorem dX6_abortsWith_80 : decode cX6_abortsWith 80 = .ok (.isub, 1) := by decide +kernel
theorem dX6_abortsWith_81 : decode cX6_abortsWith 81 = .ok (.istore 4, 2) := by decide +kernel
theorem dX6_abortsWith_83 : decode cX6_abortsWith 83 = .ok (.aload_n 0, 1) := by decide +kernel
theorem dX6_abortsWith_84 : decode cX6_abortsWith 84 = .ok (.invokevirtual 196, 3) := by decide +kernel
theorem dX6_abortsWith_87 : decode cX6_abortsWith 87 = .ok (.iload 4, 2) := by decide +kernel
theorem dX6_abortsWith_89 : decode cX6_abortsWith 89 = .ok (.ireturn, 1) := by decide +kernel
theorem dX6_bestPolicy_0 : decode cX6_bestPolicy 0 = .ok (.aload_n 0, 1) := by decide +kernel
theorem dX6_bestPolicy_1 : decode cX6_bestPolicy 1 = .ok (.iconst 0, 1) := by decide +kernel
theorem dX6_bestPolicy_2 : decode cX6_bestPolicy 2 = .ok (.putfield 41, 3) := by decide +kernel
theorem dX6_bestPolicy_5 : decode cX6_bestPolicy 5 = .ok (.iconst (-1), 1) := by decide +kernel
theorem dX6_bestPolicy_6 : decode cX6_bestPolicy 6 = .ok (.istore_n 1, 1) := by decide +kernel
theorem dX6_bestPolicy_7 : decode cX6_bestPolicy 7 = .ok (.iconst 0, 1) := by decide +kernel
theorem dX6_bestPolicy_8 : decode cX6_bestPolicy 8 = .ok (.istore_n 2, 1) := by decide +kernel
theorem dX6_bestPolicy_9 : decode cX6_bestPolicy 9 = .ok (.iconst 0, 1) := by decide +kernel
theorem dX6_bestPolicy_10 : decode cX6_bestPolicy 10 = .ok (.istore_n 3, 1) := by decide +kernel
theorem dX6_bestPolicy_11 : decode cX6_bestPolicy 11 = .ok (.iload_n 3, 1) := by decide +kernel
theorem dX6_bestPolicy_12 : decode cX6_bestPolicy 12 = .ok (.iconst 3, 1) := by decide +kernel
theorem dX6_bestPolicy_13 : decode cX6_bestPolicy 13 = .ok (.if_icmp .ge 63, 3) := by decide +kernel
theorem dX6_bestPolicy_16 : decode cX6_bestPolicy 16 = .ok (.aload_n 0, 1) := by decide +kernel
theorem dX6_bestPolicy_17 : decode cX6_bestPolicy 17 = .ok (.iload_n 3, 1) := by decide +kernel
theorem dX6_bestPolicy_18 : decode cX6_bestPolicy 18 = .ok (.invokevirtual 199, 3) := by decide +kernel
theorem dX6_bestPolicy_21 : decode cX6_bestPolicy 21 = .ok (.istore 4, 2) := by decide +kernel
theorem dX6_bestPolicy_23 : decode cX6_bestPolicy 23 = .ok (.iload 4, 2) := by decide +kernel
theorem dX6_bestPolicy_25 : decode cX6_bestPolicy 25 = .ok (.iconst (-1), 1) := by decide +kernel
theorem dX6_bestPolicy_26 : decode cX6_bestPolicy 26 = .ok (.if_icmp .eq 18, 3) := by decide +kernel
theorem dX6_bestPolicy_29 : decode cX6_bestPolicy 29 = .ok (.iload_n 1, 1) := by decide +kernel
theorem dX6_bestPolicy_30 : decode cX6_bestPolicy 30 = .ok (.iconst (-1), 1) := by decide +kernel
theorem dX6_bestPolicy_31 : decode cX6_bestPolicy 31 = .ok (.if_icmp .eq 9, 3) := by decide +kernel
theorem dX6_bestPolicy_34 : decode cX6_bestPolicy 34 = .ok (.iload 4, 2) := by decide +kernel
theorem dX6_bestPolicy_36 : decode cX6_bestPolicy 36 = .ok (.iload_n 2, 1) := by decide +kernel
theorem dX6_bestPolicy_37 : decode cX6_bestPolicy 37 = .ok (.if_icmp .ge 7, 3) := by decide +kernel
theorem dX6_bestPolicy_40 : decode cX6_bestPolicy 40 = .ok (.iconst 1, 1) := by decide +kernel
theorem dX6_bestPolicy_41 : decode cX6_bestPolicy 41 = .ok (.goto 4, 3) := by decide +kernel
theorem dX6_bestPolicy_44 : decode cX6_bestPolicy 44 = .ok (.iconst 0, 1) := by decide +kernel
theorem dX6_bestPolicy_45 : decode cX6_bestPolicy 45 = .ok (.istore 5, 2) := by decide +kernel
theorem dX6_bestPolicy_47 : decode cX6_bestPolicy 47 = .ok (.iload 5, 2) := by decide +kernel
theorem dX6_bestPolicy_49 : decode cX6_bestPolicy 49 = .ok (.ifCond .eq 7, 3) := by decide +kernel
theorem dX6_bestPolicy_52 : decode cX6_bestPolicy 52 = .ok (.iload_n 3, 1) := by decide +kernel
theorem dX6_bestPolicy_53 : decode cX6_bestPolicy 53 = .ok (.goto 4, 3) := by decide +kernel
theorem dX6_bestPolicy_56 : decode cX6_bestPolicy 56 = .ok (.iload_n 1, 1) := by decide +kernel
theorem dX6_bestPolicy_57 : decode cX6_bestPolicy 57 = .ok (.istore_n 1, 1) := by decide +kernel
theorem dX6_bestPolicy_58 : decode cX6_bestPolicy 58 = .ok (.iload 5, 2) := by decide +kernel
theorem dX6_bestPolicy_60 : decode cX6_bestPolicy 60 = .ok (.ifCond .eq 8, 3) := by decide +kernel
theorem dX6_bestPolicy_63 : decode cX6_bestPolicy 63 = .ok (.iload 4, 2) := by decide +kernel
theorem dX6_bestPolicy_65 : decode cX6_bestPolicy 65 = .ok (.goto 4, 3) := by decide +kernel
theorem dX6_bestPolicy_68 : decode cX6_bestPolicy 68 = .ok (.iload_n 2, 1) := by decide +kernel
theorem dX6_bestPolicy_69 : decode cX6_bestPolicy 69 = .ok (.istore_n 2, 1) := by decide +kernel
theorem dX6_bestPolicy_70 : decode cX6_bestPolicy 70 = .ok (.iinc 3 1, 3) := by decide +kernel
theorem dX6_bestPolicy_73 : decode cX6_bestPolicy 73 = .ok (.goto (-62), 3) := by decide +kernel
theorem dX6_bestPolicy_76 : decode cX6_bestPolicy 76 = .ok (.iload_n 1, 1) := by decide +kernel
theorem dX6_bestPolicy_77 : decode cX6_bestPolicy 77 = .ok (.ireturn, 1) := by decide +kernel
theorem dX6_undo_0 : decode cX6_undo 0 = .ok (.aload_n 0, 1) := by decide +kernel
theorem dX6_undo_1 : decode cX6_undo 1 = .ok (.aload_n 0, 1) := by decide +kernel
theorem dX6_undo_2 : decode cX6_undo 2 = .ok (.getfield 49, 3) := by decide +kernel
theorem dX6_undo_5 : decode cX6_undo 5 = .ok (.ifCond .ne 7, 3) := by decide +kernel
theorem dX6_undo_8 : decode cX6_undo 8 = .ok (.iconst 1, 1) := by decide +kernel
theorem dX6_undo_9 : decode cX6_undo 9 = .ok (.goto 4, 3) := by decide +kernel
theorem dX6_undo_12 : decode cX6_undo 12 = .ok (.iconst 0, 1) := by decide +kernel
theorem dX6_undo_13 : decode cX6_undo 13 = .ok (.putfield 41, 3) := by decide +kernel
theorem dX6_undo_16 : decode cX6_undo 16 = .ok (.aload_n 0, 1) := by decide +kernel
theorem dX6_undo_17 : decode cX6_undo 17 = .ok (.getfield 41, 3) := by decide +kernel
theorem dX6_undo_20 : decode cX6_undo 20 = .ok (.ifCond .eq 5, 3) := by decide +kernel
theorem dX6_undo_23 : decode cX6_undo 23 = .ok (.iconst 0, 1) := by decide +kernel
theorem dX6_undo_24 : decode cX6_undo 24 = .ok (.ireturn, 1) := by decide +kernel
theorem dX6_undo_25 : decode cX6_undo 25 = .ok (.aload_n 0, 1) := by decide +kernel
theorem dX6_undo_26 : decode cX6_undo 26 = .ok (.getfield 13, 3) := by decide +kernel
theorem dX6_undo_29 : decode cX6_undo 29 = .ok (.aload_n 0, 1) := by decide +kernel
theorem dX6_undo_30 : decode cX6_undo 30 = .ok (.getfield 7, 3) := by decide +kernel
theorem dX6_undo_33 : decode cX6_undo 33 = .ok (.invokestatic 45, 3) := by decide +kernel
theorem dX6_undo_36 : decode cX6_undo 36 = .ok (.aload_n 0, 1) := by decide +kernel
theorem dX6_undo_37 : decode cX6_undo 37 = .ok (.getfield 16, 3) := by decide +kernel
theorem dX6_undo_40 : decode cX6_undo 40 = .ok (.aload_n 0, 1) := by decide +kernel
theorem dX6_undo_41 : decode cX6_undo 41 = .ok (.getfield 13, 3) := by decide +kernel
theorem dX6_undo_44 : decode cX6_undo 44 = .ok (.invokestatic 45, 3) := by decide +kernel
theorem dX6_undo_47 : decode cX6_undo 47 = .ok (.aload_n 0, 1) := by decide +kernel
theorem dX6_undo_48 : decode cX6_undo 48 = .ok (.getfield 19, 3) := by decide +kernel
theorem dX6_undo_51 : decode cX6_undo 51 = .ok (.aload_n 0, 1) := by decide +kernel
theorem dX6_undo_52 : decode cX6_undo 52 = .ok (.getfield 16, 3) := by decide +kernel
theorem dX6_undo_55 : decode cX6_undo 55 = .ok (.invokestatic 45, 3) := by decide +kernel
theorem dX6_undo_58 : decode cX6_undo 58 = .ok (.aload_n 0, 1) := by decide +kernel
theorem dX6_undo_59 : decode cX6_undo 59 = .ok (.getfield 22, 3) := by decide +kernel
theorem dX6_undo_62 : decode cX6_undo 62 = .ok (.aload_n 0, 1) := by decide +kernel
theorem dX6_undo_63 : decode cX6_undo 63 = .ok (.getfield 19, 3) := by decide +kernel
theorem dX6_undo_66 : decode cX6_undo 66 = .ok (.invokestatic 45, 3) := by decide +kernel
theorem dX6_undo_69 : decode cX6_undo 69 = .ok (.aload_n 0, 1) := by decide +kernel
theorem dX6_undo_70 : decode cX6_undo 70 = .ok (.dup, 1) := by decide +kernel
theorem dX6_undo_71 : decode cX6_undo 71 = .ok (.getfield 49, 3) := by decide +kernel
theorem dX6_undo_74 : decode cX6_undo 74 = .ok (.iconst 1, 1) := by decide +kernel
theorem dX6_undo_75 : decode cX6_undo 75 = .ok (.isub, 1) := by decide +kernel
theorem dX6_undo_76 : decode cX6_undo 76 = .ok (.putfield 49, 3) := by decide +kernel
theorem dX6_undo_79 : decode cX6_undo 79 = .ok (.aload_n 0, 1) := by decide +kernel
theorem dX6_undo_80 : decode cX6_undo 80 = .ok (.getfield 49, 3) := by decide +kernel
theorem dX6_undo_83 : decode cX6_undo 83 = .ok (.ireturn, 1) := by decide +kernel
theorem dX6_mix_0 : decode cX6_mix 0 = .ok (.aload_n 0, 1) := by decide +kernel
theorem dX6_mix_1 : decode cX6_mix 1 = .ok (.ldc2_w 202, 3) := by decide +kernel
theorem dX6_mix_4 : decode cX6_mix 4 = .ok (.aload_n 0, 1) := by decide +kernel
theorem dX6_mix_5 : decode cX6_mix 5 = .ok (.getfield 204, 3) := by decide +kernel
theorem dX6_mix_8 : decode cX6_mix 8 = .ok (.lmul, 1) := by decide +kernel
theorem dX6_mix_9 : decode cX6_mix 9 = .ok (.lload_n 1, 1) := by decide +kernel
theorem dX6_mix_10 : decode cX6_mix 10 = .ok (.ladd, 1) := by decide +kernel
theorem dX6_mix_11 : decode cX6_mix 11 = .ok (.putfield 204, 3) := by decide +kernel
theorem dX6_mix_14 : decode cX6_mix 14 = .ok (.return_, 1) := by decide +kernel
theorem dX6_mixCore_0 : decode cX6_mixCore 0 = .ok (.iconst 0, 1) := by decide +kernel
theorem dX6_mixCore_1 : decode cX6_mixCore 1 = .ok (.istore_n 2, 1) := by decide +kernel
theorem dX6_mixCore_2 : decode cX6_mixCore 2 = .ok (.iload_n 2, 1) := by decide +kernel
theorem dX6_mixCore_3 : decode cX6_mixCore 3 = .ok (.bipush 6, 2) := by decide +kernel
theorem dX6_mixCore_5 : decode cX6_mixCore 5 = .ok (.if_icmp .ge 20, 3) := by decide +kernel
theorem dX6_mixCore_8 : decode cX6_mixCore 8 = .ok (.aload_n 0, 1) := by decide +kernel
theorem dX6_mixCore_9 : decode cX6_mixCore 9 = .ok (.aload_n 0, 1) := by decide +kernel
theorem dX6_mixCore_10 : decode cX6_mixCore 10 = .ok (.iload_n 1, 1) := by decide +kernel
theorem dX6_mixCore_11 : decode cX6_mixCore 11 = .ok (.iload_n 2, 1) := by decide +kernel
theorem dX6_mixCore_12 : decode cX6_mixCore 12 = .ok (.invokevirtual 187, 3) := by decide +kernel
theorem dX6_mixCore_15 : decode cX6_mixCore 15 = .ok (.i2l, 1) := by decide +kernel
theorem dX6_mixCore_16 : decode cX6_mixCore 16 = .ok (.invokevirtual 208, 3) := by decide +kernel
theorem dX6_mixCore_19 : decode cX6_mixCore 19 = .ok (.iinc 2 1, 3) := by decide +kernel
theorem dX6_mixCore_22 : decode cX6_mixCore 22 = .ok (.goto (-20), 3) := by decide +kernel
theorem dX6_mixCore_25 : decode cX6_mixCore 25 = .ok (.aload_n 0, 1) := by decide +kernel
theorem dX6_mixCore_26 : decode cX6_mixCore 26 = .ok (.aload_n 0, 1) := by decide +kernel
theorem dX6_mixCore_27 : decode cX6_mixCore 27 = .ok (.iload_n 1, 1) := by decide +kernel
theorem dX6_mixCore_28 : decode cX6_mixCore 28 = .ok (.bipush 7, 2) := by decide +kernel
theorem dX6_mixCore_30 : decode cX6_mixCore 30 = .ok (.invokevirtual 97, 3) := by decide +kernel
theorem dX6_mixCore_33 : decode cX6_mixCore 33 = .ok (.i2l, 1) := by decide +kernel
theorem dX6_mixCore_34 : decode cX6_mixCore 34 = .ok (.invokevirtual 208, 3) := by decide +kernel
theorem dX6_mixCore_37 : decode cX6_mixCore 37 = .ok (.aload_n 0, 1) := by decide +kernel
theorem dX6_mixCore_38 : decode cX6_mixCore 38 = .ok (.aload_n 0, 1) := by decide +kernel
theorem dX6_mixCore_39 : decode cX6_mixCore 39 = .ok (.iload_n 1, 1) := by decide +kernel
theorem dX6_mixCore_40 : decode cX6_mixCore 40 = .ok (.bipush 8, 2) := by decide +kernel
theorem dX6_mixCore_42 : decode cX6_mixCore 42 = .ok (.invokevirtual 97, 3) := by decide +kernel
theorem dX6_mixCore_45 : decode cX6_mixCore 45 = .ok (.i2l, 1) := by decide +kernel
theorem dX6_mixCore_46 : decode cX6_mixCore 46 = .ok (.invokevirtual 208, 3) := by decide +kernel
theorem dX6_mixCore_49 : decode cX6_mixCore 49 = .ok (.iconst 0, 1) := by decide +kernel
theorem dX6_mixCore_50 : decode cX6_mixCore 50 = .ok (.istore_n 2, 1) := by decide +kernel
theorem dX6_mixCore_51 : decode cX6_mixCore 51 = .ok (.iload_n 2, 1) := by decide +kernel
theorem dX6_mixCore_52 : decode cX6_mixCore 52 = .ok (.bipush 8, 2) := by decide +kernel
theorem dX6_mixCore_54 : decode cX6_mixCore 54 = .ok (.if_icmp .ge 37, 3) := by decide +kernel
theorem dX6_mixCore_57 : decode cX6_mixCore 57 = .ok (.aload_n 0, 1) := by decide +kernel
theorem dX6_mixCore_58 : decode cX6_mixCore 58 = .ok (.aload_n 0, 1) := by decide +kernel
theorem dX6_mixCore_59 : decode cX6_mixCore 59 = .ok (.iload_n 1, 1) := by decide +kernel
theorem dX6_mixCore_60 : decode cX6_mixCore 60 = .ok (.bipush 20, 2) := by decide +kernel
theorem dX6_mixCore_62 : decode cX6_mixCore 62 = .ok (.iload_n 2, 1) := by decide +kernel
theorem dX6_mixCore_63 : decode cX6_mixCore 63 = .ok (.iadd, 1) := by decide +kernel
theorem dX6_mixCore_64 : decode cX6_mixCore 64 = .ok (.invokevirtual 97, 3) := by decide +kernel
theorem dX6_mixCore_67 : decode cX6_mixCore 67 = .ok (.i2l, 1) := by decide +kernel
theorem dX6_mixCore_68 : decode cX6_mixCore 68 = .ok (.invokevirtual 208, 3) := by decide +kernel
theorem dX6_mixCore_71 : decode cX6_mixCore 71 = .ok (.aload_n 0, 1) := by decide +kernel
theorem dX6_mixCore_72 : decode cX6_mixCore 72 = .ok (.aload_n 0, 1) := by decide +kernel
theorem dX6_mixCore_73 : decode cX6_mixCore 73 = .ok (.iload_n 1, 1) := by decide +kernel
theorem dX6_mixCore_74 : decode cX6_mixCore 74 = .ok (.bipush 28, 2) := by decide +kernel
theorem dX6_mixCore_76 : decode cX6_mixCore 76 = .ok (.iload_n 2, 1) := by decide +kernel
theorem dX6_mixCore_77 : decode cX6_mixCore 77 = .ok (.iadd, 1) := by decide +kernel
theorem dX6_mixCore_78 : decode cX6_mixCore 78 = .ok (.invokevirtual 97, 3) := by decide +kernel
theorem dX6_mixCore_81 : decode cX6_mixCore 81 = .ok (.i2l, 1) := by decide +kernel
theorem dX6_mixCore_82 : decode cX6_mixCore 82 = .ok (.invokevirtual 208, 3) := by decide +kernel
theorem dX6_mixCore_85 : decode cX6_mixCore 85 = .ok (.iinc 2 1, 3) := by decide +kernel
theorem dX6_mixCore_88 : decode cX6_mixCore 88 = .ok (.goto (-37), 3) := by decide +kernel
theorem dX6_mixCore_91 : decode cX6_mixCore 91 = .ok (.return_, 1) := by decide +kernel
theorem dX6_digest_0 : decode cX6_digest 0 = .ok (.aload_n 0, 1) := by decide +kernel
theorem dX6_digest_1 : decode cX6_digest 1 = .ok (.iconst 0, 1) := by decide +kernel
theorem dX6_digest_2 : decode cX6_digest 2 = .ok (.putfield 41, 3) := by decide +kernel
theorem dX6_digest_5 : decode cX6_digest 5 = .ok (.aload_n 0, 1) := by decide +kernel
theorem dX6_digest_6 : decode cX6_digest 6 = .ok (.ldc2_w 212, 3) := by decide +kernel
theorem dX6_digest_9 : decode cX6_digest 9 = .ok (.putfield 204, 3) := by decide +kernel
theorem dX6_digest_12 : decode cX6_digest 12 = .ok (.aload_n 0, 1) := by decide +kernel
theorem dX6_digest_13 : decode cX6_digest 13 = .ok (.aload_n 0, 1) := by decide +kernel
theorem dX6_digest_14 : decode cX6_digest 14 = .ok (.getfield 67, 3) := by decide +kernel
theorem dX6_digest_17 : decode cX6_digest 17 = .ok (.i2l, 1) := by decide +kernel
theorem dX6_digest_18 : decode cX6_digest 18 = .ok (.invokevirtual 208, 3) := by decide +kernel
theorem dX6_digest_21 : decode cX6_digest 21 = .ok (.iconst 0, 1) := by decide +kernel
theorem dX6_digest_22 : decode cX6_digest 22 = .ok (.istore_n 1, 1) := by decide +kernel
theorem dX6_digest_23 : decode cX6_digest 23 = .ok (.iload_n 1, 1) := by decide +kernel
theorem dX6_digest_24 : decode cX6_digest 24 = .ok (.iconst 5, 1) := by decide +kernel
theorem dX6_digest_25 : decode cX6_digest 25 = .ok (.if_icmp .ge 19, 3) := by decide +kernel
theorem dX6_digest_28 : decode cX6_digest 28 = .ok (.aload_n 0, 1) := by decide +kernel
theorem dX6_digest_29 : decode cX6_digest 29 = .ok (.aload_n 0, 1) := by decide +kernel
theorem dX6_digest_30 : decode cX6_digest 30 = .ok (.iload_n 1, 1) := by decide +kernel
theorem dX6_digest_31 : decode cX6_digest 31 = .ok (.invokevirtual 190, 3) := by decide +kernel
theorem dX6_digest_34 : decode cX6_digest 34 = .ok (.i2l, 1) := by decide +kernel
theorem dX6_digest_35 : decode cX6_digest 35 = .ok (.invokevirtual 208, 3) := by decide +kernel
theorem dX6_digest_38 : decode cX6_digest 38 = .ok (.iinc 1 1, 3) := by decide +kernel
theorem dX6_digest_41 : decode cX6_digest 41 = .ok (.goto (-18), 3) := by decide +kernel
theorem dX6_digest_44 : decode cX6_digest 44 = .ok (.aload_n 0, 1) := by decide +kernel
theorem dX6_digest_45 : decode cX6_digest 45 = .ok (.aload_n 0, 1) := by decide +kernel
theorem dX6_digest_46 : decode cX6_digest 46 = .ok (.getfield 7, 3) := by decide +kernel
theorem dX6_digest_49 : decode cX6_digest 49 = .ok (.iconst 3, 1) := by decide +kernel
theorem dX6_digest_50 : decode cX6_digest 50 = .ok (.iaload, 1) := by decide +kernel
theorem dX6_digest_51 : decode cX6_digest 51 = .ok (.i2l, 1) := by decide +kernel
theorem dX6_digest_52 : decode cX6_digest 52 = .ok (.invokevirtual 208, 3) := by decide +kernel
theorem dX6_digest_55 : decode cX6_digest 55 = .ok (.iconst 0, 1) := by decide +kernel
theorem dX6_digest_56 : decode cX6_digest 56 = .ok (.istore_n 1, 1) := by decide +kernel
theorem dX6_digest_57 : decode cX6_digest 57 = .ok (.iload_n 1, 1) := by decide +kernel
theorem dX6_digest_58 : decode cX6_digest 58 = .ok (.aload_n 0, 1) := by decide +kernel
theorem dX6_digest_59 : decode cX6_digest 59 = .ok (.getfield 7, 3) := by decide +kernel
theorem dX6_digest_62 : decode cX6_digest 62 = .ok (.iconst 0, 1) := by decide +kernel
theorem dX6_digest_63 : decode cX6_digest 63 = .ok (.iaload, 1) := by decide +kernel
theorem dX6_digest_64 : decode cX6_digest 64 = .ok (.if_icmp .ge 14, 3) := by decide +kernel
theorem dX6_digest_67 : decode cX6_digest 67 = .ok (.aload_n 0, 1) := by decide +kernel
theorem dX6_digest_68 : decode cX6_digest 68 = .ok (.iload_n 1, 1) := by decide +kernel
theorem dX6_digest_69 : decode cX6_digest 69 = .ok (.invokevirtual 214, 3) := by decide +kernel
theorem dX6_digest_72 : decode cX6_digest 72 = .ok (.iinc 1 1, 3) := by decide +kernel
theorem dX6_digest_75 : decode cX6_digest 75 = .ok (.goto (-18), 3) := by decide +kernel
theorem dX6_digest_78 : decode cX6_digest 78 = .ok (.iconst 0, 1) := by decide +kernel
theorem dX6_digest_79 : decode cX6_digest 79 = .ok (.istore_n 1, 1) := by decide +kernel
theorem dX6_digest_80 : decode cX6_digest 80 = .ok (.iload_n 1, 1) := by decide +kernel
theorem dX6_digest_81 : decode cX6_digest 81 = .ok (.bipush 8, 2) := by decide +kernel
theorem dX6_digest_83 : decode cX6_digest 83 = .ok (.if_icmp .ge 20, 3) := by decide +kernel
theorem dX6_digest_86 : decode cX6_digest 86 = .ok (.aload_n 0, 1) := by decide +kernel
theorem dX6_digest_87 : decode cX6_digest 87 = .ok (.aload_n 0, 1) := by decide +kernel
theorem dX6_digest_88 : decode cX6_digest 88 = .ok (.iload_n 1, 1) := by decide +kernel
theorem dX6_digest_89 : decode cX6_digest 89 = .ok (.iconst 0, 1) := by decide +kernel
theorem dX6_digest_90 : decode cX6_digest 90 = .ok (.invokevirtual 183, 3) := by decide +kernel
theorem dX6_digest_93 : decode cX6_digest 93 = .ok (.i2l, 1) := by decide +kernel
theorem dX6_digest_94 : decode cX6_digest 94 = .ok (.invokevirtual 208, 3) := by decide +kernel
theorem dX6_digest_97 : decode cX6_digest 97 = .ok (.iinc 1 1, 3) := by decide +kernel
theorem dX6_digest_100 : decode cX6_digest 100 = .ok (.goto (-20), 3) := by decide +kernel
theorem dX6_digest_103 : decode cX6_digest 103 = .ok (.iconst 0, 1) := by decide +kernel
theorem dX6_digest_104 : decode cX6_digest 104 = .ok (.istore_n 1, 1) := by decide +kernel
theorem dX6_digest_105 : decode cX6_digest 105 = .ok (.iload_n 1, 1) := by decide +kernel
theorem dX6_digest_106 : decode cX6_digest 106 = .ok (.bipush 8, 2) := by decide +kernel
theorem dX6_digest_108 : decode cX6_digest 108 = .ok (.if_icmp .ge 20, 3) := by decide +kernel
theorem dX6_digest_111 : decode cX6_digest 111 = .ok (.aload_n 0, 1) := by decide +kernel
theorem dX6_digest_112 : decode cX6_digest 112 = .ok (.aload_n 0, 1) := by decide +kernel
theorem dX6_digest_113 : decode cX6_digest 113 = .ok (.iload_n 1, 1) := by decide +kernel
theorem dX6_digest_114 : decode cX6_digest 114 = .ok (.iconst 1, 1) := by decide +kernel
theorem dX6_digest_115 : decode cX6_digest 115 = .ok (.invokevirtual 183, 3) := by decide +kernel
theorem dX6_digest_118 : decode cX6_digest 118 = .ok (.i2l, 1) := by decide +kernel
theorem dX6_digest_119 : decode cX6_digest 119 = .ok (.invokevirtual 208, 3) := by decide +kernel
theorem dX6_digest_122 : decode cX6_digest 122 = .ok (.iinc 1 1, 3) := by decide +kernel
theorem dX6_digest_125 : decode cX6_digest 125 = .ok (.goto (-20), 3) := by decide +kernel
theorem dX6_digest_128 : decode cX6_digest 128 = .ok (.iconst 0, 1) := by decide +kernel
theorem dX6_digest_129 : decode cX6_digest 129 = .ok (.istore_n 1, 1) := by decide +kernel
theorem dX6_digest_130 : decode cX6_digest 130 = .ok (.iload_n 1, 1) := by decide +kernel
theorem dX6_digest_131 : decode cX6_digest 131 = .ok (.bipush 8, 2) := by decide +kernel
theorem dX6_digest_133 : decode cX6_digest 133 = .ok (.if_icmp .ge 23, 3) := by decide +kernel
theorem dX6_digest_136 : decode cX6_digest 136 = .ok (.aload_n 0, 1) := by decide +kernel
theorem dX6_digest_137 : decode cX6_digest 137 = .ok (.aload_n 0, 1) := by decide +kernel
theorem dX6_digest_138 : decode cX6_digest 138 = .ok (.getfield 7, 3) := by decide +kernel
theorem dX6_digest_141 : decode cX6_digest 141 = .ok (.bipush 13, 2) := by decide +kernel
theorem dX6_digest_143 : decode cX6_digest 143 = .ok (.iload_n 1, 1) := by decide +kernel
theorem dX6_digest_144 : decode cX6_digest 144 = .ok (.iadd, 1) := by decide +kernel
theorem dX6_digest_145 : decode cX6_digest 145 = .ok (.iaload, 1) := by decide +kernel
theorem dX6_digest_146 : decode cX6_digest 146 = .ok (.i2l, 1) := by decide +kernel
theorem dX6_digest_147 : decode cX6_digest 147 = .ok (.invokevirtual 208, 3) := by decide +kernel
theorem dX6_digest_150 : decode cX6_digest 150 = .ok (.iinc 1 1, 3) := by decide +kernel
theorem dX6_digest_153 : decode cX6_digest 153 = .ok (.goto (-23), 3) := by decide +kernel
theorem dX6_digest_156 : decode cX6_digest 156 = .ok (.aload_n 0, 1) := by decide +kernel
theorem dX6_digest_157 : decode cX6_digest 157 = .ok (.aload_n 0, 1) := by decide +kernel
theorem dX6_digest_158 : decode cX6_digest 158 = .ok (.getfield 7, 3) := by decide +kernel
theorem dX6_digest_161 : decode cX6_digest 161 = .ok (.bipush 21, 2) := by decide +kernel
theorem dX6_digest_163 : decode cX6_digest 163 = .ok (.iaload, 1) := by decide +kernel
theorem dX6_digest_164 : decode cX6_digest 164 = .ok (.i2l, 1) := by decide +kernel
theorem dX6_digest_165 : decode cX6_digest 165 = .ok (.invokevirtual 208, 3) := by decide +kernel
theorem dX6_digest_168 : decode cX6_digest 168 = .ok (.aload_n 0, 1) := by decide +kernel
theorem dX6_digest_169 : decode cX6_digest 169 = .ok (.aload_n 0, 1) := by decide +kernel
theorem dX6_digest_170 : decode cX6_digest 170 = .ok (.getfield 49, 3) := by decide +kernel
theorem dX6_digest_173 : decode cX6_digest 173 = .ok (.i2l, 1) := by decide +kernel
theorem dX6_digest_174 : decode cX6_digest 174 = .ok (.invokevirtual 208, 3) := by decide +kernel
theorem dX6_digest_177 : decode cX6_digest 177 = .ok (.aload_n 0, 1) := by decide +kernel
theorem dX6_digest_178 : decode cX6_digest 178 = .ok (.getfield 204, 3) := by decide +kernel
theorem dX6_digest_181 : decode cX6_digest 181 = .ok (.lreturn, 1) := by decide +kernel
theorem dJ6_bitCount_0f7a4_0 : decode cJ6_bitCount_0f7a4 0 = .ok (.iload_n 0, 1) := by decide +kernel
theorem dJ6_bitCount_0f7a4_1 : decode cJ6_bitCount_0f7a4 1 = .ok (.iload_n 0, 1) := by decide +kernel
theorem dJ6_bitCount_0f7a4_2 : decode cJ6_bitCount_0f7a4 2 = .ok (.iconst 1, 1) := by decide +kernel
theorem dJ6_bitCount_0f7a4_3 : decode cJ6_bitCount_0f7a4 3 = .ok (.iushr, 1) := by decide +kernel
theorem dJ6_bitCount_0f7a4_4 : decode cJ6_bitCount_0f7a4 4 = .ok (.ldc_w 265, 3) := by decide +kernel
theorem dJ6_bitCount_0f7a4_7 : decode cJ6_bitCount_0f7a4 7 = .ok (.iand, 1) := by decide +kernel
theorem dJ6_bitCount_0f7a4_8 : decode cJ6_bitCount_0f7a4 8 = .ok (.isub, 1) := by decide +kernel
theorem dJ6_bitCount_0f7a4_9 : decode cJ6_bitCount_0f7a4 9 = .ok (.istore_n 0, 1) := by decide +kernel
theorem dJ6_bitCount_0f7a4_10 : decode cJ6_bitCount_0f7a4 10 = .ok (.iload_n 0, 1) := by decide +kernel
theorem dJ6_bitCount_0f7a4_11 : decode cJ6_bitCount_0f7a4 11 = .ok (.ldc_w 266, 3) := by decide +kernel
theorem dJ6_bitCount_0f7a4_14 : decode cJ6_bitCount_0f7a4 14 = .ok (.iand, 1) := by decide +kernel
theorem dJ6_bitCount_0f7a4_15 : decode cJ6_bitCount_0f7a4 15 = .ok (.iload_n 0, 1) := by decide +kernel
theorem dJ6_bitCount_0f7a4_16 : decode cJ6_bitCount_0f7a4 16 = .ok (.iconst 2, 1) := by decide +kernel
theorem dJ6_bitCount_0f7a4_17 : decode cJ6_bitCount_0f7a4 17 = .ok (.iushr, 1) := by decide +kernel
theorem dJ6_bitCount_0f7a4_18 : decode cJ6_bitCount_0f7a4 18 = .ok (.ldc_w 266, 3) := by decide +kernel
theorem dJ6_bitCount_0f7a4_21 : decode cJ6_bitCount_0f7a4 21 = .ok (.iand, 1) := by decide +kernel
theorem dJ6_bitCount_0f7a4_22 : decode cJ6_bitCount_0f7a4 22 = .ok (.iadd, 1) := by decide +kernel
theorem dJ6_bitCount_0f7a4_23 : decode cJ6_bitCount_0f7a4 23 = .ok (.istore_n 0, 1) := by decide +kernel
theorem dJ6_bitCount_0f7a4_24 : decode cJ6_bitCount_0f7a4 24 = .ok (.iload_n 0, 1) := by decide +kernel
theorem dJ6_bitCount_0f7a4_25 : decode cJ6_bitCount_0f7a4 25 = .ok (.iload_n 0, 1) := by decide +kernel
theorem dJ6_bitCount_0f7a4_26 : decode cJ6_bitCount_0f7a4 26 = .ok (.iconst 4, 1) := by decide +kernel
theorem dJ6_bitCount_0f7a4_27 : decode cJ6_bitCount_0f7a4 27 = .ok (.iushr, 1) := by decide +kernel
theorem dJ6_bitCount_0f7a4_28 : decode cJ6_bitCount_0f7a4 28 = .ok (.iadd, 1) := by decide +kernel
theorem dJ6_bitCount_0f7a4_29 : decode cJ6_bitCount_0f7a4 29 = .ok (.ldc_w 267, 3) := by decide +kernel
theorem dJ6_bitCount_0f7a4_32 : decode cJ6_bitCount_0f7a4 32 = .ok (.iand, 1) := by decide +kernel
theorem dJ6_bitCount_0f7a4_33 : decode cJ6_bitCount_0f7a4 33 = .ok (.istore_n 0, 1) := by decide +kernel
theorem dJ6_bitCount_0f7a4_34 : decode cJ6_bitCount_0f7a4 34 = .ok (.iload_n 0, 1) := by decide +kernel
theorem dJ6_bitCount_0f7a4_35 : decode cJ6_bitCount_0f7a4 35 = .ok (.iload_n 0, 1) := by decide +kernel
theorem dJ6_bitCount_0f7a4_36 : decode cJ6_bitCount_0f7a4 36 = .ok (.bipush 8, 2) := by decide +kernel
theorem dJ6_bitCount_0f7a4_38 : decode cJ6_bitCount_0f7a4 38 = .ok (.iushr, 1) := by decide +kernel
theorem dJ6_bitCount_0f7a4_39 : decode cJ6_bitCount_0f7a4 39 = .ok (.iadd, 1) := by decide +kernel
theorem dJ6_bitCount_0f7a4_40 : decode cJ6_bitCount_0f7a4 40 = .ok (.istore_n 0, 1) := by decide +kernel
theorem dJ6_bitCount_0f7a4_41 : decode cJ6_bitCount_0f7a4 41 = .ok (.iload_n 0, 1) := by decide +kernel
theorem dJ6_bitCount_0f7a4_42 : decode cJ6_bitCount_0f7a4 42 = .ok (.iload_n 0, 1) := by decide +kernel
theorem dJ6_bitCount_0f7a4_43 : decode cJ6_bitCount_0f7a4 43 = .ok (.bipush 16, 2) := by decide +kernel
theorem dJ6_bitCount_0f7a4_45 : decode cJ6_bitCount_0f7a4 45 = .ok (.iushr, 1) := by decide +kernel
theorem dJ6_bitCount_0f7a4_46 : decode cJ6_bitCount_0f7a4 46 = .ok (.iadd, 1) := by decide +kernel
theorem dJ6_bitCount_0f7a4_47 : decode cJ6_bitCount_0f7a4 47 = .ok (.istore_n 0, 1) := by decide +kernel
theorem dJ6_bitCount_0f7a4_48 : decode cJ6_bitCount_0f7a4 48 = .ok (.iload_n 0, 1) := by decide +kernel
theorem dJ6_bitCount_0f7a4_49 : decode cJ6_bitCount_0f7a4 49 = .ok (.bipush 63, 2) := by decide +kernel
theorem dJ6_bitCount_0f7a4_51 : decode cJ6_bitCount_0f7a4 51 = .ok (.iand, 1) := by decide +kernel
theorem dJ6_bitCount_0f7a4_52 : decode cJ6_bitCount_0f7a4 52 = .ok (.ireturn, 1) := by decide +kernel
theorem dJ9_min_7cf53_0 : decode cJ9_min_7cf53 0 = .ok (.iload_n 0, 1) := by decide +kernel
theorem dJ9_min_7cf53_1 : decode cJ9_min_7cf53 1 = .ok (.iload_n 1, 1) := by decide +kernel
theorem dJ9_min_7cf53_2 : decode cJ9_min_7cf53 2 = .ok (.if_icmp .gt 7, 3) := by decide +kernel
theorem dJ9_min_7cf53_5 : decode cJ9_min_7cf53 5 = .ok (.iload_n 0, 1) := by decide +kernel
theorem dJ9_min_7cf53_6 : decode cJ9_min_7cf53 6 = .ok (.goto 4, 3) := by decide +kernel
theorem dJ9_min_7cf53_9 : decode cJ9_min_7cf53 9 = .ok (.iload_n 1, 1) := by decide +kernel
theorem dJ9_min_7cf53_10 : decode cJ9_min_7cf53 10 = .ok (.ireturn, 1) := by decide +kernel
theorem dL_begin_0 : decode cL_begin 0 = .ok (.aload 4, 2) := by decide +kernel
theorem dL_begin_2 : decode cL_begin 2 = .ok (.iconst 0, 1) := by decide +kernel
theorem dL_begin_3 : decode cL_begin 3 = .ok (.aload_n 0, 1) := by decide +kernel
theorem dL_begin_4 : decode cL_begin 4 = .ok (.iload_n 1, 1) := by decide +kernel
theorem dL_begin_5 : decode cL_begin 5 = .ok (.iload_n 2, 1) := by decide +kernel
theorem dL_begin_6 : decode cL_begin 6 = .ok (.iload_n 3, 1) := by decide +kernel
theorem dL_begin_7 : decode cL_begin 7 = .ok (.invokevirtual 7, 3) := by decide +kernel
theorem dL_begin_10 : decode cL_begin 10 = .ok (.i2l, 1) := by decide +kernel
theorem dL_begin_11 : decode cL_begin 11 = .ok (.lastore, 1) := by decide +kernel
theorem dL_begin_12 : decode cL_begin 12 = .ok (.goto 7, 3) := by decide +kernel
theorem dL_begin_15 : decode cL_begin 15 = .ok (.astore 5, 2) := by decide +kernel
theorem dL_begin_17 : decode cL_begin 17 = .ok (.iconst 1, 1) := by decide +kernel
theorem dL_begin_18 : decode cL_begin 18 = .ok (.ireturn, 1) := by decide +kernel
theorem dL_begin_19 : decode cL_begin 19 = .ok (.iconst 0, 1) := by decide +kernel
theorem dL_begin_20 : decode cL_begin 20 = .ok (.ireturn, 1) := by decide +kernel
theorem dL_setPolicy_0 : decode cL_setPolicy 0 = .ok (.aload_n 2, 1) := by decide +kernel
theorem dL_setPolicy_1 : decode cL_setPolicy 1 = .ok (.iconst 0, 1) := by decide +kernel
theorem dL_setPolicy_2 : decode cL_setPolicy 2 = .ok (.aload_n 0, 1) := by decide +kernel
theorem dL_setPolicy_3 : decode cL_setPolicy 3 = .ok (.iload_n 1, 1) := by decide +kernel
theorem dL_setPolicy_4 : decode cL_setPolicy 4 = .ok (.invokevirtual 15, 3) := by decide +kernel
theorem dL_setPolicy_7 : decode cL_setPolicy 7 = .ok (.i2l, 1) := by decide +kernel
theorem dL_setPolicy_8 : decode cL_setPolicy 8 = .ok (.lastore, 1) := by decide +kernel
theorem dL_setPolicy_9 : decode cL_setPolicy 9 = .ok (.goto 6, 3) := by decide +kernel
theorem dL_setPolicy_12 : decode cL_setPolicy 12 = .ok (.astore_n 3, 1) := by decide +kernel
theorem dL_setPolicy_13 : decode cL_setPolicy 13 = .ok (.iconst 1, 1) := by decide +kernel
theorem dL_setPolicy_14 : decode cL_setPolicy 14 = .ok (.ireturn, 1) := by decide +kernel
theorem dL_setPolicy_15 : decode cL_setPolicy 15 = .ok (.iconst 0, 1) := by decide +kernel
theorem dL_setPolicy_16 : decode cL_setPolicy 16 = .ok (.ireturn, 1) := by decide +kernel
theorem dL_seed_0 : decode cL_seed 0 = .ok (.aload_n 2, 1) := by decide +kernel
theorem dL_seed_1 : decode cL_seed 1 = .ok (.iconst 0, 1) := by decide +kernel
theorem dL_seed_2 : decode cL_seed 2 = .ok (.aload_n 0, 1) := by decide +kernel
theorem dL_seed_3 : decode cL_seed 3 = .ok (.iload_n 1, 1) := by decide +kernel
theorem dL_seed_4 : decode cL_seed 4 = .ok (.invokevirtual 19, 3) := by decide +kernel
theorem dL_seed_7 : decode cL_seed 7 = .ok (.i2l, 1) := by decide +kernel
theorem dL_seed_8 : decode cL_seed 8 = .ok (.lastore, 1) := by decide +kernel
theorem dL_seed_9 : decode cL_seed 9 = .ok (.goto 6, 3) := by decide +kernel
theorem dL_seed_12 : decode cL_seed 12 = .ok (.astore_n 3, 1) := by decide +kernel
theorem dL_seed_13 : decode cL_seed 13 = .ok (.iconst 1, 1) := by decide +kernel
theorem dL_seed_14 : decode cL_seed 14 = .ok (.ireturn, 1) := by decide +kernel
theorem dL_seed_15 : decode cL_seed 15 = .ok (.iconst 0, 1) := by decide +kernel
theorem dL_seed_16 : decode cL_seed 16 = .ok (.ireturn, 1) := by decide +kernel
theorem dL_append_0 : decode cL_append 0 = .ok (.aload_n 2, 1) := by decide +kernel
theorem dL_append_1 : decode cL_append 1 = .ok (.iconst 0, 1) := by decide +kernel
theorem dL_append_2 : decode cL_append 2 = .ok (.aload_n 0, 1) := by decide +kernel
theorem dL_append_3 : decode cL_append 3 = .ok (.iload_n 1, 1) := by decide +kernel
theorem dL_append_4 : decode cL_append 4 = .ok (.invokevirtual 22, 3) := by decide +kernel
theorem dL_append_7 : decode cL_append 7 = .ok (.i2l, 1) := by decide +kernel
theorem dL_append_8 : decode cL_append 8 = .ok (.lastore, 1) := by decide +kernel
theorem dL_append_9 : decode cL_append 9 = .ok (.goto 9, 3) := by decide +kernel
theorem dL_append_12 : decode cL_append 12 = .ok (.astore_n 3, 1) := by decide +kernel
theorem dL_append_13 : decode cL_append 13 = .ok (.iconst 1, 1) := by decide +kernel
theorem dL_append_14 : decode cL_append 14 = .ok (.ireturn, 1) := by decide +kernel
theorem dL_append_15 : decode cL_append 15 = .ok (.astore_n 3, 1) := by decide +kernel
theorem dL_append_16 : decode cL_append 16 = .ok (.iconst 2, 1) := by decide +kernel
theorem dL_append_17 : decode cL_append 17 = .ok (.ireturn, 1) := by decide +kernel
theorem dL_append_18 : decode cL_append 18 = .ok (.iconst 0, 1) := by decide +kernel
theorem dL_append_19 : decode cL_append 19 = .ok (.ireturn, 1) := by decide +kernel
theorem dL_load_0 : decode cL_load 0 = .ok (.aload_n 2, 1) := by decide +kernel
theorem dL_load_1 : decode cL_load 1 = .ok (.iconst 0, 1) := by decide +kernel
theorem dL_load_2 : decode cL_load 2 = .ok (.aload_n 0, 1) := by decide +kernel
theorem dL_load_3 : decode cL_load 3 = .ok (.iload_n 1, 1) := by decide +kernel
theorem dL_load_4 : decode cL_load 4 = .ok (.invokevirtual 27, 3) := by decide +kernel
theorem dL_load_7 : decode cL_load 7 = .ok (.i2l, 1) := by decide +kernel
theorem dL_load_8 : decode cL_load 8 = .ok (.lastore, 1) := by decide +kernel
theorem dL_load_9 : decode cL_load 9 = .ok (.goto 9, 3) := by decide +kernel
theorem dL_load_12 : decode cL_load 12 = .ok (.astore_n 3, 1) := by decide +kernel
theorem dL_load_13 : decode cL_load 13 = .ok (.iconst 1, 1) := by decide +kernel
theorem dL_load_14 : decode cL_load 14 = .ok (.ireturn, 1) := by decide +kernel
theorem dL_load_15 : decode cL_load 15 = .ok (.astore_n 3, 1) := by decide +kernel
theorem dL_load_16 : decode cL_load 16 = .ok (.iconst 2, 1) := by decide +kernel
theorem dL_load_17 : decode cL_load 17 = .ok (.ireturn, 1) := by decide +kernel
theorem dL_load_18 : decode cL_load 18 = .ok (.iconst 0, 1) := by decide +kernel
theorem dL_load_19 : decode cL_load 19 = .ok (.ireturn, 1) := by decide +kernel
theorem dL_again_0 : decode cL_again 0 = .ok (.aload_n 2, 1) := by decide +kernel
theorem dL_again_1 : decode cL_again 1 = .ok (.iconst 0, 1) := by decide +kernel
theorem dL_again_2 : decode cL_again 2 = .ok (.aload_n 0, 1) := by decide +kernel
theorem dL_again_3 : decode cL_again 3 = .ok (.iload_n 1, 1) := by decide +kernel
theorem dL_again_4 : decode cL_again 4 = .ok (.invokevirtual 32, 3) := by decide +kernel
theorem dL_again_7 : decode cL_again 7 = .ok (.i2l, 1) := by decide +kernel
theorem dL_again_8 : decode cL_again 8 = .ok (.lastore, 1) := by decide +kernel
theorem dL_again_9 : decode cL_again 9 = .ok (.goto 9, 3) := by decide +kernel
theorem dL_again_12 : decode cL_again 12 = .ok (.astore_n 3, 1) := by decide +kernel
theorem dL_again_13 : decode cL_again 13 = .ok (.iconst 1, 1) := by decide +kernel
theorem dL_again_14 : decode cL_again 14 = .ok (.ireturn, 1) := by decide +kernel
theorem dL_again_15 : decode cL_again 15 = .ok (.astore_n 3, 1) := by decide +kernel
theorem dL_again_16 : decode cL_again 16 = .ok (.iconst 2, 1) := by decide +kernel
theorem dL_again_17 : decode cL_again 17 = .ok (.ireturn, 1) := by decide +kernel
theorem dL_again_18 : decode cL_again 18 = .ok (.iconst 0, 1) := by decide +kernel
theorem dL_again_19 : decode cL_again 19 = .ok (.ireturn, 1) := by decide +kernel
theorem dL_step_0 : decode cL_step 0 = .ok (.aload_n 2, 1) := by decide +kernel
theorem dL_step_1 : decode cL_step 1 = .ok (.iconst 0, 1) := by decide +kernel
theorem dL_step_2 : decode cL_step 2 = .ok (.aload_n 0, 1) := by decide +kernel
theorem dL_step_3 : decode cL_step 3 = .ok (.iload_n 1, 1) := by decide +kernel
theorem dL_step_4 : decode cL_step 4 = .ok (.invokevirtual 35, 3) := by decide +kernel
theorem dL_step_7 : decode cL_step 7 = .ok (.i2l, 1) := by decide +kernel
theorem dL_step_8 : decode cL_step 8 = .ok (.lastore, 1) := by decide +kernel
theorem dL_step_9 : decode cL_step 9 = .ok (.goto 9, 3) := by decide +kernel
theorem dL_step_12 : decode cL_step 12 = .ok (.astore_n 3, 1) := by decide +kernel
theorem dL_step_13 : decode cL_step 13 = .ok (.iconst 1, 1) := by decide +kernel
theorem dL_step_14 : decode cL_step 14 = .ok (.ireturn, 1) := by decide +kernel
theorem dL_step_15 : decode cL_step 15 = .ok (.astore_n 3, 1) := by decide +kernel
theorem dL_step_16 : decode cL_step 16 = .ok (.iconst 2, 1) := by decide +kernel
theorem dL_step_17 : decode cL_step 17 = .ok (.ireturn, 1) := by decide +kernel
theorem dL_step_18 : decode cL_step 18 = .ok (.iconst 0, 1) := by decide +kernel
theorem dL_step_19 : decode cL_step 19 = .ok (.ireturn, 1) := by decide +kernel
theorem dL_run_0 : decode cL_run 0 = .ok (.aload_n 2, 1) := by decide +kernel
theorem dL_run_1 : decode cL_run 1 = .ok (.iconst 0, 1) := by decide +kernel
theorem dL_run_2 : decode cL_run 2 = .ok (.aload_n 0, 1) := by decide +kernel
theorem dL_run_3 : decode cL_run 3 = .ok (.iload_n 1, 1) := by decide +kernel
theorem dL_run_4 : decode cL_run 4 = .ok (.invokevirtual 38, 3) := by decide +kernel
theorem dL_run_7 : decode cL_run 7 = .ok (.i2l, 1) := by decide +kernel
theorem dL_run_8 : decode cL_run 8 = .ok (.lastore, 1) := by decide +kernel
theorem dL_run_9 : decode cL_run 9 = .ok (.goto 6, 3) := by decide +kernel
theorem dL_run_12 : decode cL_run 12 = .ok (.astore_n 3, 1) := by decide +kernel
theorem dL_run_13 : decode cL_run 13 = .ok (.iconst 1, 1) := by decide +kernel
theorem dL_run_14 : decode cL_run 14 = .ok (.ireturn, 1) := by decide +kernel
theorem dL_run_15 : decode cL_run 15 = .ok (.iconst 0, 1) := by decide +kernel
theorem dL_run_16 : decode cL_run 16 = .ok (.ireturn, 1) := by decide +kernel
theorem dL_poke_0 : decode cL_poke 0 = .ok (.aload_n 3, 1) := by decide +kernel
theorem dL_poke_1 : decode cL_poke 1 = .ok (.iconst 0, 1) := by decide +kernel
theorem dL_poke_2 : decode cL_poke 2 = .ok (.aload_n 0, 1) := by decide +kernel
theorem dL_poke_3 : decode cL_poke 3 = .ok (.iload_n 1, 1) := by decide +kernel
theorem dL_poke_4 : decode cL_poke 4 = .ok (.iload_n 2, 1) := by decide +kernel
theorem dL_poke_5 : decode cL_poke 5 = .ok (.invokevirtual 41, 3) := by decide +kernel
theorem dL_poke_8 : decode cL_poke 8 = .ok (.i2l, 1) := by decide +kernel
theorem dL_poke_9 : decode cL_poke 9 = .ok (.lastore, 1) := by decide +kernel
theorem dL_poke_10 : decode cL_poke 10 = .ok (.goto 7, 3) := by decide +kernel
theorem dL_poke_13 : decode cL_poke 13 = .ok (.astore 4, 2) := by decide +kernel
theorem dL_poke_15 : decode cL_poke 15 = .ok (.iconst 1, 1) := by decide +kernel
theorem dL_poke_16 : decode cL_poke 16 = .ok (.ireturn, 1) := by decide +kernel
theorem dL_poke_17 : decode cL_poke 17 = .ok (.iconst 0, 1) := by decide +kernel
theorem dL_poke_18 : decode cL_poke 18 = .ok (.ireturn, 1) := by decide +kernel
theorem dL_state_0 : decode cL_state 0 = .ok (.aload_n 3, 1) := by decide +kernel
theorem dL_state_1 : decode cL_state 1 = .ok (.iconst 0, 1) := by decide +kernel
theorem dL_state_2 : decode cL_state 2 = .ok (.aload_n 0, 1) := by decide +kernel
theorem dL_state_3 : decode cL_state 3 = .ok (.iload_n 1, 1) := by decide +kernel
theorem dL_state_4 : decode cL_state 4 = .ok (.iload_n 2, 1) := by decide +kernel
theorem dL_state_5 : decode cL_state 5 = .ok (.invokevirtual 45, 3) := by decide +kernel
theorem dL_state_8 : decode cL_state 8 = .ok (.i2l, 1) := by decide +kernel
theorem dL_state_9 : decode cL_state 9 = .ok (.lastore, 1) := by decide +kernel
theorem dL_state_10 : decode cL_state 10 = .ok (.goto 7, 3) := by decide +kernel
theorem dL_state_13 : decode cL_state 13 = .ok (.astore 4, 2) := by decide +kernel
theorem dL_state_15 : decode cL_state 15 = .ok (.iconst 1, 1) := by decide +kernel
theorem dL_state_16 : decode cL_state 16 = .ok (.ireturn, 1) := by decide +kernel
theorem dL_state_17 : decode cL_state 17 = .ok (.iconst 0, 1) := by decide +kernel
theorem dL_state_18 : decode cL_state 18 = .ok (.ireturn, 1) := by decide +kernel
theorem dL_cached_0 : decode cL_cached 0 = .ok (.aload_n 3, 1) := by decide +kernel
theorem dL_cached_1 : decode cL_cached 1 = .ok (.iconst 0, 1) := by decide +kernel
theorem dL_cached_2 : decode cL_cached 2 = .ok (.aload_n 0, 1) := by decide +kernel
theorem dL_cached_3 : decode cL_cached 3 = .ok (.iload_n 1, 1) := by decide +kernel
theorem dL_cached_4 : decode cL_cached 4 = .ok (.iload_n 2, 1) := by decide +kernel
theorem dL_cached_5 : decode cL_cached 5 = .ok (.invokevirtual 48, 3) := by decide +kernel
theorem dL_cached_8 : decode cL_cached 8 = .ok (.i2l, 1) := by decide +kernel
theorem dL_cached_9 : decode cL_cached 9 = .ok (.lastore, 1) := by decide +kernel
theorem dL_cached_10 : decode cL_cached 10 = .ok (.goto 7, 3) := by decide +kernel
theorem dL_cached_13 : decode cL_cached 13 = .ok (.astore 4, 2) := by decide +kernel
theorem dL_cached_15 : decode cL_cached 15 = .ok (.iconst 1, 1) := by decide +kernel
theorem dL_cached_16 : decode cL_cached 16 = .ok (.ireturn, 1) := by decide +kernel
theorem dL_cached_17 : decode cL_cached 17 = .ok (.iconst 0, 1) := by decide +kernel
theorem dL_cached_18 : decode cL_cached 18 = .ok (.ireturn, 1) := by decide +kernel
theorem dL_memory_0 : decode cL_memory 0 = .ok (.aload_n 3, 1) := by decide +kernel
theorem dL_memory_1 : decode cL_memory 1 = .ok (.iconst 0, 1) := by decide +kernel
theorem dL_memory_2 : decode cL_memory 2 = .ok (.aload_n 0, 1) := by decide +kernel
theorem dL_memory_3 : decode cL_memory 3 = .ok (.iload_n 1, 1) := by decide +kernel
theorem dL_memory_4 : decode cL_memory 4 = .ok (.iload_n 2, 1) := by decide +kernel
theorem dL_memory_5 : decode cL_memory 5 = .ok (.invokevirtual 51, 3) := by decide +kernel
theorem dL_memory_8 : decode cL_memory 8 = .ok (.i2l, 1) := by decide +kernel
theorem dL_memory_9 : decode cL_memory 9 = .ok (.lastore, 1) := by decide +kernel
theorem dL_memory_10 : decode cL_memory 10 = .ok (.goto 7, 3) := by decide +kernel
theorem dL_memory_13 : decode cL_memory 13 = .ok (.astore 4, 2) := by decide +kernel
theorem dL_memory_15 : decode cL_memory 15 = .ok (.iconst 1, 1) := by decide +kernel
theorem dL_memory_16 : decode cL_memory 16 = .ok (.ireturn, 1) := by decide +kernel
theorem dL_memory_17 : decode cL_memory 17 = .ok (.iconst 0, 1) := by decide +kernel
theorem dL_memory_18 : decode cL_memory 18 = .ok (.ireturn, 1) := by decide +kernel
theorem dL_set_0 : decode cL_set 0 = .ok (.aload_n 3, 1) := by decide +kernel
theorem dL_set_1 : decode cL_set 1 = .ok (.iconst 0, 1) := by decide +kernel
theorem dL_set_2 : decode cL_set 2 = .ok (.aload_n 0, 1) := by decide +kernel
theorem dL_set_3 : decode cL_set 3 = .ok (.iload_n 1, 1) := by decide +kernel
theorem dL_set_4 : decode cL_set 4 = .ok (.iload_n 2, 1) := by decide +kernel
theorem dL_set_5 : decode cL_set 5 = .ok (.invokevirtual 55, 3) := by decide +kernel
theorem dL_set_8 : decode cL_set 8 = .ok (.i2l, 1) := by decide +kernel
theorem dL_set_9 : decode cL_set 9 = .ok (.lastore, 1) := by decide +kernel
theorem dL_set_10 : decode cL_set 10 = .ok (.goto 7, 3) := by decide +kernel
theorem dL_set_13 : decode cL_set 13 = .ok (.astore 4, 2) := by decide +kernel
theorem dL_set_15 : decode cL_set 15 = .ok (.iconst 1, 1) := by decide +kernel
theorem dL_set_16 : decode cL_set 16 = .ok (.ireturn, 1) := by decide +kernel
theorem dL_set_17 : decode cL_set 17 = .ok (.iconst 0, 1) := by decide +kernel
theorem dL_set_18 : decode cL_set 18 = .ok (.ireturn, 1) := by decide +kernel
theorem dL_core_0 : decode cL_core 0 = .ok (.aload_n 3, 1) := by decide +kernel
theorem dL_core_1 : decode cL_core 1 = .ok (.iconst 0, 1) := by decide +kernel
theorem dL_core_2 : decode cL_core 2 = .ok (.aload_n 0, 1) := by decide +kernel
theorem dL_core_3 : decode cL_core 3 = .ok (.iload_n 1, 1) := by decide +kernel
theorem dL_core_4 : decode cL_core 4 = .ok (.iload_n 2, 1) := by decide +kernel
theorem dL_core_5 : decode cL_core 5 = .ok (.invokevirtual 58, 3) := by decide +kernel
theorem dL_core_8 : decode cL_core 8 = .ok (.i2l, 1) := by decide +kernel
theorem dL_core_9 : decode cL_core 9 = .ok (.lastore, 1) := by decide +kernel
theorem dL_core_10 : decode cL_core 10 = .ok (.goto 11, 3) := by decide +kernel
theorem dL_core_13 : decode cL_core 13 = .ok (.astore 4, 2) := by decide +kernel
theorem dL_core_15 : decode cL_core 15 = .ok (.iconst 1, 1) := by decide +kernel
theorem dL_core_16 : decode cL_core 16 = .ok (.ireturn, 1) := by decide +kernel
theorem dL_core_17 : decode cL_core 17 = .ok (.astore 4, 2) := by decide +kernel
theorem dL_core_19 : decode cL_core 19 = .ok (.iconst 2, 1) := by decide +kernel
theorem dL_core_20 : decode cL_core 20 = .ok (.ireturn, 1) := by decide +kernel
theorem dL_core_21 : decode cL_core 21 = .ok (.iconst 0, 1) := by decide +kernel
theorem dL_core_22 : decode cL_core 22 = .ok (.ireturn, 1) := by decide +kernel
theorem dL_value_0 : decode cL_value 0 = .ok (.aload_n 2, 1) := by decide +kernel
theorem dL_value_1 : decode cL_value 1 = .ok (.iconst 0, 1) := by decide +kernel
theorem dL_value_2 : decode cL_value 2 = .ok (.aload_n 0, 1) := by decide +kernel
theorem dL_value_3 : decode cL_value 3 = .ok (.iload_n 1, 1) := by decide +kernel
theorem dL_value_4 : decode cL_value 4 = .ok (.invokevirtual 61, 3) := by decide +kernel
theorem dL_value_7 : decode cL_value 7 = .ok (.i2l, 1) := by decide +kernel
theorem dL_value_8 : decode cL_value 8 = .ok (.lastore, 1) := by decide +kernel
theorem dL_value_9 : decode cL_value 9 = .ok (.goto 6, 3) := by decide +kernel
theorem dL_value_12 : decode cL_value 12 = .ok (.astore_n 3, 1) := by decide +kernel
theorem dL_value_13 : decode cL_value 13 = .ok (.iconst 1, 1) := by decide +kernel
theorem dL_value_14 : decode cL_value 14 = .ok (.ireturn, 1) := by decide +kernel
theorem dL_value_15 : decode cL_value 15 = .ok (.iconst 0, 1) := by decide +kernel
theorem dL_value_16 : decode cL_value 16 = .ok (.ireturn, 1) := by decide +kernel
theorem dL_counter_0 : decode cL_counter 0 = .ok (.aload_n 2, 1) := by decide +kernel
theorem dL_counter_1 : decode cL_counter 1 = .ok (.iconst 0, 1) := by decide +kernel
theorem dL_counter_2 : decode cL_counter 2 = .ok (.aload_n 0, 1) := by decide +kernel
theorem dL_counter_3 : decode cL_counter 3 = .ok (.iload_n 1, 1) := by decide +kernel
theorem dL_counter_4 : decode cL_counter 4 = .ok (.invokevirtual 64, 3) := by decide +kernel
theorem dL_counter_7 : decode cL_counter 7 = .ok (.i2l, 1) := by decide +kernel
theorem dL_counter_8 : decode cL_counter 8 = .ok (.lastore, 1) := by decide +kernel
theorem dL_counter_9 : decode cL_counter 9 = .ok (.goto 6, 3) := by decide +kernel
theorem dL_counter_12 : decode cL_counter 12 = .ok (.astore_n 3, 1) := by decide +kernel
theorem dL_counter_13 : decode cL_counter 13 = .ok (.iconst 1, 1) := by decide +kernel
theorem dL_counter_14 : decode cL_counter 14 = .ok (.ireturn, 1) := by decide +kernel
theorem dL_counter_15 : decode cL_counter 15 = .ok (.iconst 0, 1) := by decide +kernel
theorem dL_counter_16 : decode cL_counter 16 = .ok (.ireturn, 1) := by decide +kernel
theorem dL_commit_0 : decode cL_commit 0 = .ok (.aload_n 3, 1) := by decide +kernel
theorem dL_commit_1 : decode cL_commit 1 = .ok (.iconst 0, 1) := by decide +kernel
theorem dL_commit_2 : decode cL_commit 2 = .ok (.aload_n 0, 1) := by decide +kernel
theorem dL_commit_3 : decode cL_commit 3 = .ok (.iload_n 1, 1) := by decide +kernel
theorem dL_commit_4 : decode cL_commit 4 = .ok (.iload_n 2, 1) := by decide +kernel
theorem dL_commit_5 : decode cL_commit 5 = .ok (.invokevirtual 67, 3) := by decide +kernel
theorem dL_commit_8 : decode cL_commit 8 = .ok (.i2l, 1) := by decide +kernel
theorem dL_commit_9 : decode cL_commit 9 = .ok (.lastore, 1) := by decide +kernel
theorem dL_commit_10 : decode cL_commit 10 = .ok (.goto 11, 3) := by decide +kernel
theorem dL_commit_13 : decode cL_commit 13 = .ok (.astore 4, 2) := by decide +kernel
theorem dL_commit_15 : decode cL_commit 15 = .ok (.iconst 1, 1) := by decide +kernel
theorem dL_commit_16 : decode cL_commit 16 = .ok (.ireturn, 1) := by decide +kernel
theorem dL_commit_17 : decode cL_commit 17 = .ok (.astore 4, 2) := by decide +kernel
theorem dL_commit_19 : decode cL_commit 19 = .ok (.iconst 2, 1) := by decide +kernel
theorem dL_commit_20 : decode cL_commit 20 = .ok (.ireturn, 1) := by decide +kernel
theorem dL_commit_21 : decode cL_commit 21 = .ok (.iconst 0, 1) := by decide +kernel
theorem dL_commit_22 : decode cL_commit 22 = .ok (.ireturn, 1) := by decide +kernel
theorem dL_commitValue_0 : decode cL_commitValue 0 = .ok (.aload 4, 2) := by decide +kernel
theorem dL_commitValue_2 : decode cL_commitValue 2 = .ok (.iconst 0, 1) := by decide +kernel
theorem dL_commitValue_3 : decode cL_commitValue 3 = .ok (.aload_n 0, 1) := by decide +kernel
theorem dL_commitValue_4 : decode cL_commitValue 4 = .ok (.iload_n 1, 1) := by decide +kernel
theorem dL_commitValue_5 : decode cL_commitValue 5 = .ok (.iload_n 2, 1) := by decide +kernel
theorem dL_commitValue_6 : decode cL_commitValue 6 = .ok (.iload_n 3, 1) := by decide +kernel
theorem dL_commitValue_7 : decode cL_commitValue 7 = .ok (.invokevirtual 70, 3) := by decide +kernel
theorem dL_commitValue_10 : decode cL_commitValue 10 = .ok (.i2l, 1) := by decide +kernel
theorem dL_commitValue_11 : decode cL_commitValue 11 = .ok (.lastore, 1) := by decide +kernel
theorem dL_commitValue_12 : decode cL_commitValue 12 = .ok (.goto 7, 3) := by decide +kernel
theorem dL_commitValue_15 : decode cL_commitValue 15 = .ok (.astore 5, 2) := by decide +kernel
theorem dL_commitValue_17 : decode cL_commitValue 17 = .ok (.iconst 1, 1) := by decide +kernel
theorem dL_commitValue_18 : decode cL_commitValue 18 = .ok (.ireturn, 1) := by decide +kernel
theorem dL_commitValue_19 : decode cL_commitValue 19 = .ok (.iconst 0, 1) := by decide +kernel
theorem dL_commitValue_20 : decode cL_commitValue 20 = .ok (.ireturn, 1) := by decide +kernel
theorem dL_finish_0 : decode cL_finish 0 = .ok (.aload_n 2, 1) := by decide +kernel
theorem dL_finish_1 : decode cL_finish 1 = .ok (.iconst 0, 1) := by decide +kernel
theorem dL_finish_2 : decode cL_finish 2 = .ok (.aload_n 0, 1) := by decide +kernel
theorem dL_finish_3 : decode cL_finish 3 = .ok (.iload_n 1, 1) := by decide +kernel
theorem dL_finish_4 : decode cL_finish 4 = .ok (.invokevirtual 74, 3) := by decide +kernel
theorem dL_finish_7 : decode cL_finish 7 = .ok (.i2l, 1) := by decide +kernel
theorem dL_finish_8 : decode cL_finish 8 = .ok (.lastore, 1) := by decide +kernel
theorem dL_finish_9 : decode cL_finish 9 = .ok (.goto 6, 3) := by decide +kernel
theorem dL_finish_12 : decode cL_finish 12 = .ok (.astore_n 3, 1) := by decide +kernel
theorem dL_finish_13 : decode cL_finish 13 = .ok (.iconst 1, 1) := by decide +kernel
theorem dL_finish_14 : decode cL_finish 14 = .ok (.ireturn, 1) := by decide +kernel
theorem dL_finish_15 : decode cL_finish 15 = .ok (.iconst 0, 1) := by decide +kernel
theorem dL_finish_16 : decode cL_finish 16 = .ok (.ireturn, 1) := by decide +kernel
theorem dL_abortsWith_0 : decode cL_abortsWith 0 = .ok (.aload_n 3, 1) := by decide +kernel
theorem dL_abortsWith_1 : decode cL_abortsWith 1 = .ok (.iconst 0, 1) := by decide +kernel
theorem dL_abortsWith_2 : decode cL_abortsWith 2 = .ok (.aload_n 0, 1) := by decide +kernel
theorem dL_abortsWith_3 : decode cL_abortsWith 3 = .ok (.iload_n 1, 1) := by decide +kernel
theorem dL_abortsWith_4 : decode cL_abortsWith 4 = .ok (.iload_n 2, 1) := by decide +kernel
theorem dL_abortsWith_5 : decode cL_abortsWith 5 = .ok (.invokevirtual 77, 3) := by decide +kernel
theorem dL_abortsWith_8 : decode cL_abortsWith 8 = .ok (.i2l, 1) := by decide +kernel
theorem dL_abortsWith_9 : decode cL_abortsWith 9 = .ok (.lastore, 1) := by decide +kernel
theorem dL_abortsWith_10 : decode cL_abortsWith 10 = .ok (.goto 7, 3) := by decide +kernel
theorem dL_abortsWith_13 : decode cL_abortsWith 13 = .ok (.astore 4, 2) := by decide +kernel
theorem dL_abortsWith_15 : decode cL_abortsWith 15 = .ok (.iconst 1, 1) := by decide +kernel
theorem dL_abortsWith_16 : decode cL_abortsWith 16 = .ok (.ireturn, 1) := by decide +kernel
theorem dL_abortsWith_17 : decode cL_abortsWith 17 = .ok (.iconst 0, 1) := by decide +kernel
theorem dL_abortsWith_18 : decode cL_abortsWith 18 = .ok (.ireturn, 1) := by decide +kernel
theorem dL_undo_0 : decode cL_undo 0 = .ok (.aload_n 1, 1) := by decide +kernel
theorem dL_undo_1 : decode cL_undo 1 = .ok (.iconst 0, 1) := by decide +kernel
theorem dL_undo_2 : decode cL_undo 2 = .ok (.aload_n 0, 1) := by decide +kernel
theorem dL_undo_3 : decode cL_undo 3 = .ok (.invokevirtual 80, 3) := by decide +kernel
theorem dL_undo_6 : decode cL_undo 6 = .ok (.i2l, 1) := by decide +kernel
theorem dL_undo_7 : decode cL_undo 7 = .ok (.lastore, 1) := by decide +kernel
theorem dL_undo_8 : decode cL_undo 8 = .ok (.goto 6, 3) := by decide +kernel
theorem dL_undo_11 : decode cL_undo 11 = .ok (.astore_n 2, 1) := by decide +kernel
theorem dL_undo_12 : decode cL_undo 12 = .ok (.iconst 1, 1) := by decide +kernel
theorem dL_undo_13 : decode cL_undo 13 = .ok (.ireturn, 1) := by decide +kernel
theorem dL_undo_14 : decode cL_undo 14 = .ok (.iconst 0, 1) := by decide +kernel
theorem dL_undo_15 : decode cL_undo 15 = .ok (.ireturn, 1) := by decide +kernel
theorem dL_law_0 : decode cL_law 0 = .ok (.new 8, 3) := by decide +kernel
theorem dL_law_3 : decode cL_law 3 = .ok (.dup, 1) := by decide +kernel
theorem dL_law_4 : decode cL_law 4 = .ok (.invokespecial 84, 3) := by decide +kernel
theorem dL_law_7 : decode cL_law 7 = .ok (.astore_n 1, 1) := by decide +kernel
theorem dL_law_8 : decode cL_law 8 = .ok (.new 85, 3) := by decide +kernel
theorem dL_law_11 : decode cL_law 11 = .ok (.dup, 1) := by decide +kernel
theorem dL_law_12 : decode cL_law 12 = .ok (.invokespecial 87, 3) := by decide +kernel
theorem dL_law_15 : decode cL_law 15 = .ok (.astore_n 2, 1) := by decide +kernel
theorem dL_law_16 : decode cL_law 16 = .ok (.iconst 1, 1) := by decide +kernel
theorem dL_law_17 : decode cL_law 17 = .ok (.newarray .long, 2) := by decide +kernel
theorem dL_law_19 : decode cL_law 19 = .ok (.astore_n 3, 1) := by decide +kernel
theorem dL_law_20 : decode cL_law 20 = .ok (.iconst 0, 1) := by decide +kernel
theorem dL_law_21 : decode cL_law 21 = .ok (.istore 4, 2) := by decide +kernel
theorem dL_law_23 : decode cL_law 23 = .ok (.iload 4, 2) := by decide +kernel
theorem dL_law_25 : decode cL_law 25 = .ok (.aload_n 0, 1) := by decide +kernel
theorem dL_law_26 : decode cL_law 26 = .ok (.arraylength, 1) := by decide +kernel
theorem dL_law_27 : decode cL_law 27 = .ok (.iconst 4, 1) := by decide +kernel
theorem dL_law_28 : decode cL_law 28 = .ok (.isub, 1) := by decide +kernel
theorem dL_law_29 : decode cL_law 29 = .ok (.if_icmp .gt 1555, 3) := by decide +kernel
theorem dL_law_32 : decode cL_law 32 = .ok (.aload_n 0, 1) := by decide +kernel
theorem dL_law_33 : decode cL_law 33 = .ok (.iload 4, 2) := by decide +kernel
theorem dL_law_35 : decode cL_law 35 = .ok (.iaload, 1) := by decide +kernel
theorem dL_law_36 : decode cL_law 36 = .ok (.bipush 31, 2) := by decide +kernel
theorem dL_law_38 : decode cL_law 38 = .ok (.iand, 1) := by decide +kernel
theorem dL_law_39 : decode cL_law 39 = .ok (.tableswitch 1539 0 25 #[117, 197, 253, 309, 365, 378, 434, 490, 546, 602, 670, 738, 806, 890, 974, 1042, 1098, 1154, 1167, 1235, 1331, 1344, 1400, 1468, 1481, 1525], 117) := by decide +kernel
theorem dL_law_156 : decode cL_law 156 = .ok (.aload_n 1, 1) := by decide +kernel
theorem dL_law_157 : decode cL_law 157 = .ok (.aload_n 0, 1) := by decide +kernel
theorem dL_law_158 : decode cL_law 158 = .ok (.iload 4, 2) := by decide +kernel
theorem dL_law_160 : decode cL_law 160 = .ok (.iconst 1, 1) := by decide +kernel
theorem dL_law_161 : decode cL_law 161 = .ok (.iadd, 1) := by decide +kernel
theorem dL_law_162 : decode cL_law 162 = .ok (.iaload, 1) := by decide +kernel
theorem dL_law_163 : decode cL_law 163 = .ok (.aload_n 0, 1) := by decide +kernel
theorem dL_law_164 : decode cL_law 164 = .ok (.iload 4, 2) := by decide +kernel
theorem dL_law_166 : decode cL_law 166 = .ok (.iconst 2, 1) := by decide +kernel
theorem dL_law_167 : decode cL_law 167 = .ok (.iadd, 1) := by decide +kernel
theorem dL_law_168 : decode cL_law 168 = .ok (.iaload, 1) := by decide +kernel
theorem dL_law_169 : decode cL_law 169 = .ok (.aload_n 0, 1) := by decide +kernel
theorem dL_law_170 : decode cL_law 170 = .ok (.iload 4, 2) := by decide +kernel
theorem dL_law_172 : decode cL_law 172 = .ok (.iconst 3, 1) := by decide +kernel
theorem dL_law_173 : decode cL_law 173 = .ok (.iadd, 1) := by decide +kernel
theorem dL_law_174 : decode cL_law 174 = .ok (.iaload, 1) := by decide +kernel
theorem dL_law_175 : decode cL_law 175 = .ok (.aload_n 3, 1) := by decide +kernel
theorem dL_law_176 : decode cL_law 176 = .ok (.invokestatic 88, 3) := by decide +kernel
theorem dL_law_179 : decode cL_law 179 = .ok (.istore 5, 2) := by decide +kernel
theorem dL_law_181 : decode cL_law 181 = .ok (.aload_n 2, 1) := by decide +kernel
theorem dL_law_182 : decode cL_law 182 = .ok (.aload_n 0, 1) := by decide +kernel
theorem dL_law_183 : decode cL_law 183 = .ok (.iload 4, 2) := by decide +kernel
theorem dL_law_185 : decode cL_law 185 = .ok (.iconst 1, 1) := by decide +kernel
theorem dL_law_186 : decode cL_law 186 = .ok (.iadd, 1) := by decide +kernel
theorem dL_law_187 : decode cL_law 187 = .ok (.iaload, 1) := by decide +kernel
theorem dL_law_188 : decode cL_law 188 = .ok (.aload_n 0, 1) := by decide +kernel
theorem dL_law_189 : decode cL_law 189 = .ok (.iload 4, 2) := by decide +kernel
theorem dL_law_191 : decode cL_law 191 = .ok (.iconst 2, 1) := by decide +kernel
theorem dL_law_192 : decode cL_law 192 = .ok (.iadd, 1) := by decide +kernel
theorem dL_law_193 : decode cL_law 193 = .ok (.iaload, 1) := by decide +kernel
theorem dL_law_194 : decode cL_law 194 = .ok (.aload_n 0, 1) := by decide +kernel
theorem dL_law_195 : decode cL_law 195 = .ok (.iload 4, 2) := by decide +kernel
theorem dL_law_197 : decode cL_law 197 = .ok (.iconst 3, 1) := by decide +kernel
theorem dL_law_198 : decode cL_law 198 = .ok (.iadd, 1) := by decide +kernel
theorem dL_law_199 : decode cL_law 199 = .ok (.iaload, 1) := by decide +kernel
theorem dL_law_200 : decode cL_law 200 = .ok (.invokevirtual 93, 3) := by decide +kernel
theorem dL_law_203 : decode cL_law 203 = .ok (.istore 6, 2) := by decide +kernel
theorem dL_law_205 : decode cL_law 205 = .ok (.aload_n 2, 1) := by decide +kernel
theorem dL_law_206 : decode cL_law 206 = .ok (.invokevirtual 94, 3) := by decide +kernel
theorem dL_law_209 : decode cL_law 209 = .ok (.iload 5, 2) := by decide +kernel
theorem dL_law_211 : decode cL_law 211 = .ok (.if_icmp .eq 5, 3) := by decide +kernel
theorem dL_law_214 : decode cL_law 214 = .ok (.iconst 0, 1) := by decide +kernel
theorem dL_law_215 : decode cL_law 215 = .ok (.ireturn, 1) := by decide +kernel
theorem dL_law_216 : decode cL_law 216 = .ok (.iload 5, 2) := by decide +kernel
theorem dL_law_218 : decode cL_law 218 = .ok (.ifCond .ne 15, 3) := by decide +kernel
theorem dL_law_221 : decode cL_law 221 = .ok (.aload_n 3, 1) := by decide +kernel
theorem dL_law_222 : decode cL_law 222 = .ok (.iconst 0, 1) := by decide +kernel
theorem dL_law_223 : decode cL_law 223 = .ok (.laload, 1) := by decide +kernel
theorem dL_law_224 : decode cL_law 224 = .ok (.iload 6, 2) := by decide +kernel
theorem dL_law_226 : decode cL_law 226 = .ok (.i2l, 1) := by decide +kernel
theorem dL_law_227 : decode cL_law 227 = .ok (.lcmp, 1) := by decide +kernel
theorem dL_law_228 : decode cL_law 228 = .ok (.ifCond .eq 5, 3) := by decide +kernel
theorem dL_law_231 : decode cL_law 231 = .ok (.iconst 0, 1) := by decide +kernel
theorem dL_law_232 : decode cL_law 232 = .ok (.ireturn, 1) := by decide +kernel
theorem dL_law_233 : decode cL_law 233 = .ok (.goto 1345, 3) := by decide +kernel
theorem dL_law_236 : decode cL_law 236 = .ok (.aload_n 1, 1) := by decide +kernel
theorem dL_law_237 : decode cL_law 237 = .ok (.aload_n 0, 1) := by decide +kernel
theorem dL_law_238 : decode cL_law 238 = .ok (.iload 4, 2) := by decide +kernel
theorem dL_law_240 : decode cL_law 240 = .ok (.iconst 1, 1) := by decide +kernel
theorem dL_law_241 : decode cL_law 241 = .ok (.iadd, 1) := by decide +kernel
theorem dL_law_242 : decode cL_law 242 = .ok (.iaload, 1) := by decide +kernel
theorem dL_law_243 : decode cL_law 243 = .ok (.aload_n 3, 1) := by decide +kernel
theorem dL_law_244 : decode cL_law 244 = .ok (.invokestatic 97, 3) := by decide +kernel
theorem dL_law_247 : decode cL_law 247 = .ok (.istore 5, 2) := by decide +kernel
theorem dL_law_249 : decode cL_law 249 = .ok (.aload_n 2, 1) := by decide +kernel
theorem dL_law_250 : decode cL_law 250 = .ok (.aload_n 0, 1) := by decide +kernel
theorem dL_law_251 : decode cL_law 251 = .ok (.iload 4, 2) := by decide +kernel
theorem dL_law_253 : decode cL_law 253 = .ok (.iconst 1, 1) := by decide +kernel
theorem dL_law_254 : decode cL_law 254 = .ok (.iadd, 1) := by decide +kernel
theorem dL_law_255 : decode cL_law 255 = .ok (.iaload, 1) := by decide +kernel
theorem dL_law_256 : decode cL_law 256 = .ok (.invokevirtual 100, 3) := by decide +kernel
theorem dL_law_259 : decode cL_law 259 = .ok (.istore 6, 2) := by decide +kernel
theorem dL_law_261 : decode cL_law 261 = .ok (.aload_n 2, 1) := by decide +kernel
theorem dL_law_262 : decode cL_law 262 = .ok (.invokevirtual 94, 3) := by decide +kernel
theorem dL_law_265 : decode cL_law 265 = .ok (.iload 5, 2) := by decide +kernel
theorem dL_law_267 : decode cL_law 267 = .ok (.if_icmp .eq 5, 3) := by decide +kernel
theorem dL_law_270 : decode cL_law 270 = .ok (.iconst 0, 1) := by decide +kernel
theorem dL_law_271 : decode cL_law 271 = .ok (.ireturn, 1) := by decide +kernel
theorem dL_law_272 : decode cL_law 272 = .ok (.iload 5, 2) := by decide +kernel
theorem dL_law_274 : decode cL_law 274 = .ok (.ifCond .ne 15, 3) := by decide +kernel
theorem dL_law_277 : decode cL_law 277 = .ok (.aload_n 3, 1) := by decide +kernel
theorem dL_law_278 : decode cL_law 278 = .ok (.iconst 0, 1) := by decide +kernel
theorem dL_law_279 : decode cL_law 279 = .ok (.laload, 1) := by decide +kernel
theorem dL_law_280 : decode cL_law 280 = .ok (.iload 6, 2) := by decide +kernel
theorem dL_law_282 : decode cL_law 282 = .ok (.i2l, 1) := by decide +kernel
theorem dL_law_283 : decode cL_law 283 = .ok (.lcmp, 1) := by decide +kernel
theorem dL_law_284 : decode cL_law 284 = .ok (.ifCond .eq 5, 3) := by decide +kernel
theorem dL_law_287 : decode cL_law 287 = .ok (.iconst 0, 1) := by decide +kernel
theorem dL_law_288 : decode cL_law 288 = .ok (.ireturn, 1) := by decide +kernel
theorem dL_law_289 : decode cL_law 289 = .ok (.goto 1289, 3) := by decide +kernel
theorem dL_law_292 : decode cL_law 292 = .ok (.aload_n 1, 1) := by decide +kernel
theorem dL_law_293 : decode cL_law 293 = .ok (.aload_n 0, 1) := by decide +kernel
theorem dL_law_294 : decode cL_law 294 = .ok (.iload 4, 2) := by decide +kernel
theorem dL_law_296 : decode cL_law 296 = .ok (.iconst 1, 1) := by decide +kernel
theorem dL_law_297 : decode cL_law 297 = .ok (.iadd, 1) := by decide +kernel
theorem dL_law_298 : decode cL_law 298 = .ok (.iaload, 1) := by decide +kernel
theorem dL_law_299 : decode cL_law 299 = .ok (.aload_n 3, 1) := by decide +kernel
theorem dL_law_300 : decode cL_law 300 = .ok (.invokestatic 101, 3) := by decide +kernel
theorem dL_law_303 : decode cL_law 303 = .ok (.istore 5, 2) := by decide +kernel
theorem dL_law_305 : decode cL_law 305 = .ok (.aload_n 2, 1) := by decide +kernel
theorem dL_law_306 : decode cL_law 306 = .ok (.aload_n 0, 1) := by decide +kernel
theorem dL_law_307 : decode cL_law 307 = .ok (.iload 4, 2) := by decide +kernel
theorem dL_law_309 : decode cL_law 309 = .ok (.iconst 1, 1) := by decide +kernel
theorem dL_law_310 : decode cL_law 310 = .ok (.iadd, 1) := by decide +kernel
theorem dL_law_311 : decode cL_law 311 = .ok (.iaload, 1) := by decide +kernel
theorem dL_law_312 : decode cL_law 312 = .ok (.invokevirtual 103, 3) := by decide +kernel
theorem dL_law_315 : decode cL_law 315 = .ok (.istore 6, 2) := by decide +kernel
theorem dL_law_317 : decode cL_law 317 = .ok (.aload_n 2, 1) := by decide +kernel
theorem dL_law_318 : decode cL_law 318 = .ok (.invokevirtual 94, 3) := by decide +kernel
theorem dL_law_321 : decode cL_law 321 = .ok (.iload 5, 2) := by decide +kernel
theorem dL_law_323 : decode cL_law 323 = .ok (.if_icmp .eq 5, 3) := by decide +kernel
theorem dL_law_326 : decode cL_law 326 = .ok (.iconst 0, 1) := by decide +kernel
theorem dL_law_327 : decode cL_law 327 = .ok (.ireturn, 1) := by decide +kernel
theorem dL_law_328 : decode cL_law 328 = .ok (.iload 5, 2) := by decide +kernel
theorem dL_law_330 : decode cL_law 330 = .ok (.ifCond .ne 15, 3) := by decide +kernel
theorem dL_law_333 : decode cL_law 333 = .ok (.aload_n 3, 1) := by decide +kernel
theorem dL_law_334 : decode cL_law 334 = .ok (.iconst 0, 1) := by decide +kernel
theorem dL_law_335 : decode cL_law 335 = .ok (.laload, 1) := by decide +kernel
theorem dL_law_336 : decode cL_law 336 = .ok (.iload 6, 2) := by decide +kernel
theorem dL_law_338 : decode cL_law 338 = .ok (.i2l, 1) := by decide +kernel
theorem dL_law_339 : decode cL_law 339 = .ok (.lcmp, 1) := by decide +kernel
theorem dL_law_340 : decode cL_law 340 = .ok (.ifCond .eq 5, 3) := by decide +kernel
theorem dL_law_343 : decode cL_law 343 = .ok (.iconst 0, 1) := by decide +kernel
theorem dL_law_344 : decode cL_law 344 = .ok (.ireturn, 1) := by decide +kernel
theorem dL_law_345 : decode cL_law 345 = .ok (.goto 1233, 3) := by decide +kernel
theorem dL_law_348 : decode cL_law 348 = .ok (.aload_n 1, 1) := by decide +kernel
theorem dL_law_349 : decode cL_law 349 = .ok (.aload_n 0, 1) := by decide +kernel
theorem dL_law_350 : decode cL_law 350 = .ok (.iload 4, 2) := by decide +kernel
theorem dL_law_352 : decode cL_law 352 = .ok (.iconst 1, 1) := by decide +kernel
theorem dL_law_353 : decode cL_law 353 = .ok (.iadd, 1) := by decide +kernel
theorem dL_law_354 : decode cL_law 354 = .ok (.iaload, 1) := by decide +kernel
theorem dL_law_355 : decode cL_law 355 = .ok (.aload_n 3, 1) := by decide +kernel
theorem dL_law_356 : decode cL_law 356 = .ok (.invokestatic 104, 3) := by decide +kernel
theorem dL_law_359 : decode cL_law 359 = .ok (.istore 5, 2) := by decide +kernel
theorem dL_law_361 : decode cL_law 361 = .ok (.aload_n 2, 1) := by decide +kernel
theorem dL_law_362 : decode cL_law 362 = .ok (.aload_n 0, 1) := by decide +kernel
theorem dL_law_363 : decode cL_law 363 = .ok (.iload 4, 2) := by decide +kernel
theorem dL_law_365 : decode cL_law 365 = .ok (.iconst 1, 1) := by decide +kernel
theorem dL_law_366 : decode cL_law 366 = .ok (.iadd, 1) := by decide +kernel
theorem dL_law_367 : decode cL_law 367 = .ok (.iaload, 1) := by decide +kernel
theorem dL_law_368 : decode cL_law 368 = .ok (.invokevirtual 106, 3) := by decide +kernel
theorem dL_law_371 : decode cL_law 371 = .ok (.istore 6, 2) := by decide +kernel
theorem dL_law_373 : decode cL_law 373 = .ok (.aload_n 2, 1) := by decide +kernel
theorem dL_law_374 : decode cL_law 374 = .ok (.invokevirtual 94, 3) := by decide +kernel
theorem dL_law_377 : decode cL_law 377 = .ok (.iload 5, 2) := by decide +kernel
theorem dL_law_379 : decode cL_law 379 = .ok (.if_icmp .eq 5, 3) := by decide +kernel
theorem dL_law_382 : decode cL_law 382 = .ok (.iconst 0, 1) := by decide +kernel
theorem dL_law_383 : decode cL_law 383 = .ok (.ireturn, 1) := by decide +kernel
theorem dL_law_384 : decode cL_law 384 = .ok (.iload 5, 2) := by decide +kernel
theorem dL_law_386 : decode cL_law 386 = .ok (.ifCond .ne 15, 3) := by decide +kernel
theorem dL_law_389 : decode cL_law 389 = .ok (.aload_n 3, 1) := by decide +kernel
theorem dL_law_390 : decode cL_law 390 = .ok (.iconst 0, 1) := by decide +kernel
theorem dL_law_391 : decode cL_law 391 = .ok (.laload, 1) := by decide +kernel
theorem dL_law_392 : decode cL_law 392 = .ok (.iload 6, 2) := by decide +kernel
theorem dL_law_394 : decode cL_law 394 = .ok (.i2l, 1) := by decide +kernel
theorem dL_law_395 : decode cL_law 395 = .ok (.lcmp, 1) := by decide +kernel
theorem dL_law_396 : decode cL_law 396 = .ok (.ifCond .eq 5, 3) := by decide +kernel
theorem dL_law_399 : decode cL_law 399 = .ok (.iconst 0, 1) := by decide +kernel
theorem dL_law_400 : decode cL_law 400 = .ok (.ireturn, 1) := by decide +kernel
theorem dL_law_401 : decode cL_law 401 = .ok (.goto 1177, 3) := by decide +kernel
theorem dL_law_404 : decode cL_law 404 = .ok (.aload_n 1, 1) := by decide +kernel
theorem dL_law_405 : decode cL_law 405 = .ok (.invokevirtual 107, 3) := by decide +kernel
theorem dL_law_408 : decode cL_law 408 = .ok (.aload_n 2, 1) := by decide +kernel
theorem dL_law_409 : decode cL_law 409 = .ok (.invokevirtual 110, 3) := by decide +kernel
theorem dL_law_412 : decode cL_law 412 = .ok (.if_icmp .eq 1166, 3) := by decide +kernel
theorem dL_law_415 : decode cL_law 415 = .ok (.iconst 0, 1) := by decide +kernel
theorem dL_law_416 : decode cL_law 416 = .ok (.ireturn, 1) := by decide +kernel
theorem dL_law_417 : decode cL_law 417 = .ok (.aload_n 1, 1) := by decide +kernel
theorem dL_law_418 : decode cL_law 418 = .ok (.aload_n 0, 1) := by decide +kernel
theorem dL_law_419 : decode cL_law 419 = .ok (.iload 4, 2) := by decide +kernel
theorem dL_law_421 : decode cL_law 421 = .ok (.iconst 1, 1) := by decide +kernel
theorem dL_law_422 : decode cL_law 422 = .ok (.iadd, 1) := by decide +kernel
theorem dL_law_423 : decode cL_law 423 = .ok (.iaload, 1) := by decide +kernel
theorem dL_law_424 : decode cL_law 424 = .ok (.aload_n 3, 1) := by decide +kernel
theorem dL_law_425 : decode cL_law 425 = .ok (.invokestatic 111, 3) := by decide +kernel
theorem dL_law_428 : decode cL_law 428 = .ok (.istore 5, 2) := by decide +kernel
theorem dL_law_430 : decode cL_law 430 = .ok (.aload_n 2, 1) := by decide +kernel
theorem dL_law_431 : decode cL_law 431 = .ok (.aload_n 0, 1) := by decide +kernel
theorem dL_law_432 : decode cL_law 432 = .ok (.iload 4, 2) := by decide +kernel
theorem dL_law_434 : decode cL_law 434 = .ok (.iconst 1, 1) := by decide +kernel
theorem dL_law_435 : decode cL_law 435 = .ok (.iadd, 1) := by decide +kernel
theorem dL_law_436 : decode cL_law 436 = .ok (.iaload, 1) := by decide +kernel
theorem dL_law_437 : decode cL_law 437 = .ok (.invokevirtual 113, 3) := by decide +kernel
theorem dL_law_440 : decode cL_law 440 = .ok (.istore 6, 2) := by decide +kernel
theorem dL_law_442 : decode cL_law 442 = .ok (.aload_n 2, 1) := by decide +kernel
theorem dL_law_443 : decode cL_law 443 = .ok (.invokevirtual 94, 3) := by decide +kernel
theorem dL_law_446 : decode cL_law 446 = .ok (.iload 5, 2) := by decide +kernel
theorem dL_law_448 : decode cL_law 448 = .ok (.if_icmp .eq 5, 3) := by decide +kernel
theorem dL_law_451 : decode cL_law 451 = .ok (.iconst 0, 1) := by decide +kernel
theorem dL_law_452 : decode cL_law 452 = .ok (.ireturn, 1) := by decide +kernel
theorem dL_law_453 : decode cL_law 453 = .ok (.iload 5, 2) := by decide +kernel
theorem dL_law_455 : decode cL_law 455 = .ok (.ifCond .ne 15, 3) := by decide +kernel
theorem dL_law_458 : decode cL_law 458 = .ok (.aload_n 3, 1) := by decide +kernel
theorem dL_law_459 : decode cL_law 459 = .ok (.iconst 0, 1) := by decide +kernel
theorem dL_law_460 : decode cL_law 460 = .ok (.laload, 1) := by decide +kernel
theorem dL_law_461 : decode cL_law 461 = .ok (.iload 6, 2) := by decide +kernel
theorem dL_law_463 : decode cL_law 463 = .ok (.i2l, 1) := by decide +kernel
theorem dL_law_464 : decode cL_law 464 = .ok (.lcmp, 1) := by decide +kernel
theorem dL_law_465 : decode cL_law 465 = .ok (.ifCond .eq 5, 3) := by decide +kernel
theorem dL_law_468 : decode cL_law 468 = .ok (.iconst 0, 1) := by decide +kernel
theorem dL_law_469 : decode cL_law 469 = .ok (.ireturn, 1) := by decide +kernel
theorem dL_law_470 : decode cL_law 470 = .ok (.goto 1108, 3) := by decide +kernel
theorem dL_law_473 : decode cL_law 473 = .ok (.aload_n 1, 1) := by decide +kernel
theorem dL_law_474 : decode cL_law 474 = .ok (.aload_n 0, 1) := by decide +kernel
theorem dL_law_475 : decode cL_law 475 = .ok (.iload 4, 2) := by decide +kernel
theorem dL_law_477 : decode cL_law 477 = .ok (.iconst 1, 1) := by decide +kernel
theorem dL_law_478 : decode cL_law 478 = .ok (.iadd, 1) := by decide +kernel
theorem dL_law_479 : decode cL_law 479 = .ok (.iaload, 1) := by decide +kernel
theorem dL_law_480 : decode cL_law 480 = .ok (.aload_n 3, 1) := by decide +kernel
theorem dL_law_481 : decode cL_law 481 = .ok (.invokestatic 114, 3) := by decide +kernel
theorem dL_law_484 : decode cL_law 484 = .ok (.istore 5, 2) := by decide +kernel
theorem dL_law_486 : decode cL_law 486 = .ok (.aload_n 2, 1) := by decide +kernel
theorem dL_law_487 : decode cL_law 487 = .ok (.aload_n 0, 1) := by decide +kernel
theorem dL_law_488 : decode cL_law 488 = .ok (.iload 4, 2) := by decide +kernel
theorem dL_law_490 : decode cL_law 490 = .ok (.iconst 1, 1) := by decide +kernel
theorem dL_law_491 : decode cL_law 491 = .ok (.iadd, 1) := by decide +kernel
theorem dL_law_492 : decode cL_law 492 = .ok (.iaload, 1) := by decide +kernel
theorem dL_law_493 : decode cL_law 493 = .ok (.invokevirtual 116, 3) := by decide +kernel
theorem dL_law_496 : decode cL_law 496 = .ok (.istore 6, 2) := by decide +kernel
theorem dL_law_498 : decode cL_law 498 = .ok (.aload_n 2, 1) := by decide +kernel
theorem dL_law_499 : decode cL_law 499 = .ok (.invokevirtual 94, 3) := by decide +kernel
theorem dL_law_502 : decode cL_law 502 = .ok (.iload 5, 2) := by decide +kernel
theorem dL_law_504 : decode cL_law 504 = .ok (.if_icmp .eq 5, 3) := by decide +kernel
theorem dL_law_507 : decode cL_law 507 = .ok (.iconst 0, 1) := by decide +kernel
theorem dL_law_508 : decode cL_law 508 = .ok (.ireturn, 1) := by decide +kernel
theorem dL_law_509 : decode cL_law 509 = .ok (.iload 5, 2) := by decide +kernel
theorem dL_law_511 : decode cL_law 511 = .ok (.ifCond .ne 15, 3) := by decide +kernel
theorem dL_law_514 : decode cL_law 514 = .ok (.aload_n 3, 1) := by decide +kernel
theorem dL_law_515 : decode cL_law 515 = .ok (.iconst 0, 1) := by decide +kernel
theorem dL_law_516 : decode cL_law 516 = .ok (.laload, 1) := by decide +kernel
theorem dL_law_517 : decode cL_law 517 = .ok (.iload 6, 2) := by decide +kernel
theorem dL_law_519 : decode cL_law 519 = .ok (.i2l, 1) := by decide +kernel
theorem dL_law_520 : decode cL_law 520 = .ok (.lcmp, 1) := by decide +kernel
theorem dL_law_521 : decode cL_law 521 = .ok (.ifCond .eq 5, 3) := by decide +kernel
theorem dL_law_524 : decode cL_law 524 = .ok (.iconst 0, 1) := by decide +kernel
theorem dL_law_525 : decode cL_law 525 = .ok (.ireturn, 1) := by decide +kernel
theorem dL_law_526 : decode cL_law 526 = .ok (.goto 1052, 3) := by decide +kernel
theorem dL_law_529 : decode cL_law 529 = .ok (.aload_n 1, 1) := by decide +kernel
theorem dL_law_530 : decode cL_law 530 = .ok (.aload_n 0, 1) := by decide +kernel
theorem dL_law_531 : decode cL_law 531 = .ok (.iload 4, 2) := by decide +kernel
theorem dL_law_533 : decode cL_law 533 = .ok (.iconst 1, 1) := by decide +kernel
theorem dL_law_534 : decode cL_law 534 = .ok (.iadd, 1) := by decide +kernel
theorem dL_law_535 : decode cL_law 535 = .ok (.iaload, 1) := by decide +kernel
theorem dL_law_536 : decode cL_law 536 = .ok (.aload_n 3, 1) := by decide +kernel
theorem dL_law_537 : decode cL_law 537 = .ok (.invokestatic 117, 3) := by decide +kernel
theorem dL_law_540 : decode cL_law 540 = .ok (.istore 5, 2) := by decide +kernel
theorem dL_law_542 : decode cL_law 542 = .ok (.aload_n 2, 1) := by decide +kernel
theorem dL_law_543 : decode cL_law 543 = .ok (.aload_n 0, 1) := by decide +kernel
theorem dL_law_544 : decode cL_law 544 = .ok (.iload 4, 2) := by decide +kernel
theorem dL_law_546 : decode cL_law 546 = .ok (.iconst 1, 1) := by decide +kernel
theorem dL_law_547 : decode cL_law 547 = .ok (.iadd, 1) := by decide +kernel
theorem dL_law_548 : decode cL_law 548 = .ok (.iaload, 1) := by decide +kernel
theorem dL_law_549 : decode cL_law 549 = .ok (.invokevirtual 119, 3) := by decide +kernel
theorem dL_law_552 : decode cL_law 552 = .ok (.istore 6, 2) := by decide +kernel
theorem dL_law_554 : decode cL_law 554 = .ok (.aload_n 2, 1) := by decide +kernel
theorem dL_law_555 : decode cL_law 555 = .ok (.invokevirtual 94, 3) := by decide +kernel
theorem dL_law_558 : decode cL_law 558 = .ok (.iload 5, 2) := by decide +kernel
theorem dL_law_560 : decode cL_law 560 = .ok (.if_icmp .eq 5, 3) := by decide +kernel
theorem dL_law_563 : decode cL_law 563 = .ok (.iconst 0, 1) := by decide +kernel
theorem dL_law_564 : decode cL_law 564 = .ok (.ireturn, 1) := by decide +kernel
theorem dL_law_565 : decode cL_law 565 = .ok (.iload 5, 2) := by decide +kernel
theorem dL_law_567 : decode cL_law 567 = .ok (.ifCond .ne 15, 3) := by decide +kernel
theorem dL_law_570 : decode cL_law 570 = .ok (.aload_n 3, 1) := by decide +kernel
theorem dL_law_571 : decode cL_law 571 = .ok (.iconst 0, 1) := by decide +kernel
theorem dL_law_572 : decode cL_law 572 = .ok (.laload, 1) := by decide +kernel
theorem dL_law_573 : decode cL_law 573 = .ok (.iload 6, 2) := by decide +kernel
theorem dL_law_575 : decode cL_law 575 = .ok (.i2l, 1) := by decide +kernel
theorem dL_law_576 : decode cL_law 576 = .ok (.lcmp, 1) := by decide +kernel
theorem dL_law_577 : decode cL_law 577 = .ok (.ifCond .eq 5, 3) := by decide +kernel
theorem dL_law_580 : decode cL_law 580 = .ok (.iconst 0, 1) := by decide +kernel
theorem dL_law_581 : decode cL_law 581 = .ok (.ireturn, 1) := by decide +kernel
theorem dL_law_582 : decode cL_law 582 = .ok (.goto 996, 3) := by decide +kernel
theorem dL_law_585 : decode cL_law 585 = .ok (.aload_n 1, 1) := by decide +kernel
theorem dL_law_586 : decode cL_law 586 = .ok (.aload_n 0, 1) := by decide +kernel
theorem dL_law_587 : decode cL_law 587 = .ok (.iload 4, 2) := by decide +kernel
theorem dL_law_589 : decode cL_law 589 = .ok (.iconst 1, 1) := by decide +kernel
theorem dL_law_590 : decode cL_law 590 = .ok (.iadd, 1) := by decide +kernel
theorem dL_law_591 : decode cL_law 591 = .ok (.iaload, 1) := by decide +kernel
theorem dL_law_592 : decode cL_law 592 = .ok (.aload_n 3, 1) := by decide +kernel
theorem dL_law_593 : decode cL_law 593 = .ok (.invokestatic 120, 3) := by decide +kernel
theorem dL_law_596 : decode cL_law 596 = .ok (.istore 5, 2) := by decide +kernel
theorem dL_law_598 : decode cL_law 598 = .ok (.aload_n 2, 1) := by decide +kernel
theorem dL_law_599 : decode cL_law 599 = .ok (.aload_n 0, 1) := by decide +kernel
theorem dL_law_600 : decode cL_law 600 = .ok (.iload 4, 2) := by decide +kernel
theorem dL_law_602 : decode cL_law 602 = .ok (.iconst 1, 1) := by decide +kernel
theorem dL_law_603 : decode cL_law 603 = .ok (.iadd, 1) := by decide +kernel
theorem dL_law_604 : decode cL_law 604 = .ok (.iaload, 1) := by decide +kernel
theorem dL_law_605 : decode cL_law 605 = .ok (.invokevirtual 122, 3) := by decide +kernel
theorem dL_law_608 : decode cL_law 608 = .ok (.istore 6, 2) := by decide +kernel
theorem dL_law_610 : decode cL_law 610 = .ok (.aload_n 2, 1) := by decide +kernel
theorem dL_law_611 : decode cL_law 611 = .ok (.invokevirtual 94, 3) := by decide +kernel
theorem dL_law_614 : decode cL_law 614 = .ok (.iload 5, 2) := by decide +kernel
theorem dL_law_616 : decode cL_law 616 = .ok (.if_icmp .eq 5, 3) := by decide +kernel
theorem dL_law_619 : decode cL_law 619 = .ok (.iconst 0, 1) := by decide +kernel
theorem dL_law_620 : decode cL_law 620 = .ok (.ireturn, 1) := by decide +kernel
theorem dL_law_621 : decode cL_law 621 = .ok (.iload 5, 2) := by decide +kernel
theorem dL_law_623 : decode cL_law 623 = .ok (.ifCond .ne 15, 3) := by decide +kernel
theorem dL_law_626 : decode cL_law 626 = .ok (.aload_n 3, 1) := by decide +kernel
theorem dL_law_627 : decode cL_law 627 = .ok (.iconst 0, 1) := by decide +kernel
theorem dL_law_628 : decode cL_law 628 = .ok (.laload, 1) := by decide +kernel
theorem dL_law_629 : decode cL_law 629 = .ok (.iload 6, 2) := by decide +kernel
theorem dL_law_631 : decode cL_law 631 = .ok (.i2l, 1) := by decide +kernel
theorem dL_law_632 : decode cL_law 632 = .ok (.lcmp, 1) := by decide +kernel
theorem dL_law_633 : decode cL_law 633 = .ok (.ifCond .eq 5, 3) := by decide +kernel
theorem dL_law_636 : decode cL_law 636 = .ok (.iconst 0, 1) := by decide +kernel
theorem dL_law_637 : decode cL_law 637 = .ok (.ireturn, 1) := by decide +kernel
theorem dL_law_638 : decode cL_law 638 = .ok (.goto 940, 3) := by decide +kernel
theorem dL_law_641 : decode cL_law 641 = .ok (.aload_n 1, 1) := by decide +kernel
theorem dL_law_642 : decode cL_law 642 = .ok (.aload_n 0, 1) := by decide +kernel
theorem dL_law_643 : decode cL_law 643 = .ok (.iload 4, 2) := by decide +kernel
theorem dL_law_645 : decode cL_law 645 = .ok (.iconst 1, 1) := by decide +kernel
theorem dL_law_646 : decode cL_law 646 = .ok (.iadd, 1) := by decide +kernel
theorem dL_law_647 : decode cL_law 647 = .ok (.iaload, 1) := by decide +kernel
theorem dL_law_648 : decode cL_law 648 = .ok (.aload_n 0, 1) := by decide +kernel
theorem dL_law_649 : decode cL_law 649 = .ok (.iload 4, 2) := by decide +kernel
theorem dL_law_651 : decode cL_law 651 = .ok (.iconst 2, 1) := by decide +kernel
theorem dL_law_652 : decode cL_law 652 = .ok (.iadd, 1) := by decide +kernel
theorem dL_law_653 : decode cL_law 653 = .ok (.iaload, 1) := by decide +kernel
theorem dL_law_654 : decode cL_law 654 = .ok (.aload_n 3, 1) := by decide +kernel
theorem dL_law_655 : decode cL_law 655 = .ok (.invokestatic 123, 3) := by decide +kernel
theorem dL_law_658 : decode cL_law 658 = .ok (.istore 5, 2) := by decide +kernel
theorem dL_law_660 : decode cL_law 660 = .ok (.aload_n 2, 1) := by decide +kernel
theorem dL_law_661 : decode cL_law 661 = .ok (.aload_n 0, 1) := by decide +kernel
theorem dL_law_662 : decode cL_law 662 = .ok (.iload 4, 2) := by decide +kernel
theorem dL_law_664 : decode cL_law 664 = .ok (.iconst 1, 1) := by decide +kernel
theorem dL_law_665 : decode cL_law 665 = .ok (.iadd, 1) := by decide +kernel
theorem dL_law_666 : decode cL_law 666 = .ok (.iaload, 1) := by decide +kernel
theorem dL_law_667 : decode cL_law 667 = .ok (.aload_n 0, 1) := by decide +kernel
theorem dL_law_668 : decode cL_law 668 = .ok (.iload 4, 2) := by decide +kernel
theorem dL_law_670 : decode cL_law 670 = .ok (.iconst 2, 1) := by decide +kernel
theorem dL_law_671 : decode cL_law 671 = .ok (.iadd, 1) := by decide +kernel
theorem dL_law_672 : decode cL_law 672 = .ok (.iaload, 1) := by decide +kernel
theorem dL_law_673 : decode cL_law 673 = .ok (.invokevirtual 126, 3) := by decide +kernel
theorem dL_law_676 : decode cL_law 676 = .ok (.istore 6, 2) := by decide +kernel
theorem dL_law_678 : decode cL_law 678 = .ok (.aload_n 2, 1) := by decide +kernel
theorem dL_law_679 : decode cL_law 679 = .ok (.invokevirtual 94, 3) := by decide +kernel
theorem dL_law_682 : decode cL_law 682 = .ok (.iload 5, 2) := by decide +kernel
theorem dL_law_684 : decode cL_law 684 = .ok (.if_icmp .eq 5, 3) := by decide +kernel
theorem dL_law_687 : decode cL_law 687 = .ok (.iconst 0, 1) := by decide +kernel
theorem dL_law_688 : decode cL_law 688 = .ok (.ireturn, 1) := by decide +kernel
theorem dL_law_689 : decode cL_law 689 = .ok (.iload 5, 2) := by decide +kernel
theorem dL_law_691 : decode cL_law 691 = .ok (.ifCond .ne 15, 3) := by decide +kernel
theorem dL_law_694 : decode cL_law 694 = .ok (.aload_n 3, 1) := by decide +kernel
theorem dL_law_695 : decode cL_law 695 = .ok (.iconst 0, 1) := by decide +kernel
theorem dL_law_696 : decode cL_law 696 = .ok (.laload, 1) := by decide +kernel
theorem dL_law_697 : decode cL_law 697 = .ok (.iload 6, 2) := by decide +kernel
theorem dL_law_699 : decode cL_law 699 = .ok (.i2l, 1) := by decide +kernel
theorem dL_law_700 : decode cL_law 700 = .ok (.lcmp, 1) := by decide +kernel
theorem dL_law_701 : decode cL_law 701 = .ok (.ifCond .eq 5, 3) := by decide +kernel
theorem dL_law_704 : decode cL_law 704 = .ok (.iconst 0, 1) := by decide +kernel
theorem dL_law_705 : decode cL_law 705 = .ok (.ireturn, 1) := by decide +kernel
theorem dL_law_706 : decode cL_law 706 = .ok (.goto 872, 3) := by decide +kernel
theorem dL_law_709 : decode cL_law 709 = .ok (.aload_n 1, 1) := by decide +kernel
theorem dL_law_710 : decode cL_law 710 = .ok (.aload_n 0, 1) := by decide +kernel
theorem dL_law_711 : decode cL_law 711 = .ok (.iload 4, 2) := by decide +kernel
theorem dL_law_713 : decode cL_law 713 = .ok (.iconst 1, 1) := by decide +kernel
theorem dL_law_714 : decode cL_law 714 = .ok (.iadd, 1) := by decide +kernel
theorem dL_law_715 : decode cL_law 715 = .ok (.iaload, 1) := by decide +kernel
theorem dL_law_716 : decode cL_law 716 = .ok (.aload_n 0, 1) := by decide +kernel
theorem dL_law_717 : decode cL_law 717 = .ok (.iload 4, 2) := by decide +kernel
theorem dL_law_719 : decode cL_law 719 = .ok (.iconst 2, 1) := by decide +kernel
theorem dL_law_720 : decode cL_law 720 = .ok (.iadd, 1) := by decide +kernel
theorem dL_law_721 : decode cL_law 721 = .ok (.iaload, 1) := by decide +kernel
theorem dL_law_722 : decode cL_law 722 = .ok (.aload_n 3, 1) := by decide +kernel
theorem dL_law_723 : decode cL_law 723 = .ok (.invokestatic 127, 3) := by decide +kernel
theorem dL_law_726 : decode cL_law 726 = .ok (.istore 5, 2) := by decide +kernel
theorem dL_law_728 : decode cL_law 728 = .ok (.aload_n 2, 1) := by decide +kernel
theorem dL_law_729 : decode cL_law 729 = .ok (.aload_n 0, 1) := by decide +kernel
theorem dL_law_730 : decode cL_law 730 = .ok (.iload 4, 2) := by decide +kernel
theorem dL_law_732 : decode cL_law 732 = .ok (.iconst 1, 1) := by decide +kernel
theorem dL_law_733 : decode cL_law 733 = .ok (.iadd, 1) := by decide +kernel
theorem dL_law_734 : decode cL_law 734 = .ok (.iaload, 1) := by decide +kernel
theorem dL_law_735 : decode cL_law 735 = .ok (.aload_n 0, 1) := by decide +kernel
theorem dL_law_736 : decode cL_law 736 = .ok (.iload 4, 2) := by decide +kernel
theorem dL_law_738 : decode cL_law 738 = .ok (.iconst 2, 1) := by decide +kernel
theorem dL_law_739 : decode cL_law 739 = .ok (.iadd, 1) := by decide +kernel
theorem dL_law_740 : decode cL_law 740 = .ok (.iaload, 1) := by decide +kernel
theorem dL_law_741 : decode cL_law 741 = .ok (.invokevirtual 129, 3) := by decide +kernel
theorem dL_law_744 : decode cL_law 744 = .ok (.istore 6, 2) := by decide +kernel
theorem dL_law_746 : decode cL_law 746 = .ok (.aload_n 2, 1) := by decide +kernel
theorem dL_law_747 : decode cL_law 747 = .ok (.invokevirtual 94, 3) := by decide +kernel
theorem dL_law_750 : decode cL_law 750 = .ok (.iload 5, 2) := by decide +kernel
theorem dL_law_752 : decode cL_law 752 = .ok (.if_icmp .eq 5, 3) := by decide +kernel
theorem dL_law_755 : decode cL_law 755 = .ok (.iconst 0, 1) := by decide +kernel
theorem dL_law_756 : decode cL_law 756 = .ok (.ireturn, 1) := by decide +kernel
theorem dL_law_757 : decode cL_law 757 = .ok (.iload 5, 2) := by decide +kernel
theorem dL_law_759 : decode cL_law 759 = .ok (.ifCond .ne 15, 3) := by decide +kernel
theorem dL_law_762 : decode cL_law 762 = .ok (.aload_n 3, 1) := by decide +kernel
theorem dL_law_763 : decode cL_law 763 = .ok (.iconst 0, 1) := by decide +kernel
theorem dL_law_764 : decode cL_law 764 = .ok (.laload, 1) := by decide +kernel
theorem dL_law_765 : decode cL_law 765 = .ok (.iload 6, 2) := by decide +kernel
theorem dL_law_767 : decode cL_law 767 = .ok (.i2l, 1) := by decide +kernel
theorem dL_law_768 : decode cL_law 768 = .ok (.lcmp, 1) := by decide +kernel
theorem dL_law_769 : decode cL_law 769 = .ok (.ifCond .eq 5, 3) := by decide +kernel
theorem dL_law_772 : decode cL_law 772 = .ok (.iconst 0, 1) := by decide +kernel
theorem dL_law_773 : decode cL_law 773 = .ok (.ireturn, 1) := by decide +kernel
theorem dL_law_774 : decode cL_law 774 = .ok (.goto 804, 3) := by decide +kernel
theorem dL_law_777 : decode cL_law 777 = .ok (.aload_n 1, 1) := by decide +kernel
theorem dL_law_778 : decode cL_law 778 = .ok (.aload_n 0, 1) := by decide +kernel
theorem dL_law_779 : decode cL_law 779 = .ok (.iload 4, 2) := by decide +kernel
theorem dL_law_781 : decode cL_law 781 = .ok (.iconst 1, 1) := by decide +kernel
theorem dL_law_782 : decode cL_law 782 = .ok (.iadd, 1) := by decide +kernel
theorem dL_law_783 : decode cL_law 783 = .ok (.iaload, 1) := by decide +kernel
theorem dL_law_784 : decode cL_law 784 = .ok (.aload_n 0, 1) := by decide +kernel
theorem dL_law_785 : decode cL_law 785 = .ok (.iload 4, 2) := by decide +kernel
theorem dL_law_787 : decode cL_law 787 = .ok (.iconst 2, 1) := by decide +kernel
theorem dL_law_788 : decode cL_law 788 = .ok (.iadd, 1) := by decide +kernel
theorem dL_law_789 : decode cL_law 789 = .ok (.iaload, 1) := by decide +kernel
theorem dL_law_790 : decode cL_law 790 = .ok (.aload_n 3, 1) := by decide +kernel
theorem dL_law_791 : decode cL_law 791 = .ok (.invokestatic 130, 3) := by decide +kernel
theorem dL_law_794 : decode cL_law 794 = .ok (.istore 5, 2) := by decide +kernel
theorem dL_law_796 : decode cL_law 796 = .ok (.aload_n 2, 1) := by decide +kernel
theorem dL_law_797 : decode cL_law 797 = .ok (.aload_n 0, 1) := by decide +kernel
theorem dL_law_798 : decode cL_law 798 = .ok (.iload 4, 2) := by decide +kernel
theorem dL_law_800 : decode cL_law 800 = .ok (.iconst 1, 1) := by decide +kernel
theorem dL_law_801 : decode cL_law 801 = .ok (.iadd, 1) := by decide +kernel
theorem dL_law_802 : decode cL_law 802 = .ok (.iaload, 1) := by decide +kernel
theorem dL_law_803 : decode cL_law 803 = .ok (.aload_n 0, 1) := by decide +kernel
theorem dL_law_804 : decode cL_law 804 = .ok (.iload 4, 2) := by decide +kernel
theorem dL_law_806 : decode cL_law 806 = .ok (.iconst 2, 1) := by decide +kernel
theorem dL_law_807 : decode cL_law 807 = .ok (.iadd, 1) := by decide +kernel
theorem dL_law_808 : decode cL_law 808 = .ok (.iaload, 1) := by decide +kernel
theorem dL_law_809 : decode cL_law 809 = .ok (.invokevirtual 132, 3) := by decide +kernel
theorem dL_law_812 : decode cL_law 812 = .ok (.istore 6, 2) := by decide +kernel
theorem dL_law_814 : decode cL_law 814 = .ok (.aload_n 2, 1) := by decide +kernel
theorem dL_law_815 : decode cL_law 815 = .ok (.invokevirtual 94, 3) := by decide +kernel
theorem dL_law_818 : decode cL_law 818 = .ok (.iload 5, 2) := by decide +kernel
theorem dL_law_820 : decode cL_law 820 = .ok (.if_icmp .eq 5, 3) := by decide +kernel
theorem dL_law_823 : decode cL_law 823 = .ok (.iconst 0, 1) := by decide +kernel
theorem dL_law_824 : decode cL_law 824 = .ok (.ireturn, 1) := by decide +kernel
theorem dL_law_825 : decode cL_law 825 = .ok (.iload 5, 2) := by decide +kernel
theorem dL_law_827 : decode cL_law 827 = .ok (.ifCond .ne 15, 3) := by decide +kernel
theorem dL_law_830 : decode cL_law 830 = .ok (.aload_n 3, 1) := by decide +kernel
theorem dL_law_831 : decode cL_law 831 = .ok (.iconst 0, 1) := by decide +kernel
theorem dL_law_832 : decode cL_law 832 = .ok (.laload, 1) := by decide +kernel
theorem dL_law_833 : decode cL_law 833 = .ok (.iload 6, 2) := by decide +kernel
theorem dL_law_835 : decode cL_law 835 = .ok (.i2l, 1) := by decide +kernel
theorem dL_law_836 : decode cL_law 836 = .ok (.lcmp, 1) := by decide +kernel
theorem dL_law_837 : decode cL_law 837 = .ok (.ifCond .eq 5, 3) := by decide +kernel
theorem dL_law_840 : decode cL_law 840 = .ok (.iconst 0, 1) := by decide +kernel
theorem dL_law_841 : decode cL_law 841 = .ok (.ireturn, 1) := by decide +kernel
theorem dL_law_842 : decode cL_law 842 = .ok (.goto 736, 3) := by decide +kernel
theorem dL_law_845 : decode cL_law 845 = .ok (.aload_n 1, 1) := by decide +kernel
theorem dL_law_846 : decode cL_law 846 = .ok (.aload_n 0, 1) := by decide +kernel
theorem dL_law_847 : decode cL_law 847 = .ok (.iload 4, 2) := by decide +kernel
theorem dL_law_849 : decode cL_law 849 = .ok (.iconst 1, 1) := by decide +kernel
theorem dL_law_850 : decode cL_law 850 = .ok (.iadd, 1) := by decide +kernel
theorem dL_law_851 : decode cL_law 851 = .ok (.iaload, 1) := by decide +kernel
theorem dL_law_852 : decode cL_law 852 = .ok (.aload_n 0, 1) := by decide +kernel
theorem dL_law_853 : decode cL_law 853 = .ok (.iload 4, 2) := by decide +kernel
theorem dL_law_855 : decode cL_law 855 = .ok (.iconst 2, 1) := by decide +kernel
theorem dL_law_856 : decode cL_law 856 = .ok (.iadd, 1) := by decide +kernel
theorem dL_law_857 : decode cL_law 857 = .ok (.iaload, 1) := by decide +kernel
theorem dL_law_858 : decode cL_law 858 = .ok (.ifCond .eq 7, 3) := by decide +kernel
theorem dL_law_861 : decode cL_law 861 = .ok (.iconst 1, 1) := by decide +kernel
theorem dL_law_862 : decode cL_law 862 = .ok (.goto 4, 3) := by decide +kernel
theorem dL_law_865 : decode cL_law 865 = .ok (.iconst 0, 1) := by decide +kernel
theorem dL_law_866 : decode cL_law 866 = .ok (.aload_n 3, 1) := by decide +kernel
theorem dL_law_867 : decode cL_law 867 = .ok (.invokestatic 133, 3) := by decide +kernel
theorem dL_law_870 : decode cL_law 870 = .ok (.istore 5, 2) := by decide +kernel
theorem dL_law_872 : decode cL_law 872 = .ok (.aload_n 2, 1) := by decide +kernel
theorem dL_law_873 : decode cL_law 873 = .ok (.aload_n 0, 1) := by decide +kernel
theorem dL_law_874 : decode cL_law 874 = .ok (.iload 4, 2) := by decide +kernel
theorem dL_law_876 : decode cL_law 876 = .ok (.iconst 1, 1) := by decide +kernel
theorem dL_law_877 : decode cL_law 877 = .ok (.iadd, 1) := by decide +kernel
theorem dL_law_878 : decode cL_law 878 = .ok (.iaload, 1) := by decide +kernel
theorem dL_law_879 : decode cL_law 879 = .ok (.aload_n 0, 1) := by decide +kernel
theorem dL_law_880 : decode cL_law 880 = .ok (.iload 4, 2) := by decide +kernel
theorem dL_law_882 : decode cL_law 882 = .ok (.iconst 2, 1) := by decide +kernel
theorem dL_law_883 : decode cL_law 883 = .ok (.iadd, 1) := by decide +kernel
theorem dL_law_884 : decode cL_law 884 = .ok (.iaload, 1) := by decide +kernel
theorem dL_law_885 : decode cL_law 885 = .ok (.ifCond .eq 7, 3) := by decide +kernel
theorem dL_law_888 : decode cL_law 888 = .ok (.iconst 1, 1) := by decide +kernel
theorem dL_law_889 : decode cL_law 889 = .ok (.goto 4, 3) := by decide +kernel
theorem dL_law_892 : decode cL_law 892 = .ok (.iconst 0, 1) := by decide +kernel
theorem dL_law_893 : decode cL_law 893 = .ok (.invokevirtual 136, 3) := by decide +kernel
theorem dL_law_896 : decode cL_law 896 = .ok (.istore 6, 2) := by decide +kernel
theorem dL_law_898 : decode cL_law 898 = .ok (.aload_n 2, 1) := by decide +kernel
theorem dL_law_899 : decode cL_law 899 = .ok (.invokevirtual 94, 3) := by decide +kernel
theorem dL_law_902 : decode cL_law 902 = .ok (.iload 5, 2) := by decide +kernel
theorem dL_law_904 : decode cL_law 904 = .ok (.if_icmp .eq 5, 3) := by decide +kernel
theorem dL_law_907 : decode cL_law 907 = .ok (.iconst 0, 1) := by decide +kernel
theorem dL_law_908 : decode cL_law 908 = .ok (.ireturn, 1) := by decide +kernel
theorem dL_law_909 : decode cL_law 909 = .ok (.iload 5, 2) := by decide +kernel
theorem dL_law_911 : decode cL_law 911 = .ok (.ifCond .ne 15, 3) := by decide +kernel
theorem dL_law_914 : decode cL_law 914 = .ok (.aload_n 3, 1) := by decide +kernel
theorem dL_law_915 : decode cL_law 915 = .ok (.iconst 0, 1) := by decide +kernel
theorem dL_law_916 : decode cL_law 916 = .ok (.laload, 1) := by decide +kernel
theorem dL_law_917 : decode cL_law 917 = .ok (.iload 6, 2) := by decide +kernel
theorem dL_law_919 : decode cL_law 919 = .ok (.i2l, 1) := by decide +kernel
theorem dL_law_920 : decode cL_law 920 = .ok (.lcmp, 1) := by decide +kernel
theorem dL_law_921 : decode cL_law 921 = .ok (.ifCond .eq 5, 3) := by decide +kernel
theorem dL_law_924 : decode cL_law 924 = .ok (.iconst 0, 1) := by decide +kernel
theorem dL_law_925 : decode cL_law 925 = .ok (.ireturn, 1) := by decide +kernel
theorem dL_law_926 : decode cL_law 926 = .ok (.goto 652, 3) := by decide +kernel
theorem dL_law_929 : decode cL_law 929 = .ok (.aload_n 1, 1) := by decide +kernel
theorem dL_law_930 : decode cL_law 930 = .ok (.aload_n 0, 1) := by decide +kernel
theorem dL_law_931 : decode cL_law 931 = .ok (.iload 4, 2) := by decide +kernel
theorem dL_law_933 : decode cL_law 933 = .ok (.iconst 1, 1) := by decide +kernel
theorem dL_law_934 : decode cL_law 934 = .ok (.iadd, 1) := by decide +kernel
theorem dL_law_935 : decode cL_law 935 = .ok (.iaload, 1) := by decide +kernel
theorem dL_law_936 : decode cL_law 936 = .ok (.aload_n 0, 1) := by decide +kernel
theorem dL_law_937 : decode cL_law 937 = .ok (.iload 4, 2) := by decide +kernel
theorem dL_law_939 : decode cL_law 939 = .ok (.iconst 2, 1) := by decide +kernel
theorem dL_law_940 : decode cL_law 940 = .ok (.iadd, 1) := by decide +kernel
theorem dL_law_941 : decode cL_law 941 = .ok (.iaload, 1) := by decide +kernel
theorem dL_law_942 : decode cL_law 942 = .ok (.ifCond .eq 7, 3) := by decide +kernel
theorem dL_law_945 : decode cL_law 945 = .ok (.iconst 1, 1) := by decide +kernel
theorem dL_law_946 : decode cL_law 946 = .ok (.goto 4, 3) := by decide +kernel
theorem dL_law_949 : decode cL_law 949 = .ok (.iconst 0, 1) := by decide +kernel
theorem dL_law_950 : decode cL_law 950 = .ok (.aload_n 3, 1) := by decide +kernel
theorem dL_law_951 : decode cL_law 951 = .ok (.invokestatic 137, 3) := by decide +kernel
theorem dL_law_954 : decode cL_law 954 = .ok (.istore 5, 2) := by decide +kernel
theorem dL_law_956 : decode cL_law 956 = .ok (.aload_n 2, 1) := by decide +kernel
theorem dL_law_957 : decode cL_law 957 = .ok (.aload_n 0, 1) := by decide +kernel
theorem dL_law_958 : decode cL_law 958 = .ok (.iload 4, 2) := by decide +kernel
theorem dL_law_960 : decode cL_law 960 = .ok (.iconst 1, 1) := by decide +kernel
theorem dL_law_961 : decode cL_law 961 = .ok (.iadd, 1) := by decide +kernel
theorem dL_law_962 : decode cL_law 962 = .ok (.iaload, 1) := by decide +kernel
theorem dL_law_963 : decode cL_law 963 = .ok (.aload_n 0, 1) := by decide +kernel
theorem dL_law_964 : decode cL_law 964 = .ok (.iload 4, 2) := by decide +kernel
theorem dL_law_966 : decode cL_law 966 = .ok (.iconst 2, 1) := by decide +kernel
theorem dL_law_967 : decode cL_law 967 = .ok (.iadd, 1) := by decide +kernel
theorem dL_law_968 : decode cL_law 968 = .ok (.iaload, 1) := by decide +kernel
theorem dL_law_969 : decode cL_law 969 = .ok (.ifCond .eq 7, 3) := by decide +kernel
theorem dL_law_972 : decode cL_law 972 = .ok (.iconst 1, 1) := by decide +kernel
theorem dL_law_973 : decode cL_law 973 = .ok (.goto 4, 3) := by decide +kernel
theorem dL_law_976 : decode cL_law 976 = .ok (.iconst 0, 1) := by decide +kernel
theorem dL_law_977 : decode cL_law 977 = .ok (.invokevirtual 139, 3) := by decide +kernel
theorem dL_law_980 : decode cL_law 980 = .ok (.istore 6, 2) := by decide +kernel
theorem dL_law_982 : decode cL_law 982 = .ok (.aload_n 2, 1) := by decide +kernel
theorem dL_law_983 : decode cL_law 983 = .ok (.invokevirtual 94, 3) := by decide +kernel
theorem dL_law_986 : decode cL_law 986 = .ok (.iload 5, 2) := by decide +kernel
theorem dL_law_988 : decode cL_law 988 = .ok (.if_icmp .eq 5, 3) := by decide +kernel
theorem dL_law_991 : decode cL_law 991 = .ok (.iconst 0, 1) := by decide +kernel
theorem dL_law_992 : decode cL_law 992 = .ok (.ireturn, 1) := by decide +kernel
theorem dL_law_993 : decode cL_law 993 = .ok (.iload 5, 2) := by decide +kernel
theorem dL_law_995 : decode cL_law 995 = .ok (.ifCond .ne 15, 3) := by decide +kernel
theorem dL_law_998 : decode cL_law 998 = .ok (.aload_n 3, 1) := by decide +kernel
theorem dL_law_999 : decode cL_law 999 = .ok (.iconst 0, 1) := by decide +kernel
theorem dL_law_1000 : decode cL_law 1000 = .ok (.laload, 1) := by decide +kernel
theorem dL_law_1001 : decode cL_law 1001 = .ok (.iload 6, 2) := by decide +kernel
theorem dL_law_1003 : decode cL_law 1003 = .ok (.i2l, 1) := by decide +kernel
theorem dL_law_1004 : decode cL_law 1004 = .ok (.lcmp, 1) := by decide +kernel
theorem dL_law_1005 : decode cL_law 1005 = .ok (.ifCond .eq 5, 3) := by decide +kernel
theorem dL_law_1008 : decode cL_law 1008 = .ok (.iconst 0, 1) := by decide +kernel
theorem dL_law_1009 : decode cL_law 1009 = .ok (.ireturn, 1) := by decide +kernel
theorem dL_law_1010 : decode cL_law 1010 = .ok (.goto 568, 3) := by decide +kernel
theorem dL_law_1013 : decode cL_law 1013 = .ok (.aload_n 1, 1) := by decide +kernel
theorem dL_law_1014 : decode cL_law 1014 = .ok (.aload_n 0, 1) := by decide +kernel
theorem dL_law_1015 : decode cL_law 1015 = .ok (.iload 4, 2) := by decide +kernel
theorem dL_law_1017 : decode cL_law 1017 = .ok (.iconst 1, 1) := by decide +kernel
theorem dL_law_1018 : decode cL_law 1018 = .ok (.iadd, 1) := by decide +kernel
theorem dL_law_1019 : decode cL_law 1019 = .ok (.iaload, 1) := by decide +kernel
theorem dL_law_1020 : decode cL_law 1020 = .ok (.aload_n 0, 1) := by decide +kernel
theorem dL_law_1021 : decode cL_law 1021 = .ok (.iload 4, 2) := by decide +kernel
theorem dL_law_1023 : decode cL_law 1023 = .ok (.iconst 2, 1) := by decide +kernel
theorem dL_law_1024 : decode cL_law 1024 = .ok (.iadd, 1) := by decide +kernel
theorem dL_law_1025 : decode cL_law 1025 = .ok (.iaload, 1) := by decide +kernel
theorem dL_law_1026 : decode cL_law 1026 = .ok (.aload_n 3, 1) := by decide +kernel
theorem dL_law_1027 : decode cL_law 1027 = .ok (.invokestatic 140, 3) := by decide +kernel
theorem dL_law_1030 : decode cL_law 1030 = .ok (.istore 5, 2) := by decide +kernel
theorem dL_law_1032 : decode cL_law 1032 = .ok (.aload_n 2, 1) := by decide +kernel
theorem dL_law_1033 : decode cL_law 1033 = .ok (.aload_n 0, 1) := by decide +kernel
theorem dL_law_1034 : decode cL_law 1034 = .ok (.iload 4, 2) := by decide +kernel
theorem dL_law_1036 : decode cL_law 1036 = .ok (.iconst 1, 1) := by decide +kernel
theorem dL_law_1037 : decode cL_law 1037 = .ok (.iadd, 1) := by decide +kernel
theorem dL_law_1038 : decode cL_law 1038 = .ok (.iaload, 1) := by decide +kernel
theorem dL_law_1039 : decode cL_law 1039 = .ok (.aload_n 0, 1) := by decide +kernel
theorem dL_law_1040 : decode cL_law 1040 = .ok (.iload 4, 2) := by decide +kernel
theorem dL_law_1042 : decode cL_law 1042 = .ok (.iconst 2, 1) := by decide +kernel
theorem dL_law_1043 : decode cL_law 1043 = .ok (.iadd, 1) := by decide +kernel
theorem dL_law_1044 : decode cL_law 1044 = .ok (.iaload, 1) := by decide +kernel
theorem dL_law_1045 : decode cL_law 1045 = .ok (.invokevirtual 142, 3) := by decide +kernel
theorem dL_law_1048 : decode cL_law 1048 = .ok (.istore 6, 2) := by decide +kernel
theorem dL_law_1050 : decode cL_law 1050 = .ok (.aload_n 2, 1) := by decide +kernel
theorem dL_law_1051 : decode cL_law 1051 = .ok (.invokevirtual 94, 3) := by decide +kernel
theorem dL_law_1054 : decode cL_law 1054 = .ok (.iload 5, 2) := by decide +kernel
theorem dL_law_1056 : decode cL_law 1056 = .ok (.if_icmp .eq 5, 3) := by decide +kernel
theorem dL_law_1059 : decode cL_law 1059 = .ok (.iconst 0, 1) := by decide +kernel
theorem dL_law_1060 : decode cL_law 1060 = .ok (.ireturn, 1) := by decide +kernel
theorem dL_law_1061 : decode cL_law 1061 = .ok (.iload 5, 2) := by decide +kernel
theorem dL_law_1063 : decode cL_law 1063 = .ok (.ifCond .ne 15, 3) := by decide +kernel
theorem dL_law_1066 : decode cL_law 1066 = .ok (.aload_n 3, 1) := by decide +kernel
theorem dL_law_1067 : decode cL_law 1067 = .ok (.iconst 0, 1) := by decide +kernel
theorem dL_law_1068 : decode cL_law 1068 = .ok (.laload, 1) := by decide +kernel
theorem dL_law_1069 : decode cL_law 1069 = .ok (.iload 6, 2) := by decide +kernel
theorem dL_law_1071 : decode cL_law 1071 = .ok (.i2l, 1) := by decide +kernel
theorem dL_law_1072 : decode cL_law 1072 = .ok (.lcmp, 1) := by decide +kernel
theorem dL_law_1073 : decode cL_law 1073 = .ok (.ifCond .eq 5, 3) := by decide +kernel
theorem dL_law_1076 : decode cL_law 1076 = .ok (.iconst 0, 1) := by decide +kernel
theorem dL_law_1077 : decode cL_law 1077 = .ok (.ireturn, 1) := by decide +kernel
theorem dL_law_1078 : decode cL_law 1078 = .ok (.goto 500, 3) := by decide +kernel
theorem dL_law_1081 : decode cL_law 1081 = .ok (.aload_n 1, 1) := by decide +kernel
theorem dL_law_1082 : decode cL_law 1082 = .ok (.aload_n 0, 1) := by decide +kernel
theorem dL_law_1083 : decode cL_law 1083 = .ok (.iload 4, 2) := by decide +kernel
theorem dL_law_1085 : decode cL_law 1085 = .ok (.iconst 1, 1) := by decide +kernel
theorem dL_law_1086 : decode cL_law 1086 = .ok (.iadd, 1) := by decide +kernel
theorem dL_law_1087 : decode cL_law 1087 = .ok (.iaload, 1) := by decide +kernel
theorem dL_law_1088 : decode cL_law 1088 = .ok (.aload_n 3, 1) := by decide +kernel
theorem dL_law_1089 : decode cL_law 1089 = .ok (.invokestatic 143, 3) := by decide +kernel
theorem dL_law_1092 : decode cL_law 1092 = .ok (.istore 5, 2) := by decide +kernel
theorem dL_law_1094 : decode cL_law 1094 = .ok (.aload_n 2, 1) := by decide +kernel
theorem dL_law_1095 : decode cL_law 1095 = .ok (.aload_n 0, 1) := by decide +kernel
theorem dL_law_1096 : decode cL_law 1096 = .ok (.iload 4, 2) := by decide +kernel
theorem dL_law_1098 : decode cL_law 1098 = .ok (.iconst 1, 1) := by decide +kernel
theorem dL_law_1099 : decode cL_law 1099 = .ok (.iadd, 1) := by decide +kernel
theorem dL_law_1100 : decode cL_law 1100 = .ok (.iaload, 1) := by decide +kernel
theorem dL_law_1101 : decode cL_law 1101 = .ok (.invokevirtual 145, 3) := by decide +kernel
theorem dL_law_1104 : decode cL_law 1104 = .ok (.istore 6, 2) := by decide +kernel
theorem dL_law_1106 : decode cL_law 1106 = .ok (.aload_n 2, 1) := by decide +kernel
theorem dL_law_1107 : decode cL_law 1107 = .ok (.invokevirtual 94, 3) := by decide +kernel
theorem dL_law_1110 : decode cL_law 1110 = .ok (.iload 5, 2) := by decide +kernel
theorem dL_law_1112 : decode cL_law 1112 = .ok (.if_icmp .eq 5, 3) := by decide +kernel
theorem dL_law_1115 : decode cL_law 1115 = .ok (.iconst 0, 1) := by decide +kernel
theorem dL_law_1116 : decode cL_law 1116 = .ok (.ireturn, 1) := by decide +kernel
theorem dL_law_1117 : decode cL_law 1117 = .ok (.iload 5, 2) := by decide +kernel
theorem dL_law_1119 : decode cL_law 1119 = .ok (.ifCond .ne 15, 3) := by decide +kernel
theorem dL_law_1122 : decode cL_law 1122 = .ok (.aload_n 3, 1) := by decide +kernel
theorem dL_law_1123 : decode cL_law 1123 = .ok (.iconst 0, 1) := by decide +kernel
theorem dL_law_1124 : decode cL_law 1124 = .ok (.laload, 1) := by decide +kernel
theorem dL_law_1125 : decode cL_law 1125 = .ok (.iload 6, 2) := by decide +kernel
theorem dL_law_1127 : decode cL_law 1127 = .ok (.i2l, 1) := by decide +kernel
theorem dL_law_1128 : decode cL_law 1128 = .ok (.lcmp, 1) := by decide +kernel
theorem dL_law_1129 : decode cL_law 1129 = .ok (.ifCond .eq 5, 3) := by decide +kernel
theorem dL_law_1132 : decode cL_law 1132 = .ok (.iconst 0, 1) := by decide +kernel
theorem dL_law_1133 : decode cL_law 1133 = .ok (.ireturn, 1) := by decide +kernel
theorem dL_law_1134 : decode cL_law 1134 = .ok (.goto 444, 3) := by decide +kernel
theorem dL_law_1137 : decode cL_law 1137 = .ok (.aload_n 1, 1) := by decide +kernel
theorem dL_law_1138 : decode cL_law 1138 = .ok (.aload_n 0, 1) := by decide +kernel
theorem dL_law_1139 : decode cL_law 1139 = .ok (.iload 4, 2) := by decide +kernel
theorem dL_law_1141 : decode cL_law 1141 = .ok (.iconst 1, 1) := by decide +kernel
theorem dL_law_1142 : decode cL_law 1142 = .ok (.iadd, 1) := by decide +kernel
theorem dL_law_1143 : decode cL_law 1143 = .ok (.iaload, 1) := by decide +kernel
theorem dL_law_1144 : decode cL_law 1144 = .ok (.aload_n 3, 1) := by decide +kernel
theorem dL_law_1145 : decode cL_law 1145 = .ok (.invokestatic 146, 3) := by decide +kernel
theorem dL_law_1148 : decode cL_law 1148 = .ok (.istore 5, 2) := by decide +kernel
theorem dL_law_1150 : decode cL_law 1150 = .ok (.aload_n 2, 1) := by decide +kernel
theorem dL_law_1151 : decode cL_law 1151 = .ok (.aload_n 0, 1) := by decide +kernel
theorem dL_law_1152 : decode cL_law 1152 = .ok (.iload 4, 2) := by decide +kernel
theorem dL_law_1154 : decode cL_law 1154 = .ok (.iconst 1, 1) := by decide +kernel
theorem dL_law_1155 : decode cL_law 1155 = .ok (.iadd, 1) := by decide +kernel
theorem dL_law_1156 : decode cL_law 1156 = .ok (.iaload, 1) := by decide +kernel
theorem dL_law_1157 : decode cL_law 1157 = .ok (.invokevirtual 148, 3) := by decide +kernel
theorem dL_law_1160 : decode cL_law 1160 = .ok (.istore 6, 2) := by decide +kernel
theorem dL_law_1162 : decode cL_law 1162 = .ok (.aload_n 2, 1) := by decide +kernel
theorem dL_law_1163 : decode cL_law 1163 = .ok (.invokevirtual 94, 3) := by decide +kernel
theorem dL_law_1166 : decode cL_law 1166 = .ok (.iload 5, 2) := by decide +kernel
theorem dL_law_1168 : decode cL_law 1168 = .ok (.if_icmp .eq 5, 3) := by decide +kernel
theorem dL_law_1171 : decode cL_law 1171 = .ok (.iconst 0, 1) := by decide +kernel
theorem dL_law_1172 : decode cL_law 1172 = .ok (.ireturn, 1) := by decide +kernel
theorem dL_law_1173 : decode cL_law 1173 = .ok (.iload 5, 2) := by decide +kernel
theorem dL_law_1175 : decode cL_law 1175 = .ok (.ifCond .ne 15, 3) := by decide +kernel
theorem dL_law_1178 : decode cL_law 1178 = .ok (.aload_n 3, 1) := by decide +kernel
theorem dL_law_1179 : decode cL_law 1179 = .ok (.iconst 0, 1) := by decide +kernel
theorem dL_law_1180 : decode cL_law 1180 = .ok (.laload, 1) := by decide +kernel
theorem dL_law_1181 : decode cL_law 1181 = .ok (.iload 6, 2) := by decide +kernel
theorem dL_law_1183 : decode cL_law 1183 = .ok (.i2l, 1) := by decide +kernel
theorem dL_law_1184 : decode cL_law 1184 = .ok (.lcmp, 1) := by decide +kernel
theorem dL_law_1185 : decode cL_law 1185 = .ok (.ifCond .eq 5, 3) := by decide +kernel
theorem dL_law_1188 : decode cL_law 1188 = .ok (.iconst 0, 1) := by decide +kernel
theorem dL_law_1189 : decode cL_law 1189 = .ok (.ireturn, 1) := by decide +kernel
theorem dL_law_1190 : decode cL_law 1190 = .ok (.goto 388, 3) := by decide +kernel
theorem dL_law_1193 : decode cL_law 1193 = .ok (.aload_n 1, 1) := by decide +kernel
theorem dL_law_1194 : decode cL_law 1194 = .ok (.invokevirtual 149, 3) := by decide +kernel
theorem dL_law_1197 : decode cL_law 1197 = .ok (.aload_n 2, 1) := by decide +kernel
theorem dL_law_1198 : decode cL_law 1198 = .ok (.invokevirtual 152, 3) := by decide +kernel
theorem dL_law_1201 : decode cL_law 1201 = .ok (.if_icmp .eq 377, 3) := by decide +kernel
theorem dL_law_1204 : decode cL_law 1204 = .ok (.iconst 0, 1) := by decide +kernel
theorem dL_law_1205 : decode cL_law 1205 = .ok (.ireturn, 1) := by decide +kernel
theorem dL_law_1206 : decode cL_law 1206 = .ok (.aload_n 1, 1) := by decide +kernel
theorem dL_law_1207 : decode cL_law 1207 = .ok (.aload_n 0, 1) := by decide +kernel
theorem dL_law_1208 : decode cL_law 1208 = .ok (.iload 4, 2) := by decide +kernel
theorem dL_law_1210 : decode cL_law 1210 = .ok (.iconst 1, 1) := by decide +kernel
theorem dL_law_1211 : decode cL_law 1211 = .ok (.iadd, 1) := by decide +kernel
theorem dL_law_1212 : decode cL_law 1212 = .ok (.iaload, 1) := by decide +kernel
theorem dL_law_1213 : decode cL_law 1213 = .ok (.aload_n 0, 1) := by decide +kernel
theorem dL_law_1214 : decode cL_law 1214 = .ok (.iload 4, 2) := by decide +kernel
theorem dL_law_1216 : decode cL_law 1216 = .ok (.iconst 2, 1) := by decide +kernel
theorem dL_law_1217 : decode cL_law 1217 = .ok (.iadd, 1) := by decide +kernel
theorem dL_law_1218 : decode cL_law 1218 = .ok (.iaload, 1) := by decide +kernel
theorem dL_law_1219 : decode cL_law 1219 = .ok (.aload_n 3, 1) := by decide +kernel
theorem dL_law_1220 : decode cL_law 1220 = .ok (.invokestatic 153, 3) := by decide +kernel
theorem dL_law_1223 : decode cL_law 1223 = .ok (.istore 5, 2) := by decide +kernel
theorem dL_law_1225 : decode cL_law 1225 = .ok (.aload_n 2, 1) := by decide +kernel
theorem dL_law_1226 : decode cL_law 1226 = .ok (.aload_n 0, 1) := by decide +kernel
theorem dL_law_1227 : decode cL_law 1227 = .ok (.iload 4, 2) := by decide +kernel
theorem dL_law_1229 : decode cL_law 1229 = .ok (.iconst 1, 1) := by decide +kernel
theorem dL_law_1230 : decode cL_law 1230 = .ok (.iadd, 1) := by decide +kernel
theorem dL_law_1231 : decode cL_law 1231 = .ok (.iaload, 1) := by decide +kernel
theorem dL_law_1232 : decode cL_law 1232 = .ok (.aload_n 0, 1) := by decide +kernel
theorem dL_law_1233 : decode cL_law 1233 = .ok (.iload 4, 2) := by decide +kernel
theorem dL_law_1235 : decode cL_law 1235 = .ok (.iconst 2, 1) := by decide +kernel
theorem dL_law_1236 : decode cL_law 1236 = .ok (.iadd, 1) := by decide +kernel
theorem dL_law_1237 : decode cL_law 1237 = .ok (.iaload, 1) := by decide +kernel
theorem dL_law_1238 : decode cL_law 1238 = .ok (.invokevirtual 155, 3) := by decide +kernel
theorem dL_law_1241 : decode cL_law 1241 = .ok (.istore 6, 2) := by decide +kernel
theorem dL_law_1243 : decode cL_law 1243 = .ok (.aload_n 2, 1) := by decide +kernel
theorem dL_law_1244 : decode cL_law 1244 = .ok (.invokevirtual 94, 3) := by decide +kernel
theorem dL_law_1247 : decode cL_law 1247 = .ok (.iload 5, 2) := by decide +kernel
theorem dL_law_1249 : decode cL_law 1249 = .ok (.if_icmp .eq 5, 3) := by decide +kernel
theorem dL_law_1252 : decode cL_law 1252 = .ok (.iconst 0, 1) := by decide +kernel
theorem dL_law_1253 : decode cL_law 1253 = .ok (.ireturn, 1) := by decide +kernel
theorem dL_law_1254 : decode cL_law 1254 = .ok (.iload 5, 2) := by decide +kernel
theorem dL_law_1256 : decode cL_law 1256 = .ok (.ifCond .ne 15, 3) := by decide +kernel
theorem dL_law_1259 : decode cL_law 1259 = .ok (.aload_n 3, 1) := by decide +kernel
theorem dL_law_1260 : decode cL_law 1260 = .ok (.iconst 0, 1) := by decide +kernel
theorem dL_law_1261 : decode cL_law 1261 = .ok (.laload, 1) := by decide +kernel
theorem dL_law_1262 : decode cL_law 1262 = .ok (.iload 6, 2) := by decide +kernel
theorem dL_law_1264 : decode cL_law 1264 = .ok (.i2l, 1) := by decide +kernel
theorem dL_law_1265 : decode cL_law 1265 = .ok (.lcmp, 1) := by decide +kernel
theorem dL_law_1266 : decode cL_law 1266 = .ok (.ifCond .eq 5, 3) := by decide +kernel
theorem dL_law_1269 : decode cL_law 1269 = .ok (.iconst 0, 1) := by decide +kernel
theorem dL_law_1270 : decode cL_law 1270 = .ok (.ireturn, 1) := by decide +kernel
theorem dL_law_1271 : decode cL_law 1271 = .ok (.goto 307, 3) := by decide +kernel
theorem dL_law_1274 : decode cL_law 1274 = .ok (.aload_n 1, 1) := by decide +kernel
theorem dL_law_1275 : decode cL_law 1275 = .ok (.aload_n 0, 1) := by decide +kernel
theorem dL_law_1276 : decode cL_law 1276 = .ok (.iload 4, 2) := by decide +kernel
theorem dL_law_1278 : decode cL_law 1278 = .ok (.iconst 1, 1) := by decide +kernel
theorem dL_law_1279 : decode cL_law 1279 = .ok (.iadd, 1) := by decide +kernel
theorem dL_law_1280 : decode cL_law 1280 = .ok (.iaload, 1) := by decide +kernel
theorem dL_law_1281 : decode cL_law 1281 = .ok (.aload_n 0, 1) := by decide +kernel
theorem dL_law_1282 : decode cL_law 1282 = .ok (.iload 4, 2) := by decide +kernel
theorem dL_law_1284 : decode cL_law 1284 = .ok (.iconst 2, 1) := by decide +kernel
theorem dL_law_1285 : decode cL_law 1285 = .ok (.iadd, 1) := by decide +kernel
theorem dL_law_1286 : decode cL_law 1286 = .ok (.iaload, 1) := by decide +kernel
theorem dL_law_1287 : decode cL_law 1287 = .ok (.aload_n 0, 1) := by decide +kernel
theorem dL_law_1288 : decode cL_law 1288 = .ok (.iload 4, 2) := by decide +kernel
theorem dL_law_1290 : decode cL_law 1290 = .ok (.iconst 3, 1) := by decide +kernel
theorem dL_law_1291 : decode cL_law 1291 = .ok (.iadd, 1) := by decide +kernel
theorem dL_law_1292 : decode cL_law 1292 = .ok (.iaload, 1) := by decide +kernel
theorem dL_law_1293 : decode cL_law 1293 = .ok (.ifCond .eq 7, 3) := by decide +kernel
theorem dL_law_1296 : decode cL_law 1296 = .ok (.iconst 1, 1) := by decide +kernel
theorem dL_law_1297 : decode cL_law 1297 = .ok (.goto 4, 3) := by decide +kernel
theorem dL_law_1300 : decode cL_law 1300 = .ok (.iconst 0, 1) := by decide +kernel
theorem dL_law_1301 : decode cL_law 1301 = .ok (.aload_n 3, 1) := by decide +kernel
theorem dL_law_1302 : decode cL_law 1302 = .ok (.invokestatic 156, 3) := by decide +kernel
theorem dL_law_1305 : decode cL_law 1305 = .ok (.istore 5, 2) := by decide +kernel
theorem dL_law_1307 : decode cL_law 1307 = .ok (.aload_n 2, 1) := by decide +kernel
theorem dL_law_1308 : decode cL_law 1308 = .ok (.aload_n 0, 1) := by decide +kernel
theorem dL_law_1309 : decode cL_law 1309 = .ok (.iload 4, 2) := by decide +kernel
theorem dL_law_1311 : decode cL_law 1311 = .ok (.iconst 1, 1) := by decide +kernel
theorem dL_law_1312 : decode cL_law 1312 = .ok (.iadd, 1) := by decide +kernel
theorem dL_law_1313 : decode cL_law 1313 = .ok (.iaload, 1) := by decide +kernel
theorem dL_law_1314 : decode cL_law 1314 = .ok (.aload_n 0, 1) := by decide +kernel
theorem dL_law_1315 : decode cL_law 1315 = .ok (.iload 4, 2) := by decide +kernel
theorem dL_law_1317 : decode cL_law 1317 = .ok (.iconst 2, 1) := by decide +kernel
theorem dL_law_1318 : decode cL_law 1318 = .ok (.iadd, 1) := by decide +kernel
theorem dL_law_1319 : decode cL_law 1319 = .ok (.iaload, 1) := by decide +kernel
theorem dL_law_1320 : decode cL_law 1320 = .ok (.aload_n 0, 1) := by decide +kernel
theorem dL_law_1321 : decode cL_law 1321 = .ok (.iload 4, 2) := by decide +kernel
theorem dL_law_1323 : decode cL_law 1323 = .ok (.iconst 3, 1) := by decide +kernel
theorem dL_law_1324 : decode cL_law 1324 = .ok (.iadd, 1) := by decide +kernel
theorem dL_law_1325 : decode cL_law 1325 = .ok (.iaload, 1) := by decide +kernel
theorem dL_law_1326 : decode cL_law 1326 = .ok (.ifCond .eq 7, 3) := by decide +kernel
theorem dL_law_1329 : decode cL_law 1329 = .ok (.iconst 1, 1) := by decide +kernel
theorem dL_law_1330 : decode cL_law 1330 = .ok (.goto 4, 3) := by decide +kernel
theorem dL_law_1333 : decode cL_law 1333 = .ok (.iconst 0, 1) := by decide +kernel
theorem dL_law_1334 : decode cL_law 1334 = .ok (.invokevirtual 159, 3) := by decide +kernel
theorem dL_law_1337 : decode cL_law 1337 = .ok (.istore 6, 2) := by decide +kernel
theorem dL_law_1339 : decode cL_law 1339 = .ok (.aload_n 2, 1) := by decide +kernel
theorem dL_law_1340 : decode cL_law 1340 = .ok (.invokevirtual 94, 3) := by decide +kernel
theorem dL_law_1343 : decode cL_law 1343 = .ok (.iload 5, 2) := by decide +kernel
theorem dL_law_1345 : decode cL_law 1345 = .ok (.if_icmp .eq 5, 3) := by decide +kernel
theorem dL_law_1348 : decode cL_law 1348 = .ok (.iconst 0, 1) := by decide +kernel
theorem dL_law_1349 : decode cL_law 1349 = .ok (.ireturn, 1) := by decide +kernel
theorem dL_law_1350 : decode cL_law 1350 = .ok (.iload 5, 2) := by decide +kernel
theorem dL_law_1352 : decode cL_law 1352 = .ok (.ifCond .ne 15, 3) := by decide +kernel
theorem dL_law_1355 : decode cL_law 1355 = .ok (.aload_n 3, 1) := by decide +kernel
theorem dL_law_1356 : decode cL_law 1356 = .ok (.iconst 0, 1) := by decide +kernel
theorem dL_law_1357 : decode cL_law 1357 = .ok (.laload, 1) := by decide +kernel
theorem dL_law_1358 : decode cL_law 1358 = .ok (.iload 6, 2) := by decide +kernel
theorem dL_law_1360 : decode cL_law 1360 = .ok (.i2l, 1) := by decide +kernel
theorem dL_law_1361 : decode cL_law 1361 = .ok (.lcmp, 1) := by decide +kernel
theorem dL_law_1362 : decode cL_law 1362 = .ok (.ifCond .eq 5, 3) := by decide +kernel
theorem dL_law_1365 : decode cL_law 1365 = .ok (.iconst 0, 1) := by decide +kernel
theorem dL_law_1366 : decode cL_law 1366 = .ok (.ireturn, 1) := by decide +kernel
theorem dL_law_1367 : decode cL_law 1367 = .ok (.goto 211, 3) := by decide +kernel
theorem dL_law_1370 : decode cL_law 1370 = .ok (.aload_n 1, 1) := by decide +kernel
theorem dL_law_1371 : decode cL_law 1371 = .ok (.invokevirtual 160, 3) := by decide +kernel
theorem dL_law_1374 : decode cL_law 1374 = .ok (.aload_n 2, 1) := by decide +kernel
theorem dL_law_1375 : decode cL_law 1375 = .ok (.invokevirtual 164, 3) := by decide +kernel
theorem dL_law_1378 : decode cL_law 1378 = .ok (.if_icmp .eq 200, 3) := by decide +kernel
theorem dL_law_1381 : decode cL_law 1381 = .ok (.iconst 0, 1) := by decide +kernel
theorem dL_law_1382 : decode cL_law 1382 = .ok (.ireturn, 1) := by decide +kernel
theorem dL_law_1383 : decode cL_law 1383 = .ok (.aload_n 1, 1) := by decide +kernel
theorem dL_law_1384 : decode cL_law 1384 = .ok (.aload_n 0, 1) := by decide +kernel
theorem dL_law_1385 : decode cL_law 1385 = .ok (.iload 4, 2) := by decide +kernel
theorem dL_law_1387 : decode cL_law 1387 = .ok (.iconst 1, 1) := by decide +kernel
theorem dL_law_1388 : decode cL_law 1388 = .ok (.iadd, 1) := by decide +kernel
theorem dL_law_1389 : decode cL_law 1389 = .ok (.iaload, 1) := by decide +kernel
theorem dL_law_1390 : decode cL_law 1390 = .ok (.aload_n 3, 1) := by decide +kernel
theorem dL_law_1391 : decode cL_law 1391 = .ok (.invokestatic 165, 3) := by decide +kernel
theorem dL_law_1394 : decode cL_law 1394 = .ok (.istore 5, 2) := by decide +kernel
theorem dL_law_1396 : decode cL_law 1396 = .ok (.aload_n 2, 1) := by decide +kernel
theorem dL_law_1397 : decode cL_law 1397 = .ok (.aload_n 0, 1) := by decide +kernel
theorem dL_law_1398 : decode cL_law 1398 = .ok (.iload 4, 2) := by decide +kernel
theorem dL_law_1400 : decode cL_law 1400 = .ok (.iconst 1, 1) := by decide +kernel
theorem dL_law_1401 : decode cL_law 1401 = .ok (.iadd, 1) := by decide +kernel
theorem dL_law_1402 : decode cL_law 1402 = .ok (.iaload, 1) := by decide +kernel
theorem dL_law_1403 : decode cL_law 1403 = .ok (.invokevirtual 167, 3) := by decide +kernel
theorem dL_law_1406 : decode cL_law 1406 = .ok (.istore 6, 2) := by decide +kernel
theorem dL_law_1408 : decode cL_law 1408 = .ok (.aload_n 2, 1) := by decide +kernel
theorem dL_law_1409 : decode cL_law 1409 = .ok (.invokevirtual 94, 3) := by decide +kernel
theorem dL_law_1412 : decode cL_law 1412 = .ok (.iload 5, 2) := by decide +kernel
theorem dL_law_1414 : decode cL_law 1414 = .ok (.if_icmp .eq 5, 3) := by decide +kernel
theorem dL_law_1417 : decode cL_law 1417 = .ok (.iconst 0, 1) := by decide +kernel
theorem dL_law_1418 : decode cL_law 1418 = .ok (.ireturn, 1) := by decide +kernel
theorem dL_law_1419 : decode cL_law 1419 = .ok (.iload 5, 2) := by decide +kernel
theorem dL_law_1421 : decode cL_law 1421 = .ok (.ifCond .ne 15, 3) := by decide +kernel
theorem dL_law_1424 : decode cL_law 1424 = .ok (.aload_n 3, 1) := by decide +kernel
theorem dL_law_1425 : decode cL_law 1425 = .ok (.iconst 0, 1) := by decide +kernel
theorem dL_law_1426 : decode cL_law 1426 = .ok (.laload, 1) := by decide +kernel
theorem dL_law_1427 : decode cL_law 1427 = .ok (.iload 6, 2) := by decide +kernel
theorem dL_law_1429 : decode cL_law 1429 = .ok (.i2l, 1) := by decide +kernel
theorem dL_law_1430 : decode cL_law 1430 = .ok (.lcmp, 1) := by decide +kernel
theorem dL_law_1431 : decode cL_law 1431 = .ok (.ifCond .eq 5, 3) := by decide +kernel
theorem dL_law_1434 : decode cL_law 1434 = .ok (.iconst 0, 1) := by decide +kernel
theorem dL_law_1435 : decode cL_law 1435 = .ok (.ireturn, 1) := by decide +kernel
theorem dL_law_1436 : decode cL_law 1436 = .ok (.goto 142, 3) := by decide +kernel
theorem dL_law_1439 : decode cL_law 1439 = .ok (.aload_n 1, 1) := by decide +kernel
theorem dL_law_1440 : decode cL_law 1440 = .ok (.aload_n 0, 1) := by decide +kernel
theorem dL_law_1441 : decode cL_law 1441 = .ok (.iload 4, 2) := by decide +kernel
theorem dL_law_1443 : decode cL_law 1443 = .ok (.iconst 1, 1) := by decide +kernel
theorem dL_law_1444 : decode cL_law 1444 = .ok (.iadd, 1) := by decide +kernel
theorem dL_law_1445 : decode cL_law 1445 = .ok (.iaload, 1) := by decide +kernel
theorem dL_law_1446 : decode cL_law 1446 = .ok (.aload_n 0, 1) := by decide +kernel
theorem dL_law_1447 : decode cL_law 1447 = .ok (.iload 4, 2) := by decide +kernel
theorem dL_law_1449 : decode cL_law 1449 = .ok (.iconst 2, 1) := by decide +kernel
theorem dL_law_1450 : decode cL_law 1450 = .ok (.iadd, 1) := by decide +kernel
theorem dL_law_1451 : decode cL_law 1451 = .ok (.iaload, 1) := by decide +kernel
theorem dL_law_1452 : decode cL_law 1452 = .ok (.aload_n 3, 1) := by decide +kernel
theorem dL_law_1453 : decode cL_law 1453 = .ok (.invokestatic 168, 3) := by decide +kernel
theorem dL_law_1456 : decode cL_law 1456 = .ok (.istore 5, 2) := by decide +kernel
theorem dL_law_1458 : decode cL_law 1458 = .ok (.aload_n 2, 1) := by decide +kernel
theorem dL_law_1459 : decode cL_law 1459 = .ok (.aload_n 0, 1) := by decide +kernel
theorem dL_law_1460 : decode cL_law 1460 = .ok (.iload 4, 2) := by decide +kernel
theorem dL_law_1462 : decode cL_law 1462 = .ok (.iconst 1, 1) := by decide +kernel
theorem dL_law_1463 : decode cL_law 1463 = .ok (.iadd, 1) := by decide +kernel
theorem dL_law_1464 : decode cL_law 1464 = .ok (.iaload, 1) := by decide +kernel
theorem dL_law_1465 : decode cL_law 1465 = .ok (.aload_n 0, 1) := by decide +kernel
theorem dL_law_1466 : decode cL_law 1466 = .ok (.iload 4, 2) := by decide +kernel
theorem dL_law_1468 : decode cL_law 1468 = .ok (.iconst 2, 1) := by decide +kernel
theorem dL_law_1469 : decode cL_law 1469 = .ok (.iadd, 1) := by decide +kernel
theorem dL_law_1470 : decode cL_law 1470 = .ok (.iaload, 1) := by decide +kernel
theorem dL_law_1471 : decode cL_law 1471 = .ok (.invokevirtual 170, 3) := by decide +kernel
theorem dL_law_1474 : decode cL_law 1474 = .ok (.istore 6, 2) := by decide +kernel
theorem dL_law_1476 : decode cL_law 1476 = .ok (.aload_n 2, 1) := by decide +kernel
theorem dL_law_1477 : decode cL_law 1477 = .ok (.invokevirtual 94, 3) := by decide +kernel
theorem dL_law_1480 : decode cL_law 1480 = .ok (.iload 5, 2) := by decide +kernel
theorem dL_law_1482 : decode cL_law 1482 = .ok (.if_icmp .eq 5, 3) := by decide +kernel
theorem dL_law_1485 : decode cL_law 1485 = .ok (.iconst 0, 1) := by decide +kernel
theorem dL_law_1486 : decode cL_law 1486 = .ok (.ireturn, 1) := by decide +kernel
theorem dL_law_1487 : decode cL_law 1487 = .ok (.iload 5, 2) := by decide +kernel
theorem dL_law_1489 : decode cL_law 1489 = .ok (.ifCond .ne 15, 3) := by decide +kernel
theorem dL_law_1492 : decode cL_law 1492 = .ok (.aload_n 3, 1) := by decide +kernel
theorem dL_law_1493 : decode cL_law 1493 = .ok (.iconst 0, 1) := by decide +kernel
theorem dL_law_1494 : decode cL_law 1494 = .ok (.laload, 1) := by decide +kernel
theorem dL_law_1495 : decode cL_law 1495 = .ok (.iload 6, 2) := by decide +kernel
theorem dL_law_1497 : decode cL_law 1497 = .ok (.i2l, 1) := by decide +kernel
theorem dL_law_1498 : decode cL_law 1498 = .ok (.lcmp, 1) := by decide +kernel
theorem dL_law_1499 : decode cL_law 1499 = .ok (.ifCond .eq 5, 3) := by decide +kernel
theorem dL_law_1502 : decode cL_law 1502 = .ok (.iconst 0, 1) := by decide +kernel
theorem dL_law_1503 : decode cL_law 1503 = .ok (.ireturn, 1) := by decide +kernel
theorem dL_law_1504 : decode cL_law 1504 = .ok (.goto 74, 3) := by decide +kernel
theorem dL_law_1507 : decode cL_law 1507 = .ok (.aload_n 1, 1) := by decide +kernel
theorem dL_law_1508 : decode cL_law 1508 = .ok (.invokevirtual 171, 3) := by decide +kernel
theorem dL_law_1511 : decode cL_law 1511 = .ok (.aload_n 2, 1) := by decide +kernel
theorem dL_law_1512 : decode cL_law 1512 = .ok (.invokevirtual 174, 3) := by decide +kernel
theorem dL_law_1515 : decode cL_law 1515 = .ok (.if_icmp .eq 63, 3) := by decide +kernel
theorem dL_law_1518 : decode cL_law 1518 = .ok (.iconst 0, 1) := by decide +kernel
theorem dL_law_1519 : decode cL_law 1519 = .ok (.ireturn, 1) := by decide +kernel
theorem dL_law_1520 : decode cL_law 1520 = .ok (.aload_n 1, 1) := by decide +kernel
theorem dL_law_1521 : decode cL_law 1521 = .ok (.aload_n 3, 1) := by decide +kernel
theorem dL_law_1522 : decode cL_law 1522 = .ok (.invokestatic 175, 3) := by decide +kernel
theorem dL_law_1525 : decode cL_law 1525 = .ok (.istore 5, 2) := by decide +kernel
theorem dL_law_1527 : decode cL_law 1527 = .ok (.aload_n 2, 1) := by decide +kernel
theorem dL_law_1528 : decode cL_law 1528 = .ok (.invokevirtual 178, 3) := by decide +kernel
theorem dL_law_1531 : decode cL_law 1531 = .ok (.istore 6, 2) := by decide +kernel
theorem dL_law_1533 : decode cL_law 1533 = .ok (.aload_n 2, 1) := by decide +kernel
theorem dL_law_1534 : decode cL_law 1534 = .ok (.invokevirtual 94, 3) := by decide +kernel
theorem dL_law_1537 : decode cL_law 1537 = .ok (.iload 5, 2) := by decide +kernel
theorem dL_law_1539 : decode cL_law 1539 = .ok (.if_icmp .eq 5, 3) := by decide +kernel
theorem dL_law_1542 : decode cL_law 1542 = .ok (.iconst 0, 1) := by decide +kernel
theorem dL_law_1543 : decode cL_law 1543 = .ok (.ireturn, 1) := by decide +kernel
theorem dL_law_1544 : decode cL_law 1544 = .ok (.iload 5, 2) := by decide +kernel
theorem dL_law_1546 : decode cL_law 1546 = .ok (.ifCond .ne 15, 3) := by decide +kernel
theorem dL_law_1549 : decode cL_law 1549 = .ok (.aload_n 3, 1) := by decide +kernel
theorem dL_law_1550 : decode cL_law 1550 = .ok (.iconst 0, 1) := by decide +kernel
theorem dL_law_1551 : decode cL_law 1551 = .ok (.laload, 1) := by decide +kernel
theorem dL_law_1552 : decode cL_law 1552 = .ok (.iload 6, 2) := by decide +kernel
theorem dL_law_1554 : decode cL_law 1554 = .ok (.i2l, 1) := by decide +kernel
theorem dL_law_1555 : decode cL_law 1555 = .ok (.lcmp, 1) := by decide +kernel
theorem dL_law_1556 : decode cL_law 1556 = .ok (.ifCond .eq 5, 3) := by decide +kernel
theorem dL_law_1559 : decode cL_law 1559 = .ok (.iconst 0, 1) := by decide +kernel
theorem dL_law_1560 : decode cL_law 1560 = .ok (.ireturn, 1) := by decide +kernel
theorem dL_law_1561 : decode cL_law 1561 = .ok (.goto 17, 3) := by decide +kernel
theorem dL_law_1564 : decode cL_law 1564 = .ok (.aload_n 1, 1) := by decide +kernel
theorem dL_law_1565 : decode cL_law 1565 = .ok (.invokevirtual 179, 3) := by decide +kernel
theorem dL_law_1568 : decode cL_law 1568 = .ok (.aload_n 2, 1) := by decide +kernel
theorem dL_law_1569 : decode cL_law 1569 = .ok (.invokevirtual 183, 3) := by decide +kernel
theorem dL_law_1572 : decode cL_law 1572 = .ok (.lcmp, 1) := by decide +kernel
theorem dL_law_1573 : decode cL_law 1573 = .ok (.ifCond .eq 5, 3) := by decide +kernel
theorem dL_law_1576 : decode cL_law 1576 = .ok (.iconst 0, 1) := by decide +kernel
theorem dL_law_1577 : decode cL_law 1577 = .ok (.ireturn, 1) := by decide +kernel
theorem dL_law_1578 : decode cL_law 1578 = .ok (.iinc 4 4, 3) := by decide +kernel
theorem dL_law_1581 : decode cL_law 1581 = .ok (.goto (-1558), 3) := by decide +kernel
theorem dL_law_1584 : decode cL_law 1584 = .ok (.iconst 1, 1) := by decide +kernel
theorem dL_law_1585 : decode cL_law 1585 = .ok (.ireturn, 1) := by decide +kernel
