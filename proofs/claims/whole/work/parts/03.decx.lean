theorem dX0_init_0 : decode cX0_init 0 = .ok (.aload_n 0, 1) := by decide +kernel
theorem dX0_init_1 : decode cX0_init 1 = .ok (.invokespecial 3, 3) := by decide +kernel
theorem dX0_init_4 : decode cX0_init 4 = .ok (.aload_n 0, 1) := by decide +kernel
theorem dX0_init_5 : decode cX0_init 5 = .ok (.iconst 0, 1) := by decide +kernel
theorem dX0_init_6 : decode cX0_init 6 = .ok (.putfield 9, 3) := by decide +kernel
theorem dX0_init_9 : decode cX0_init 9 = .ok (.aload_n 0, 1) := by decide +kernel
theorem dX0_init_10 : decode cX0_init 10 = .ok (.bipush 7, 2) := by decide +kernel
theorem dX0_init_12 : decode cX0_init 12 = .ok (.newarray .int, 2) := by decide +kernel
theorem dX0_init_14 : decode cX0_init 14 = .ok (.putfield 15, 3) := by decide +kernel
theorem dX0_init_17 : decode cX0_init 17 = .ok (.aload_n 0, 1) := by decide +kernel
theorem dX0_init_18 : decode cX0_init 18 = .ok (.bipush 7, 2) := by decide +kernel
theorem dX0_init_20 : decode cX0_init 20 = .ok (.newarray .int, 2) := by decide +kernel
theorem dX0_init_22 : decode cX0_init 22 = .ok (.putfield 19, 3) := by decide +kernel
theorem dX0_init_25 : decode cX0_init 25 = .ok (.aload_n 0, 1) := by decide +kernel
theorem dX0_init_26 : decode cX0_init 26 = .ok (.bipush 7, 2) := by decide +kernel
theorem dX0_init_28 : decode cX0_init 28 = .ok (.newarray .int, 2) := by decide +kernel
theorem dX0_init_30 : decode cX0_init 30 = .ok (.putfield 22, 3) := by decide +kernel
theorem dX0_init_33 : decode cX0_init 33 = .ok (.aload_n 0, 1) := by decide +kernel
theorem dX0_init_34 : decode cX0_init 34 = .ok (.bipush 7, 2) := by decide +kernel
theorem dX0_init_36 : decode cX0_init 36 = .ok (.newarray .int, 2) := by decide +kernel
theorem dX0_init_38 : decode cX0_init 38 = .ok (.putfield 25, 3) := by decide +kernel
theorem dX0_init_41 : decode cX0_init 41 = .ok (.aload_n 0, 1) := by decide +kernel
theorem dX0_init_42 : decode cX0_init 42 = .ok (.bipush 7, 2) := by decide +kernel
theorem dX0_init_44 : decode cX0_init 44 = .ok (.newarray .int, 2) := by decide +kernel
theorem dX0_init_46 : decode cX0_init 46 = .ok (.putfield 28, 3) := by decide +kernel
theorem dX0_init_49 : decode cX0_init 49 = .ok (.aload_n 0, 1) := by decide +kernel
theorem dX0_init_50 : decode cX0_init 50 = .ok (.bipush 7, 2) := by decide +kernel
theorem dX0_init_52 : decode cX0_init 52 = .ok (.newarray .int, 2) := by decide +kernel
theorem dX0_init_54 : decode cX0_init 54 = .ok (.putfield 31, 3) := by decide +kernel
theorem dX0_init_57 : decode cX0_init 57 = .ok (.return_, 1) := by decide +kernel
theorem dX0_takeFrom_0 : decode cX0_takeFrom 0 = .ok (.aload_n 0, 1) := by decide +kernel
theorem dX0_takeFrom_1 : decode cX0_takeFrom 1 = .ok (.aload_n 1, 1) := by decide +kernel
theorem dX0_takeFrom_2 : decode cX0_takeFrom 2 = .ok (.getfield 9, 3) := by decide +kernel
theorem dX0_takeFrom_5 : decode cX0_takeFrom 5 = .ok (.putfield 9, 3) := by decide +kernel
theorem dX0_takeFrom_8 : decode cX0_takeFrom 8 = .ok (.aload_n 1, 1) := by decide +kernel
theorem dX0_takeFrom_9 : decode cX0_takeFrom 9 = .ok (.getfield 15, 3) := by decide +kernel
theorem dX0_takeFrom_12 : decode cX0_takeFrom 12 = .ok (.iconst 0, 1) := by decide +kernel
theorem dX0_takeFrom_13 : decode cX0_takeFrom 13 = .ok (.aload_n 0, 1) := by decide +kernel
theorem dX0_takeFrom_14 : decode cX0_takeFrom 14 = .ok (.getfield 15, 3) := by decide +kernel
theorem dX0_takeFrom_17 : decode cX0_takeFrom 17 = .ok (.iconst 0, 1) := by decide +kernel
theorem dX0_takeFrom_18 : decode cX0_takeFrom 18 = .ok (.bipush 7, 2) := by decide +kernel
theorem dX0_takeFrom_20 : decode cX0_takeFrom 20 = .ok (.invokestatic 34, 3) := by decide +kernel
theorem dX0_takeFrom_23 : decode cX0_takeFrom 23 = .ok (.aload_n 1, 1) := by decide +kernel
theorem dX0_takeFrom_24 : decode cX0_takeFrom 24 = .ok (.getfield 19, 3) := by decide +kernel
theorem dX0_takeFrom_27 : decode cX0_takeFrom 27 = .ok (.iconst 0, 1) := by decide +kernel
theorem dX0_takeFrom_28 : decode cX0_takeFrom 28 = .ok (.aload_n 0, 1) := by decide +kernel
theorem dX0_takeFrom_29 : decode cX0_takeFrom 29 = .ok (.getfield 19, 3) := by decide +kernel
theorem dX0_takeFrom_32 : decode cX0_takeFrom 32 = .ok (.iconst 0, 1) := by decide +kernel
theorem dX0_takeFrom_33 : decode cX0_takeFrom 33 = .ok (.bipush 7, 2) := by decide +kernel
theorem dX0_takeFrom_35 : decode cX0_takeFrom 35 = .ok (.invokestatic 34, 3) := by decide +kernel
theorem dX0_takeFrom_38 : decode cX0_takeFrom 38 = .ok (.aload_n 1, 1) := by decide +kernel
theorem dX0_takeFrom_39 : decode cX0_takeFrom 39 = .ok (.getfield 22, 3) := by decide +kernel
theorem dX0_takeFrom_42 : decode cX0_takeFrom 42 = .ok (.iconst 0, 1) := by decide +kernel
theorem dX0_takeFrom_43 : decode cX0_takeFrom 43 = .ok (.aload_n 0, 1) := by decide +kernel
theorem dX0_takeFrom_44 : decode cX0_takeFrom 44 = .ok (.getfield 22, 3) := by decide +kernel
theorem dX0_takeFrom_47 : decode cX0_takeFrom 47 = .ok (.iconst 0, 1) := by decide +kernel
theorem dX0_takeFrom_48 : decode cX0_takeFrom 48 = .ok (.bipush 7, 2) := by decide +kernel
theorem dX0_takeFrom_50 : decode cX0_takeFrom 50 = .ok (.invokestatic 34, 3) := by decide +kernel
theorem dX0_takeFrom_53 : decode cX0_takeFrom 53 = .ok (.aload_n 1, 1) := by decide +kernel
theorem dX0_takeFrom_54 : decode cX0_takeFrom 54 = .ok (.getfield 25, 3) := by decide +kernel
theorem dX0_takeFrom_57 : decode cX0_takeFrom 57 = .ok (.iconst 0, 1) := by decide +kernel
theorem dX0_takeFrom_58 : decode cX0_takeFrom 58 = .ok (.aload_n 0, 1) := by decide +kernel
theorem dX0_takeFrom_59 : decode cX0_takeFrom 59 = .ok (.getfield 25, 3) := by decide +kernel
theorem dX0_takeFrom_62 : decode cX0_takeFrom 62 = .ok (.iconst 0, 1) := by decide +kernel
theorem dX0_takeFrom_63 : decode cX0_takeFrom 63 = .ok (.bipush 7, 2) := by decide +kernel
theorem dX0_takeFrom_65 : decode cX0_takeFrom 65 = .ok (.invokestatic 34, 3) := by decide +kernel
theorem dX0_takeFrom_68 : decode cX0_takeFrom 68 = .ok (.aload_n 1, 1) := by decide +kernel
theorem dX0_takeFrom_69 : decode cX0_takeFrom 69 = .ok (.getfield 28, 3) := by decide +kernel
theorem dX0_takeFrom_72 : decode cX0_takeFrom 72 = .ok (.iconst 0, 1) := by decide +kernel
theorem dX0_takeFrom_73 : decode cX0_takeFrom 73 = .ok (.aload_n 0, 1) := by decide +kernel
theorem dX0_takeFrom_74 : decode cX0_takeFrom 74 = .ok (.getfield 28, 3) := by decide +kernel
theorem dX0_takeFrom_77 : decode cX0_takeFrom 77 = .ok (.iconst 0, 1) := by decide +kernel
theorem dX0_takeFrom_78 : decode cX0_takeFrom 78 = .ok (.bipush 7, 2) := by decide +kernel
theorem dX0_takeFrom_80 : decode cX0_takeFrom 80 = .ok (.invokestatic 34, 3) := by decide +kernel
theorem dX0_takeFrom_83 : decode cX0_takeFrom 83 = .ok (.aload_n 1, 1) := by decide +kernel
theorem dX0_takeFrom_84 : decode cX0_takeFrom 84 = .ok (.getfield 31, 3) := by decide +kernel
theorem dX0_takeFrom_87 : decode cX0_takeFrom 87 = .ok (.iconst 0, 1) := by decide +kernel
theorem dX0_takeFrom_88 : decode cX0_takeFrom 88 = .ok (.aload_n 0, 1) := by decide +kernel
theorem dX0_takeFrom_89 : decode cX0_takeFrom 89 = .ok (.getfield 31, 3) := by decide +kernel
theorem dX0_takeFrom_92 : decode cX0_takeFrom 92 = .ok (.iconst 0, 1) := by decide +kernel
theorem dX0_takeFrom_93 : decode cX0_takeFrom 93 = .ok (.bipush 7, 2) := by decide +kernel
theorem dX0_takeFrom_95 : decode cX0_takeFrom 95 = .ok (.invokestatic 34, 3) := by decide +kernel
theorem dX0_takeFrom_98 : decode cX0_takeFrom 98 = .ok (.return_, 1) := by decide +kernel
theorem dX0_admit_0 : decode cX0_admit 0 = .ok (.aload_n 0, 1) := by decide +kernel
theorem dX0_admit_1 : decode cX0_admit 1 = .ok (.getfield 9, 3) := by decide +kernel
theorem dX0_admit_4 : decode cX0_admit 4 = .ok (.istore_n 3, 1) := by decide +kernel
theorem dX0_admit_5 : decode cX0_admit 5 = .ok (.aload_n 0, 1) := by decide +kernel
theorem dX0_admit_6 : decode cX0_admit 6 = .ok (.getfield 15, 3) := by decide +kernel
theorem dX0_admit_9 : decode cX0_admit 9 = .ok (.iload_n 3, 1) := by decide +kernel
theorem dX0_admit_10 : decode cX0_admit 10 = .ok (.iload_n 1, 1) := by decide +kernel
theorem dX0_admit_11 : decode cX0_admit 11 = .ok (.bipush 10, 2) := by decide +kernel
theorem dX0_admit_13 : decode cX0_admit 13 = .ok (.idiv, 1) := by decide +kernel
theorem dX0_admit_14 : decode cX0_admit 14 = .ok (.iastore, 1) := by decide +kernel
theorem dX0_admit_15 : decode cX0_admit 15 = .ok (.aload_n 0, 1) := by decide +kernel
theorem dX0_admit_16 : decode cX0_admit 16 = .ok (.getfield 19, 3) := by decide +kernel
theorem dX0_admit_19 : decode cX0_admit 19 = .ok (.iload_n 3, 1) := by decide +kernel
theorem dX0_admit_20 : decode cX0_admit 20 = .ok (.iload_n 1, 1) := by decide +kernel
theorem dX0_admit_21 : decode cX0_admit 21 = .ok (.bipush 10, 2) := by decide +kernel
theorem dX0_admit_23 : decode cX0_admit 23 = .ok (.irem, 1) := by decide +kernel
theorem dX0_admit_24 : decode cX0_admit 24 = .ok (.iastore, 1) := by decide +kernel
theorem dX0_admit_25 : decode cX0_admit 25 = .ok (.aload_n 0, 1) := by decide +kernel
theorem dX0_admit_26 : decode cX0_admit 26 = .ok (.getfield 22, 3) := by decide +kernel
theorem dX0_admit_29 : decode cX0_admit 29 = .ok (.iload_n 3, 1) := by decide +kernel
theorem dX0_admit_30 : decode cX0_admit 30 = .ok (.iload_n 2, 1) := by decide +kernel
theorem dX0_admit_31 : decode cX0_admit 31 = .ok (.iastore, 1) := by decide +kernel
theorem dX0_admit_32 : decode cX0_admit 32 = .ok (.aload_n 0, 1) := by decide +kernel
theorem dX0_admit_33 : decode cX0_admit 33 = .ok (.getfield 25, 3) := by decide +kernel
theorem dX0_admit_36 : decode cX0_admit 36 = .ok (.iload_n 3, 1) := by decide +kernel
theorem dX0_admit_37 : decode cX0_admit 37 = .ok (.iconst 0, 1) := by decide +kernel
theorem dX0_admit_38 : decode cX0_admit 38 = .ok (.iastore, 1) := by decide +kernel
theorem dX0_admit_39 : decode cX0_admit 39 = .ok (.aload_n 0, 1) := by decide +kernel
theorem dX0_admit_40 : decode cX0_admit 40 = .ok (.getfield 28, 3) := by decide +kernel
theorem dX0_admit_43 : decode cX0_admit 43 = .ok (.iload_n 3, 1) := by decide +kernel
theorem dX0_admit_44 : decode cX0_admit 44 = .ok (.iconst 1, 1) := by decide +kernel
theorem dX0_admit_45 : decode cX0_admit 45 = .ok (.iastore, 1) := by decide +kernel
theorem dX0_admit_46 : decode cX0_admit 46 = .ok (.aload_n 0, 1) := by decide +kernel
theorem dX0_admit_47 : decode cX0_admit 47 = .ok (.getfield 31, 3) := by decide +kernel
theorem dX0_admit_50 : decode cX0_admit 50 = .ok (.iload_n 3, 1) := by decide +kernel
theorem dX0_admit_51 : decode cX0_admit 51 = .ok (.iload_n 3, 1) := by decide +kernel
theorem dX0_admit_52 : decode cX0_admit 52 = .ok (.iastore, 1) := by decide +kernel
theorem dX0_admit_53 : decode cX0_admit 53 = .ok (.aload_n 0, 1) := by decide +kernel
theorem dX0_admit_54 : decode cX0_admit 54 = .ok (.dup, 1) := by decide +kernel
theorem dX0_admit_55 : decode cX0_admit 55 = .ok (.getfield 9, 3) := by decide +kernel
theorem dX0_admit_58 : decode cX0_admit 58 = .ok (.iconst 1, 1) := by decide +kernel
theorem dX0_admit_59 : decode cX0_admit 59 = .ok (.iadd, 1) := by decide +kernel
theorem dX0_admit_60 : decode cX0_admit 60 = .ok (.putfield 9, 3) := by decide +kernel
theorem dX0_admit_63 : decode cX0_admit 63 = .ok (.iload_n 3, 1) := by decide +kernel
theorem dX0_admit_64 : decode cX0_admit 64 = .ok (.ireturn, 1) := by decide +kernel
theorem dX0_pegOf_0 : decode cX0_pegOf 0 = .ok (.iconst 0, 1) := by decide +kernel
theorem dX0_pegOf_1 : decode cX0_pegOf 1 = .ok (.istore_n 2, 1) := by decide +kernel
theorem dX0_pegOf_2 : decode cX0_pegOf 2 = .ok (.iload_n 2, 1) := by decide +kernel
theorem dX0_pegOf_3 : decode cX0_pegOf 3 = .ok (.aload_n 0, 1) := by decide +kernel
theorem dX0_pegOf_4 : decode cX0_pegOf 4 = .ok (.getfield 9, 3) := by decide +kernel
theorem dX0_pegOf_7 : decode cX0_pegOf 7 = .ok (.if_icmp .ge 21, 3) := by decide +kernel
theorem dX0_pegOf_10 : decode cX0_pegOf 10 = .ok (.aload_n 0, 1) := by decide +kernel
theorem dX0_pegOf_11 : decode cX0_pegOf 11 = .ok (.getfield 31, 3) := by decide +kernel
theorem dX0_pegOf_14 : decode cX0_pegOf 14 = .ok (.iload_n 2, 1) := by decide +kernel
theorem dX0_pegOf_15 : decode cX0_pegOf 15 = .ok (.iaload, 1) := by decide +kernel
theorem dX0_pegOf_16 : decode cX0_pegOf 16 = .ok (.iload_n 1, 1) := by decide +kernel
theorem dX0_pegOf_17 : decode cX0_pegOf 17 = .ok (.if_icmp .ne 5, 3) := by decide +kernel
theorem dX0_pegOf_20 : decode cX0_pegOf 20 = .ok (.iload_n 2, 1) := by decide +kernel
theorem dX0_pegOf_21 : decode cX0_pegOf 21 = .ok (.ireturn, 1) := by decide +kernel
theorem dX0_pegOf_22 : decode cX0_pegOf 22 = .ok (.iinc 2 1, 3) := by decide +kernel
theorem dX0_pegOf_25 : decode cX0_pegOf 25 = .ok (.goto (-23), 3) := by decide +kernel
theorem dX0_pegOf_28 : decode cX0_pegOf 28 = .ok (.iconst 0, 1) := by decide +kernel
theorem dX0_pegOf_29 : decode cX0_pegOf 29 = .ok (.ireturn, 1) := by decide +kernel
theorem dX0_lastGuest_0 : decode cX0_lastGuest 0 = .ok (.aload_n 0, 1) := by decide +kernel
theorem dX0_lastGuest_1 : decode cX0_lastGuest 1 = .ok (.getfield 9, 3) := by decide +kernel
theorem dX0_lastGuest_4 : decode cX0_lastGuest 4 = .ok (.ifCond .ne 7, 3) := by decide +kernel
theorem dX0_lastGuest_7 : decode cX0_lastGuest 7 = .ok (.iconst (-1), 1) := by decide +kernel
theorem dX0_lastGuest_8 : decode cX0_lastGuest 8 = .ok (.goto 14, 3) := by decide +kernel
theorem dX0_lastGuest_11 : decode cX0_lastGuest 11 = .ok (.aload_n 0, 1) := by decide +kernel
theorem dX0_lastGuest_12 : decode cX0_lastGuest 12 = .ok (.getfield 31, 3) := by decide +kernel
theorem dX0_lastGuest_15 : decode cX0_lastGuest 15 = .ok (.aload_n 0, 1) := by decide +kernel
theorem dX0_lastGuest_16 : decode cX0_lastGuest 16 = .ok (.getfield 9, 3) := by decide +kernel
theorem dX0_lastGuest_19 : decode cX0_lastGuest 19 = .ok (.iconst 1, 1) := by decide +kernel
theorem dX0_lastGuest_20 : decode cX0_lastGuest 20 = .ok (.isub, 1) := by decide +kernel
theorem dX0_lastGuest_21 : decode cX0_lastGuest 21 = .ok (.iaload, 1) := by decide +kernel
theorem dX0_lastGuest_22 : decode cX0_lastGuest 22 = .ok (.ireturn, 1) := by decide +kernel
theorem dX0_exchange_0 : decode cX0_exchange 0 = .ok (.aload_n 0, 1) := by decide +kernel
theorem dX0_exchange_1 : decode cX0_exchange 1 = .ok (.getfield 31, 3) := by decide +kernel
theorem dX0_exchange_4 : decode cX0_exchange 4 = .ok (.iload_n 1, 1) := by decide +kernel
theorem dX0_exchange_5 : decode cX0_exchange 5 = .ok (.iaload, 1) := by decide +kernel
theorem dX0_exchange_6 : decode cX0_exchange 6 = .ok (.istore_n 3, 1) := by decide +kernel
theorem dX0_exchange_7 : decode cX0_exchange 7 = .ok (.aload_n 0, 1) := by decide +kernel
theorem dX0_exchange_8 : decode cX0_exchange 8 = .ok (.getfield 31, 3) := by decide +kernel
theorem dX0_exchange_11 : decode cX0_exchange 11 = .ok (.iload_n 1, 1) := by decide +kernel
theorem dX0_exchange_12 : decode cX0_exchange 12 = .ok (.aload_n 0, 1) := by decide +kernel
theorem dX0_exchange_13 : decode cX0_exchange 13 = .ok (.getfield 31, 3) := by decide +kernel
theorem dX0_exchange_16 : decode cX0_exchange 16 = .ok (.iload_n 2, 1) := by decide +kernel
theorem dX0_exchange_17 : decode cX0_exchange 17 = .ok (.iaload, 1) := by decide +kernel
theorem dX0_exchange_18 : decode cX0_exchange 18 = .ok (.iastore, 1) := by decide +kernel
theorem dX0_exchange_19 : decode cX0_exchange 19 = .ok (.aload_n 0, 1) := by decide +kernel
theorem dX0_exchange_20 : decode cX0_exchange 20 = .ok (.getfield 31, 3) := by decide +kernel
theorem dX0_exchange_23 : decode cX0_exchange 23 = .ok (.iload_n 2, 1) := by decide +kernel
theorem dX0_exchange_24 : decode cX0_exchange 24 = .ok (.iload_n 3, 1) := by decide +kernel
theorem dX0_exchange_25 : decode cX0_exchange 25 = .ok (.iastore, 1) := by decide +kernel
theorem dX0_exchange_26 : decode cX0_exchange 26 = .ok (.return_, 1) := by decide +kernel
theorem dX0_growsOn_0 : decode cX0_growsOn 0 = .ok (.aload_n 0, 1) := by decide +kernel
theorem dX0_growsOn_1 : decode cX0_growsOn 1 = .ok (.getfield 31, 3) := by decide +kernel
theorem dX0_growsOn_4 : decode cX0_growsOn 4 = .ok (.iload_n 1, 1) := by decide +kernel
theorem dX0_growsOn_5 : decode cX0_growsOn 5 = .ok (.iaload, 1) := by decide +kernel
theorem dX0_growsOn_6 : decode cX0_growsOn 6 = .ok (.istore_n 2, 1) := by decide +kernel
theorem dX0_growsOn_7 : decode cX0_growsOn 7 = .ok (.iconst 1, 1) := by decide +kernel
theorem dX0_growsOn_8 : decode cX0_growsOn 8 = .ok (.aload_n 0, 1) := by decide +kernel
theorem dX0_growsOn_9 : decode cX0_growsOn 9 = .ok (.getfield 19, 3) := by decide +kernel
theorem dX0_growsOn_12 : decode cX0_growsOn 12 = .ok (.iload_n 2, 1) := by decide +kernel
theorem dX0_growsOn_13 : decode cX0_growsOn 13 = .ok (.iaload, 1) := by decide +kernel
theorem dX0_growsOn_14 : decode cX0_growsOn 14 = .ok (.iconst 3, 1) := by decide +kernel
theorem dX0_growsOn_15 : decode cX0_growsOn 15 = .ok (.irem, 1) := by decide +kernel
theorem dX0_growsOn_16 : decode cX0_growsOn 16 = .ok (.iadd, 1) := by decide +kernel
theorem dX0_growsOn_17 : decode cX0_growsOn 17 = .ok (.istore_n 3, 1) := by decide +kernel
theorem dX0_growsOn_18 : decode cX0_growsOn 18 = .ok (.aload_n 0, 1) := by decide +kernel
theorem dX0_growsOn_19 : decode cX0_growsOn 19 = .ok (.getfield 15, 3) := by decide +kernel
theorem dX0_growsOn_22 : decode cX0_growsOn 22 = .ok (.iload_n 2, 1) := by decide +kernel
theorem dX0_growsOn_23 : decode cX0_growsOn 23 = .ok (.iaload, 1) := by decide +kernel
theorem dX0_growsOn_24 : decode cX0_growsOn 24 = .ok (.tableswitch 82 1 6 #[40, 42, 44, 46, 63, 74], 40) := by decide +kernel
theorem dX0_growsOn_64 : decode cX0_growsOn 64 = .ok (.iload_n 3, 1) := by decide +kernel
theorem dX0_growsOn_65 : decode cX0_growsOn 65 = .ok (.ireturn, 1) := by decide +kernel
theorem dX0_growsOn_66 : decode cX0_growsOn 66 = .ok (.iconst 2, 1) := by decide +kernel
theorem dX0_growsOn_67 : decode cX0_growsOn 67 = .ok (.ireturn, 1) := by decide +kernel
theorem dX0_growsOn_68 : decode cX0_growsOn 68 = .ok (.iconst 0, 1) := by decide +kernel
theorem dX0_growsOn_69 : decode cX0_growsOn 69 = .ok (.ireturn, 1) := by decide +kernel
theorem dX0_growsOn_70 : decode cX0_growsOn 70 = .ok (.aload_n 0, 1) := by decide +kernel
theorem dX0_growsOn_71 : decode cX0_growsOn 71 = .ok (.getfield 25, 3) := by decide +kernel
theorem dX0_growsOn_74 : decode cX0_growsOn 74 = .ok (.iload_n 2, 1) := by decide +kernel
theorem dX0_growsOn_75 : decode cX0_growsOn 75 = .ok (.iaload, 1) := by decide +kernel
theorem dX0_growsOn_76 : decode cX0_growsOn 76 = .ok (.ifCond .ne 9, 3) := by decide +kernel
theorem dX0_growsOn_79 : decode cX0_growsOn 79 = .ok (.iconst 4, 1) := by decide +kernel
theorem dX0_growsOn_80 : decode cX0_growsOn 80 = .ok (.iload_n 3, 1) := by decide +kernel
theorem dX0_growsOn_81 : decode cX0_growsOn 81 = .ok (.imul, 1) := by decide +kernel
theorem dX0_growsOn_82 : decode cX0_growsOn 82 = .ok (.goto 4, 3) := by decide +kernel
theorem dX0_growsOn_85 : decode cX0_growsOn 85 = .ok (.iload_n 3, 1) := by decide +kernel
theorem dX0_growsOn_86 : decode cX0_growsOn 86 = .ok (.ireturn, 1) := by decide +kernel
theorem dX0_growsOn_87 : decode cX0_growsOn 87 = .ok (.iconst 2, 1) := by decide +kernel
theorem dX0_growsOn_88 : decode cX0_growsOn 88 = .ok (.aload_n 0, 1) := by decide +kernel
theorem dX0_growsOn_89 : decode cX0_growsOn 89 = .ok (.getfield 9, 3) := by decide +kernel
theorem dX0_growsOn_92 : decode cX0_growsOn 92 = .ok (.iconst 1, 1) := by decide +kernel
theorem dX0_growsOn_93 : decode cX0_growsOn 93 = .ok (.isub, 1) := by decide +kernel
theorem dX0_growsOn_94 : decode cX0_growsOn 94 = .ok (.iload_n 1, 1) := by decide +kernel
theorem dX0_growsOn_95 : decode cX0_growsOn 95 = .ok (.isub, 1) := by decide +kernel
theorem dX0_growsOn_96 : decode cX0_growsOn 96 = .ok (.iadd, 1) := by decide +kernel
theorem dX0_growsOn_97 : decode cX0_growsOn 97 = .ok (.ireturn, 1) := by decide +kernel
theorem dX0_growsOn_98 : decode cX0_growsOn 98 = .ok (.aload_n 0, 1) := by decide +kernel
theorem dX0_growsOn_99 : decode cX0_growsOn 99 = .ok (.getfield 19, 3) := by decide +kernel
theorem dX0_growsOn_102 : decode cX0_growsOn 102 = .ok (.iload_n 2, 1) := by decide +kernel
theorem dX0_growsOn_103 : decode cX0_growsOn 103 = .ok (.iaload, 1) := by decide +kernel
theorem dX0_growsOn_104 : decode cX0_growsOn 104 = .ok (.ineg, 1) := by decide +kernel
theorem dX0_growsOn_105 : decode cX0_growsOn 105 = .ok (.ireturn, 1) := by decide +kernel
theorem dX0_growsOn_106 : decode cX0_growsOn 106 = .ok (.iconst 1, 1) := by decide +kernel
theorem dX0_growsOn_107 : decode cX0_growsOn 107 = .ok (.ireturn, 1) := by decide +kernel
theorem dX0_pairUp_0 : decode cX0_pairUp 0 = .ok (.aload_n 3, 1) := by decide +kernel
theorem dX0_pairUp_1 : decode cX0_pairUp 1 = .ok (.aload_n 0, 1) := by decide +kernel
theorem dX0_pairUp_2 : decode cX0_pairUp 2 = .ok (.getfield 22, 3) := by decide +kernel
theorem dX0_pairUp_5 : decode cX0_pairUp 5 = .ok (.iload_n 1, 1) := by decide +kernel
theorem dX0_pairUp_6 : decode cX0_pairUp 6 = .ok (.iaload, 1) := by decide +kernel
theorem dX0_pairUp_7 : decode cX0_pairUp 7 = .ok (.aload_n 0, 1) := by decide +kernel
theorem dX0_pairUp_8 : decode cX0_pairUp 8 = .ok (.getfield 22, 3) := by decide +kernel
theorem dX0_pairUp_11 : decode cX0_pairUp 11 = .ok (.iload_n 2, 1) := by decide +kernel
theorem dX0_pairUp_12 : decode cX0_pairUp 12 = .ok (.iaload, 1) := by decide +kernel
theorem dX0_pairUp_13 : decode cX0_pairUp 13 = .ok (.aload_n 0, 1) := by decide +kernel
theorem dX0_pairUp_14 : decode cX0_pairUp 14 = .ok (.getfield 19, 3) := by decide +kernel
theorem dX0_pairUp_17 : decode cX0_pairUp 17 = .ok (.iload_n 1, 1) := by decide +kernel
theorem dX0_pairUp_18 : decode cX0_pairUp 18 = .ok (.iaload, 1) := by decide +kernel
theorem dX0_pairUp_19 : decode cX0_pairUp 19 = .ok (.invokevirtual 40, 3) := by decide +kernel
theorem dX0_pairUp_22 : decode cX0_pairUp 22 = .ok (.istore 4, 2) := by decide +kernel
theorem dX0_pairUp_24 : decode cX0_pairUp 24 = .ok (.aload_n 0, 1) := by decide +kernel
theorem dX0_pairUp_25 : decode cX0_pairUp 25 = .ok (.getfield 22, 3) := by decide +kernel
theorem dX0_pairUp_28 : decode cX0_pairUp 28 = .ok (.iload_n 2, 1) := by decide +kernel
theorem dX0_pairUp_29 : decode cX0_pairUp 29 = .ok (.aload_n 3, 1) := by decide +kernel
theorem dX0_pairUp_30 : decode cX0_pairUp 30 = .ok (.aload_n 0, 1) := by decide +kernel
theorem dX0_pairUp_31 : decode cX0_pairUp 31 = .ok (.getfield 22, 3) := by decide +kernel
theorem dX0_pairUp_34 : decode cX0_pairUp 34 = .ok (.iload_n 2, 1) := by decide +kernel
theorem dX0_pairUp_35 : decode cX0_pairUp 35 = .ok (.iaload, 1) := by decide +kernel
theorem dX0_pairUp_36 : decode cX0_pairUp 36 = .ok (.aload_n 0, 1) := by decide +kernel
theorem dX0_pairUp_37 : decode cX0_pairUp 37 = .ok (.getfield 22, 3) := by decide +kernel
theorem dX0_pairUp_40 : decode cX0_pairUp 40 = .ok (.iload_n 1, 1) := by decide +kernel
theorem dX0_pairUp_41 : decode cX0_pairUp 41 = .ok (.iaload, 1) := by decide +kernel
theorem dX0_pairUp_42 : decode cX0_pairUp 42 = .ok (.aload_n 0, 1) := by decide +kernel
theorem dX0_pairUp_43 : decode cX0_pairUp 43 = .ok (.getfield 19, 3) := by decide +kernel
theorem dX0_pairUp_46 : decode cX0_pairUp 46 = .ok (.iload_n 2, 1) := by decide +kernel
theorem dX0_pairUp_47 : decode cX0_pairUp 47 = .ok (.iaload, 1) := by decide +kernel
theorem dX0_pairUp_48 : decode cX0_pairUp 48 = .ok (.invokevirtual 40, 3) := by decide +kernel
theorem dX0_pairUp_51 : decode cX0_pairUp 51 = .ok (.iastore, 1) := by decide +kernel
theorem dX0_pairUp_52 : decode cX0_pairUp 52 = .ok (.aload_n 0, 1) := by decide +kernel
theorem dX0_pairUp_53 : decode cX0_pairUp 53 = .ok (.getfield 22, 3) := by decide +kernel
theorem dX0_pairUp_56 : decode cX0_pairUp 56 = .ok (.iload_n 1, 1) := by decide +kernel
theorem dX0_pairUp_57 : decode cX0_pairUp 57 = .ok (.iload 4, 2) := by decide +kernel
theorem dX0_pairUp_59 : decode cX0_pairUp 59 = .ok (.iastore, 1) := by decide +kernel
theorem dX0_pairUp_60 : decode cX0_pairUp 60 = .ok (.aload_n 0, 1) := by decide +kernel
theorem dX0_pairUp_61 : decode cX0_pairUp 61 = .ok (.iload_n 1, 1) := by decide +kernel
theorem dX0_pairUp_62 : decode cX0_pairUp 62 = .ok (.invokevirtual 46, 3) := by decide +kernel
theorem dX0_pairUp_65 : decode cX0_pairUp 65 = .ok (.aload_n 0, 1) := by decide +kernel
theorem dX0_pairUp_66 : decode cX0_pairUp 66 = .ok (.iload_n 2, 1) := by decide +kernel
theorem dX0_pairUp_67 : decode cX0_pairUp 67 = .ok (.invokevirtual 46, 3) := by decide +kernel
theorem dX0_pairUp_70 : decode cX0_pairUp 70 = .ok (.return_, 1) := by decide +kernel
theorem dX0_noteDanced_0 : decode cX0_noteDanced 0 = .ok (.aload_n 0, 1) := by decide +kernel
theorem dX0_noteDanced_1 : decode cX0_noteDanced 1 = .ok (.getfield 25, 3) := by decide +kernel
theorem dX0_noteDanced_4 : decode cX0_noteDanced 4 = .ok (.iload_n 1, 1) := by decide +kernel
theorem dX0_noteDanced_5 : decode cX0_noteDanced 5 = .ok (.aload_n 0, 1) := by decide +kernel
theorem dX0_noteDanced_6 : decode cX0_noteDanced 6 = .ok (.getfield 25, 3) := by decide +kernel
theorem dX0_noteDanced_9 : decode cX0_noteDanced 9 = .ok (.iload_n 1, 1) := by decide +kernel
theorem dX0_noteDanced_10 : decode cX0_noteDanced 10 = .ok (.iaload, 1) := by decide +kernel
theorem dX0_noteDanced_11 : decode cX0_noteDanced 11 = .ok (.iconst 1, 1) := by decide +kernel
theorem dX0_noteDanced_12 : decode cX0_noteDanced 12 = .ok (.iadd, 1) := by decide +kernel
theorem dX0_noteDanced_13 : decode cX0_noteDanced 13 = .ok (.sipush 999, 3) := by decide +kernel
theorem dX0_noteDanced_16 : decode cX0_noteDanced 16 = .ok (.invokestatic 50, 3) := by decide +kernel
theorem dX0_noteDanced_19 : decode cX0_noteDanced 19 = .ok (.iastore, 1) := by decide +kernel
theorem dX0_noteDanced_20 : decode cX0_noteDanced 20 = .ok (.aload_n 0, 1) := by decide +kernel
theorem dX0_noteDanced_21 : decode cX0_noteDanced 21 = .ok (.getfield 28, 3) := by decide +kernel
theorem dX0_noteDanced_24 : decode cX0_noteDanced 24 = .ok (.iload_n 1, 1) := by decide +kernel
theorem dX0_noteDanced_25 : decode cX0_noteDanced 25 = .ok (.iconst 0, 1) := by decide +kernel
theorem dX0_noteDanced_26 : decode cX0_noteDanced 26 = .ok (.iastore, 1) := by decide +kernel
theorem dX0_noteDanced_27 : decode cX0_noteDanced 27 = .ok (.return_, 1) := by decide +kernel
theorem dX0_passHours_0 : decode cX0_passHours 0 = .ok (.iconst 0, 1) := by decide +kernel
theorem dX0_passHours_1 : decode cX0_passHours 1 = .ok (.istore_n 3, 1) := by decide +kernel
theorem dX0_passHours_2 : decode cX0_passHours 2 = .ok (.iload_n 3, 1) := by decide +kernel
theorem dX0_passHours_3 : decode cX0_passHours 3 = .ok (.iload_n 1, 1) := by decide +kernel
theorem dX0_passHours_4 : decode cX0_passHours 4 = .ok (.if_icmp .ge 18, 3) := by decide +kernel
theorem dX0_passHours_7 : decode cX0_passHours 7 = .ok (.aload_n 0, 1) := by decide +kernel
theorem dX0_passHours_8 : decode cX0_passHours 8 = .ok (.invokevirtual 56, 3) := by decide +kernel
theorem dX0_passHours_11 : decode cX0_passHours 11 = .ok (.aload_n 0, 1) := by decide +kernel
theorem dX0_passHours_12 : decode cX0_passHours 12 = .ok (.aload_n 2, 1) := by decide +kernel
theorem dX0_passHours_13 : decode cX0_passHours 13 = .ok (.invokevirtual 59, 3) := by decide +kernel
theorem dX0_passHours_16 : decode cX0_passHours 16 = .ok (.iinc 3 1, 3) := by decide +kernel
theorem dX0_passHours_19 : decode cX0_passHours 19 = .ok (.goto (-17), 3) := by decide +kernel
theorem dX0_passHours_22 : decode cX0_passHours 22 = .ok (.return_, 1) := by decide +kernel
theorem dX0_growRue_0 : decode cX0_growRue 0 = .ok (.iconst 0, 1) := by decide +kernel
theorem dX0_growRue_1 : decode cX0_growRue 1 = .ok (.istore_n 1, 1) := by decide +kernel
theorem dX0_growRue_2 : decode cX0_growRue 2 = .ok (.iload_n 1, 1) := by decide +kernel
theorem dX0_growRue_3 : decode cX0_growRue 3 = .ok (.aload_n 0, 1) := by decide +kernel
theorem dX0_growRue_4 : decode cX0_growRue 4 = .ok (.getfield 9, 3) := by decide +kernel
theorem dX0_growRue_7 : decode cX0_growRue 7 = .ok (.if_icmp .ge 53, 3) := by decide +kernel
theorem dX0_growRue_10 : decode cX0_growRue 10 = .ok (.aload_n 0, 1) := by decide +kernel
theorem dX0_growRue_11 : decode cX0_growRue 11 = .ok (.getfield 31, 3) := by decide +kernel
theorem dX0_growRue_14 : decode cX0_growRue 14 = .ok (.iload_n 1, 1) := by decide +kernel
theorem dX0_growRue_15 : decode cX0_growRue 15 = .ok (.iaload, 1) := by decide +kernel
theorem dX0_growRue_16 : decode cX0_growRue 16 = .ok (.istore_n 2, 1) := by decide +kernel
theorem dX0_growRue_17 : decode cX0_growRue 17 = .ok (.aload_n 0, 1) := by decide +kernel
theorem dX0_growRue_18 : decode cX0_growRue 18 = .ok (.getfield 28, 3) := by decide +kernel
theorem dX0_growRue_21 : decode cX0_growRue 21 = .ok (.iload_n 2, 1) := by decide +kernel
theorem dX0_growRue_22 : decode cX0_growRue 22 = .ok (.iaload, 1) := by decide +kernel
theorem dX0_growRue_23 : decode cX0_growRue 23 = .ok (.ifCond .eq 24, 3) := by decide +kernel
theorem dX0_growRue_26 : decode cX0_growRue 26 = .ok (.aload_n 0, 1) := by decide +kernel
theorem dX0_growRue_27 : decode cX0_growRue 27 = .ok (.getfield 22, 3) := by decide +kernel
theorem dX0_growRue_30 : decode cX0_growRue 30 = .ok (.iload_n 2, 1) := by decide +kernel
theorem dX0_growRue_31 : decode cX0_growRue 31 = .ok (.aload_n 0, 1) := by decide +kernel
theorem dX0_growRue_32 : decode cX0_growRue 32 = .ok (.getfield 22, 3) := by decide +kernel
theorem dX0_growRue_35 : decode cX0_growRue 35 = .ok (.iload_n 2, 1) := by decide +kernel
theorem dX0_growRue_36 : decode cX0_growRue 36 = .ok (.iaload, 1) := by decide +kernel
theorem dX0_growRue_37 : decode cX0_growRue 37 = .ok (.aload_n 0, 1) := by decide +kernel
theorem dX0_growRue_38 : decode cX0_growRue 38 = .ok (.iload_n 1, 1) := by decide +kernel
theorem dX0_growRue_39 : decode cX0_growRue 39 = .ok (.invokevirtual 63, 3) := by decide +kernel
theorem dX0_growRue_42 : decode cX0_growRue 42 = .ok (.iadd, 1) := by decide +kernel
theorem dX0_growRue_43 : decode cX0_growRue 43 = .ok (.invokestatic 67, 3) := by decide +kernel
theorem dX0_growRue_46 : decode cX0_growRue 46 = .ok (.iastore, 1) := by decide +kernel
theorem dX0_growRue_47 : decode cX0_growRue 47 = .ok (.aload_n 0, 1) := by decide +kernel
theorem dX0_growRue_48 : decode cX0_growRue 48 = .ok (.getfield 28, 3) := by decide +kernel
theorem dX0_growRue_51 : decode cX0_growRue 51 = .ok (.iload_n 2, 1) := by decide +kernel
theorem dX0_growRue_52 : decode cX0_growRue 52 = .ok (.iconst 1, 1) := by decide +kernel
theorem dX0_growRue_53 : decode cX0_growRue 53 = .ok (.iastore, 1) := by decide +kernel
theorem dX0_growRue_54 : decode cX0_growRue 54 = .ok (.iinc 1 1, 3) := by decide +kernel
theorem dX0_growRue_57 : decode cX0_growRue 57 = .ok (.goto (-55), 3) := by decide +kernel
theorem dX0_growRue_60 : decode cX0_growRue 60 = .ok (.return_, 1) := by decide +kernel
theorem dX0_shiftNeighbours_0 : decode cX0_shiftNeighbours 0 = .ok (.iconst 0, 1) := by decide +kernel
theorem dX0_shiftNeighbours_1 : decode cX0_shiftNeighbours 1 = .ok (.istore_n 2, 1) := by decide +kernel
theorem dX0_shiftNeighbours_2 : decode cX0_shiftNeighbours 2 = .ok (.iload_n 2, 1) := by decide +kernel
theorem dX0_shiftNeighbours_3 : decode cX0_shiftNeighbours 3 = .ok (.iconst 1, 1) := by decide +kernel
theorem dX0_shiftNeighbours_4 : decode cX0_shiftNeighbours 4 = .ok (.iadd, 1) := by decide +kernel
theorem dX0_shiftNeighbours_5 : decode cX0_shiftNeighbours 5 = .ok (.aload_n 0, 1) := by decide +kernel
theorem dX0_shiftNeighbours_6 : decode cX0_shiftNeighbours 6 = .ok (.getfield 9, 3) := by decide +kernel
theorem dX0_shiftNeighbours_9 : decode cX0_shiftNeighbours 9 = .ok (.if_icmp .ge 67, 3) := by decide +kernel
theorem dX0_shiftNeighbours_12 : decode cX0_shiftNeighbours 12 = .ok (.aload_n 0, 1) := by decide +kernel
theorem dX0_shiftNeighbours_13 : decode cX0_shiftNeighbours 13 = .ok (.getfield 31, 3) := by decide +kernel
theorem dX0_shiftNeighbours_16 : decode cX0_shiftNeighbours 16 = .ok (.iload_n 2, 1) := by decide +kernel
theorem dX0_shiftNeighbours_17 : decode cX0_shiftNeighbours 17 = .ok (.iaload, 1) := by decide +kernel
theorem dX0_shiftNeighbours_18 : decode cX0_shiftNeighbours 18 = .ok (.istore_n 3, 1) := by decide +kernel
theorem dX0_shiftNeighbours_19 : decode cX0_shiftNeighbours 19 = .ok (.aload_n 0, 1) := by decide +kernel
theorem dX0_shiftNeighbours_20 : decode cX0_shiftNeighbours 20 = .ok (.getfield 22, 3) := by decide +kernel
theorem dX0_shiftNeighbours_23 : decode cX0_shiftNeighbours 23 = .ok (.iload_n 3, 1) := by decide +kernel
theorem dX0_shiftNeighbours_24 : decode cX0_shiftNeighbours 24 = .ok (.iaload, 1) := by decide +kernel
theorem dX0_shiftNeighbours_25 : decode cX0_shiftNeighbours 25 = .ok (.aload_n 0, 1) := by decide +kernel
theorem dX0_shiftNeighbours_26 : decode cX0_shiftNeighbours 26 = .ok (.getfield 22, 3) := by decide +kernel
theorem dX0_shiftNeighbours_29 : decode cX0_shiftNeighbours 29 = .ok (.aload_n 0, 1) := by decide +kernel
theorem dX0_shiftNeighbours_30 : decode cX0_shiftNeighbours 30 = .ok (.getfield 31, 3) := by decide +kernel
theorem dX0_shiftNeighbours_33 : decode cX0_shiftNeighbours 33 = .ok (.iload_n 2, 1) := by decide +kernel
theorem dX0_shiftNeighbours_34 : decode cX0_shiftNeighbours 34 = .ok (.iconst 1, 1) := by decide +kernel
theorem dX0_shiftNeighbours_35 : decode cX0_shiftNeighbours 35 = .ok (.iadd, 1) := by decide +kernel
theorem dX0_shiftNeighbours_36 : decode cX0_shiftNeighbours 36 = .ok (.iaload, 1) := by decide +kernel
theorem dX0_shiftNeighbours_37 : decode cX0_shiftNeighbours 37 = .ok (.iaload, 1) := by decide +kernel
theorem dX0_shiftNeighbours_38 : decode cX0_shiftNeighbours 38 = .ok (.isub, 1) := by decide +kernel
theorem dX0_shiftNeighbours_39 : decode cX0_shiftNeighbours 39 = .ok (.istore 4, 2) := by decide +kernel
theorem dX0_shiftNeighbours_41 : decode cX0_shiftNeighbours 41 = .ok (.iload 4, 2) := by decide +kernel
theorem dX0_shiftNeighbours_43 : decode cX0_shiftNeighbours 43 = .ok (.ifCond .le 27, 3) := by decide +kernel
theorem dX0_shiftNeighbours_46 : decode cX0_shiftNeighbours 46 = .ok (.aload_n 1, 1) := by decide +kernel
theorem dX0_shiftNeighbours_47 : decode cX0_shiftNeighbours 47 = .ok (.iload 4, 2) := by decide +kernel
theorem dX0_shiftNeighbours_49 : decode cX0_shiftNeighbours 49 = .ok (.aload_n 0, 1) := by decide +kernel
theorem dX0_shiftNeighbours_50 : decode cX0_shiftNeighbours 50 = .ok (.getfield 19, 3) := by decide +kernel
theorem dX0_shiftNeighbours_53 : decode cX0_shiftNeighbours 53 = .ok (.iload_n 3, 1) := by decide +kernel
theorem dX0_shiftNeighbours_54 : decode cX0_shiftNeighbours 54 = .ok (.iaload, 1) := by decide +kernel
theorem dX0_shiftNeighbours_55 : decode cX0_shiftNeighbours 55 = .ok (.iload_n 2, 1) := by decide +kernel
theorem dX0_shiftNeighbours_56 : decode cX0_shiftNeighbours 56 = .ok (.invokevirtual 40, 3) := by decide +kernel
theorem dX0_shiftNeighbours_59 : decode cX0_shiftNeighbours 59 = .ok (.ifCond .eq 11, 3) := by decide +kernel
theorem dX0_shiftNeighbours_62 : decode cX0_shiftNeighbours 62 = .ok (.aload_n 0, 1) := by decide +kernel
theorem dX0_shiftNeighbours_63 : decode cX0_shiftNeighbours 63 = .ok (.iload_n 2, 1) := by decide +kernel
theorem dX0_shiftNeighbours_64 : decode cX0_shiftNeighbours 64 = .ok (.iload_n 2, 1) := by decide +kernel
theorem dX0_shiftNeighbours_65 : decode cX0_shiftNeighbours 65 = .ok (.iconst 1, 1) := by decide +kernel
theorem dX0_shiftNeighbours_66 : decode cX0_shiftNeighbours 66 = .ok (.iadd, 1) := by decide +kernel
theorem dX0_shiftNeighbours_67 : decode cX0_shiftNeighbours 67 = .ok (.invokevirtual 70, 3) := by decide +kernel
theorem dX0_shiftNeighbours_70 : decode cX0_shiftNeighbours 70 = .ok (.iinc 2 1, 3) := by decide +kernel
theorem dX0_shiftNeighbours_73 : decode cX0_shiftNeighbours 73 = .ok (.goto (-71), 3) := by decide +kernel
theorem dX0_shiftNeighbours_76 : decode cX0_shiftNeighbours 76 = .ok (.return_, 1) := by decide +kernel
theorem dX0_wrongPairs_0 : decode cX0_wrongPairs 0 = .ok (.iconst 0, 1) := by decide +kernel
theorem dX0_wrongPairs_1 : decode cX0_wrongPairs 1 = .ok (.istore_n 1, 1) := by decide +kernel
theorem dX0_wrongPairs_2 : decode cX0_wrongPairs 2 = .ok (.iconst 0, 1) := by decide +kernel
theorem dX0_wrongPairs_3 : decode cX0_wrongPairs 3 = .ok (.istore_n 2, 1) := by decide +kernel
theorem dX0_wrongPairs_4 : decode cX0_wrongPairs 4 = .ok (.iload_n 2, 1) := by decide +kernel
theorem dX0_wrongPairs_5 : decode cX0_wrongPairs 5 = .ok (.aload_n 0, 1) := by decide +kernel
theorem dX0_wrongPairs_6 : decode cX0_wrongPairs 6 = .ok (.getfield 9, 3) := by decide +kernel
theorem dX0_wrongPairs_9 : decode cX0_wrongPairs 9 = .ok (.if_icmp .ge 55, 3) := by decide +kernel
theorem dX0_wrongPairs_12 : decode cX0_wrongPairs 12 = .ok (.iload_n 2, 1) := by decide +kernel
theorem dX0_wrongPairs_13 : decode cX0_wrongPairs 13 = .ok (.iconst 1, 1) := by decide +kernel
theorem dX0_wrongPairs_14 : decode cX0_wrongPairs 14 = .ok (.iadd, 1) := by decide +kernel
theorem dX0_wrongPairs_15 : decode cX0_wrongPairs 15 = .ok (.istore_n 3, 1) := by decide +kernel
theorem dX0_wrongPairs_16 : decode cX0_wrongPairs 16 = .ok (.iload_n 3, 1) := by decide +kernel
theorem dX0_wrongPairs_17 : decode cX0_wrongPairs 17 = .ok (.aload_n 0, 1) := by decide +kernel
theorem dX0_wrongPairs_18 : decode cX0_wrongPairs 18 = .ok (.getfield 9, 3) := by decide +kernel
theorem dX0_wrongPairs_21 : decode cX0_wrongPairs 21 = .ok (.if_icmp .ge 37, 3) := by decide +kernel
theorem dX0_wrongPairs_24 : decode cX0_wrongPairs 24 = .ok (.aload_n 0, 1) := by decide +kernel
theorem dX0_wrongPairs_25 : decode cX0_wrongPairs 25 = .ok (.getfield 22, 3) := by decide +kernel
theorem dX0_wrongPairs_28 : decode cX0_wrongPairs 28 = .ok (.aload_n 0, 1) := by decide +kernel
theorem dX0_wrongPairs_29 : decode cX0_wrongPairs 29 = .ok (.getfield 31, 3) := by decide +kernel
theorem dX0_wrongPairs_32 : decode cX0_wrongPairs 32 = .ok (.iload_n 2, 1) := by decide +kernel
theorem dX0_wrongPairs_33 : decode cX0_wrongPairs 33 = .ok (.iaload, 1) := by decide +kernel
theorem dX0_wrongPairs_34 : decode cX0_wrongPairs 34 = .ok (.iaload, 1) := by decide +kernel
theorem dX0_wrongPairs_35 : decode cX0_wrongPairs 35 = .ok (.aload_n 0, 1) := by decide +kernel
theorem dX0_wrongPairs_36 : decode cX0_wrongPairs 36 = .ok (.getfield 22, 3) := by decide +kernel
theorem dX0_wrongPairs_39 : decode cX0_wrongPairs 39 = .ok (.aload_n 0, 1) := by decide +kernel
theorem dX0_wrongPairs_40 : decode cX0_wrongPairs 40 = .ok (.getfield 31, 3) := by decide +kernel
theorem dX0_wrongPairs_43 : decode cX0_wrongPairs 43 = .ok (.iload_n 3, 1) := by decide +kernel
theorem dX0_wrongPairs_44 : decode cX0_wrongPairs 44 = .ok (.iaload, 1) := by decide +kernel
theorem dX0_wrongPairs_45 : decode cX0_wrongPairs 45 = .ok (.iaload, 1) := by decide +kernel
theorem dX0_wrongPairs_46 : decode cX0_wrongPairs 46 = .ok (.if_icmp .le 6, 3) := by decide +kernel
theorem dX0_wrongPairs_49 : decode cX0_wrongPairs 49 = .ok (.iinc 1 1, 3) := by decide +kernel
theorem dX0_wrongPairs_52 : decode cX0_wrongPairs 52 = .ok (.iinc 3 1, 3) := by decide +kernel
theorem dX0_wrongPairs_55 : decode cX0_wrongPairs 55 = .ok (.goto (-39), 3) := by decide +kernel
theorem dX0_wrongPairs_58 : decode cX0_wrongPairs 58 = .ok (.iinc 2 1, 3) := by decide +kernel
theorem dX0_wrongPairs_61 : decode cX0_wrongPairs 61 = .ok (.goto (-57), 3) := by decide +kernel
theorem dX0_wrongPairs_64 : decode cX0_wrongPairs 64 = .ok (.iload_n 1, 1) := by decide +kernel
theorem dX0_wrongPairs_65 : decode cX0_wrongPairs 65 = .ok (.ireturn, 1) := by decide +kernel
theorem dX0_rueTogether_0 : decode cX0_rueTogether 0 = .ok (.iconst 0, 1) := by decide +kernel
theorem dX0_rueTogether_1 : decode cX0_rueTogether 1 = .ok (.istore_n 1, 1) := by decide +kernel
theorem dX0_rueTogether_2 : decode cX0_rueTogether 2 = .ok (.iconst 0, 1) := by decide +kernel
theorem dX0_rueTogether_3 : decode cX0_rueTogether 3 = .ok (.istore_n 2, 1) := by decide +kernel
theorem dX0_rueTogether_4 : decode cX0_rueTogether 4 = .ok (.iload_n 2, 1) := by decide +kernel
theorem dX0_rueTogether_5 : decode cX0_rueTogether 5 = .ok (.aload_n 0, 1) := by decide +kernel
theorem dX0_rueTogether_6 : decode cX0_rueTogether 6 = .ok (.getfield 9, 3) := by decide +kernel
theorem dX0_rueTogether_9 : decode cX0_rueTogether 9 = .ok (.if_icmp .ge 18, 3) := by decide +kernel
theorem dX0_rueTogether_12 : decode cX0_rueTogether 12 = .ok (.iload_n 1, 1) := by decide +kernel
theorem dX0_rueTogether_13 : decode cX0_rueTogether 13 = .ok (.aload_n 0, 1) := by decide +kernel
theorem dX0_rueTogether_14 : decode cX0_rueTogether 14 = .ok (.getfield 22, 3) := by decide +kernel
theorem dX0_rueTogether_17 : decode cX0_rueTogether 17 = .ok (.iload_n 2, 1) := by decide +kernel
theorem dX0_rueTogether_18 : decode cX0_rueTogether 18 = .ok (.iaload, 1) := by decide +kernel
theorem dX0_rueTogether_19 : decode cX0_rueTogether 19 = .ok (.iadd, 1) := by decide +kernel
theorem dX0_rueTogether_20 : decode cX0_rueTogether 20 = .ok (.istore_n 1, 1) := by decide +kernel
theorem dX0_rueTogether_21 : decode cX0_rueTogether 21 = .ok (.iinc 2 1, 3) := by decide +kernel
theorem dX0_rueTogether_24 : decode cX0_rueTogether 24 = .ok (.goto (-20), 3) := by decide +kernel
theorem dX0_rueTogether_27 : decode cX0_rueTogether 27 = .ok (.iload_n 1, 1) := by decide +kernel
theorem dX0_rueTogether_28 : decode cX0_rueTogether 28 = .ok (.ireturn, 1) := by decide +kernel
theorem dX0_dancedTogether_0 : decode cX0_dancedTogether 0 = .ok (.iconst 0, 1) := by decide +kernel
theorem dX0_dancedTogether_1 : decode cX0_dancedTogether 1 = .ok (.istore_n 1, 1) := by decide +kernel
theorem dX0_dancedTogether_2 : decode cX0_dancedTogether 2 = .ok (.iconst 0, 1) := by decide +kernel
theorem dX0_dancedTogether_3 : decode cX0_dancedTogether 3 = .ok (.istore_n 2, 1) := by decide +kernel
theorem dX0_dancedTogether_4 : decode cX0_dancedTogether 4 = .ok (.iload_n 2, 1) := by decide +kernel
theorem dX0_dancedTogether_5 : decode cX0_dancedTogether 5 = .ok (.aload_n 0, 1) := by decide +kernel
theorem dX0_dancedTogether_6 : decode cX0_dancedTogether 6 = .ok (.getfield 9, 3) := by decide +kernel
theorem dX0_dancedTogether_9 : decode cX0_dancedTogether 9 = .ok (.if_icmp .ge 18, 3) := by decide +kernel
theorem dX0_dancedTogether_12 : decode cX0_dancedTogether 12 = .ok (.iload_n 1, 1) := by decide +kernel
theorem dX0_dancedTogether_13 : decode cX0_dancedTogether 13 = .ok (.aload_n 0, 1) := by decide +kernel
theorem dX0_dancedTogether_14 : decode cX0_dancedTogether 14 = .ok (.getfield 25, 3) := by decide +kernel
theorem dX0_dancedTogether_17 : decode cX0_dancedTogether 17 = .ok (.iload_n 2, 1) := by decide +kernel
theorem dX0_dancedTogether_18 : decode cX0_dancedTogether 18 = .ok (.iaload, 1) := by decide +kernel
theorem dX0_dancedTogether_19 : decode cX0_dancedTogether 19 = .ok (.iadd, 1) := by decide +kernel
theorem dX0_dancedTogether_20 : decode cX0_dancedTogether 20 = .ok (.istore_n 1, 1) := by decide +kernel
theorem dX0_dancedTogether_21 : decode cX0_dancedTogether 21 = .ok (.iinc 2 1, 3) := by decide +kernel
theorem dX0_dancedTogether_24 : decode cX0_dancedTogether 24 = .ok (.goto (-20), 3) := by decide +kernel
theorem dX0_dancedTogether_27 : decode cX0_dancedTogether 27 = .ok (.iload_n 1, 1) := by decide +kernel
theorem dX0_dancedTogether_28 : decode cX0_dancedTogether 28 = .ok (.ireturn, 1) := by decide +kernel
theorem dX0_idleSet_0 : decode cX0_idleSet 0 = .ok (.iconst 0, 1) := by decide +kernel
theorem dX0_idleSet_1 : decode cX0_idleSet 1 = .ok (.istore_n 1, 1) := by decide +kernel
theorem dX0_idleSet_2 : decode cX0_idleSet 2 = .ok (.iconst 0, 1) := by decide +kernel
theorem dX0_idleSet_3 : decode cX0_idleSet 3 = .ok (.istore_n 2, 1) := by decide +kernel
theorem dX0_idleSet_4 : decode cX0_idleSet 4 = .ok (.iload_n 2, 1) := by decide +kernel
theorem dX0_idleSet_5 : decode cX0_idleSet 5 = .ok (.aload_n 0, 1) := by decide +kernel
theorem dX0_idleSet_6 : decode cX0_idleSet 6 = .ok (.getfield 9, 3) := by decide +kernel
theorem dX0_idleSet_9 : decode cX0_idleSet 9 = .ok (.if_icmp .ge 20, 3) := by decide +kernel
theorem dX0_idleSet_12 : decode cX0_idleSet 12 = .ok (.iload_n 1, 1) := by decide +kernel
theorem dX0_idleSet_13 : decode cX0_idleSet 13 = .ok (.aload_n 0, 1) := by decide +kernel
theorem dX0_idleSet_14 : decode cX0_idleSet 14 = .ok (.getfield 28, 3) := by decide +kernel
theorem dX0_idleSet_17 : decode cX0_idleSet 17 = .ok (.iload_n 2, 1) := by decide +kernel
theorem dX0_idleSet_18 : decode cX0_idleSet 18 = .ok (.iaload, 1) := by decide +kernel
theorem dX0_idleSet_19 : decode cX0_idleSet 19 = .ok (.iload_n 2, 1) := by decide +kernel
theorem dX0_idleSet_20 : decode cX0_idleSet 20 = .ok (.ishl, 1) := by decide +kernel
theorem dX0_idleSet_21 : decode cX0_idleSet 21 = .ok (.ior, 1) := by decide +kernel
theorem dX0_idleSet_22 : decode cX0_idleSet 22 = .ok (.istore_n 1, 1) := by decide +kernel
theorem dX0_idleSet_23 : decode cX0_idleSet 23 = .ok (.iinc 2 1, 3) := by decide +kernel
theorem dX0_idleSet_26 : decode cX0_idleSet 26 = .ok (.goto (-22), 3) := by decide +kernel
theorem dX0_idleSet_29 : decode cX0_idleSet 29 = .ok (.iload_n 1, 1) := by decide +kernel
theorem dX0_idleSet_30 : decode cX0_idleSet 30 = .ok (.ireturn, 1) := by decide +kernel
theorem dX1_init_0 : decode cX1_init 0 = .ok (.aload_n 0, 1) := by decide +kernel
theorem dX1_init_1 : decode cX1_init 1 = .ok (.invokespecial 3, 3) := by decide +kernel
theorem dX1_init_4 : decode cX1_init 4 = .ok (.aload_n 0, 1) := by decide +kernel
theorem dX1_init_5 : decode cX1_init 5 = .ok (.new 9, 3) := by decide +kernel
theorem dX1_init_8 : decode cX1_init 8 = .ok (.dup, 1) := by decide +kernel
theorem dX1_init_9 : decode cX1_init 9 = .ok (.invokespecial 11, 3) := by decide +kernel
theorem dX1_init_12 : decode cX1_init 12 = .ok (.putfield 12, 3) := by decide +kernel
theorem dX1_init_15 : decode cX1_init 15 = .ok (.aload_n 0, 1) := by decide +kernel
theorem dX1_init_16 : decode cX1_init 16 = .ok (.new 18, 3) := by decide +kernel
theorem dX1_init_19 : decode cX1_init 19 = .ok (.dup, 1) := by decide +kernel
theorem dX1_init_20 : decode cX1_init 20 = .ok (.iconst 0, 1) := by decide +kernel
theorem dX1_init_21 : decode cX1_init 21 = .ok (.invokespecial 20, 3) := by decide +kernel
theorem dX1_init_24 : decode cX1_init 24 = .ok (.putfield 23, 3) := by decide +kernel
theorem dX1_init_27 : decode cX1_init 27 = .ok (.aload_n 0, 1) := by decide +kernel
theorem dX1_init_28 : decode cX1_init 28 = .ok (.new 18, 3) := by decide +kernel
theorem dX1_init_31 : decode cX1_init 31 = .ok (.dup, 1) := by decide +kernel
theorem dX1_init_32 : decode cX1_init 32 = .ok (.iconst 1, 1) := by decide +kernel
theorem dX1_init_33 : decode cX1_init 33 = .ok (.invokespecial 20, 3) := by decide +kernel
theorem dX1_init_36 : decode cX1_init 36 = .ok (.putfield 27, 3) := by decide +kernel
theorem dX1_init_39 : decode cX1_init 39 = .ok (.aload_n 0, 1) := by decide +kernel
theorem dX1_init_40 : decode cX1_init 40 = .ok (.bipush 50, 2) := by decide +kernel
theorem dX1_init_42 : decode cX1_init 42 = .ok (.newarray .byte, 2) := by decide +kernel
theorem dX1_init_44 : decode cX1_init 44 = .ok (.putfield 30, 3) := by decide +kernel
theorem dX1_init_47 : decode cX1_init 47 = .ok (.aload_n 0, 1) := by decide +kernel
theorem dX1_init_48 : decode cX1_init 48 = .ok (.iconst 0, 1) := by decide +kernel
theorem dX1_init_49 : decode cX1_init 49 = .ok (.putfield 34, 3) := by decide +kernel
theorem dX1_init_52 : decode cX1_init 52 = .ok (.aload_n 0, 1) := by decide +kernel
theorem dX1_init_53 : decode cX1_init 53 = .ok (.bipush 20, 2) := by decide +kernel
theorem dX1_init_55 : decode cX1_init 55 = .ok (.newarray .int, 2) := by decide +kernel
theorem dX1_init_57 : decode cX1_init 57 = .ok (.putfield 38, 3) := by decide +kernel
theorem dX1_init_60 : decode cX1_init 60 = .ok (.aload_n 0, 1) := by decide +kernel
theorem dX1_init_61 : decode cX1_init 61 = .ok (.iconst 0, 1) := by decide +kernel
theorem dX1_init_62 : decode cX1_init 62 = .ok (.putfield 42, 3) := by decide +kernel
theorem dX1_init_65 : decode cX1_init 65 = .ok (.aload_n 0, 1) := by decide +kernel
theorem dX1_init_66 : decode cX1_init 66 = .ok (.iconst 0, 1) := by decide +kernel
theorem dX1_init_67 : decode cX1_init 67 = .ok (.putfield 45, 3) := by decide +kernel
theorem dX1_init_70 : decode cX1_init 70 = .ok (.aload_n 0, 1) := by decide +kernel
theorem dX1_init_71 : decode cX1_init 71 = .ok (.iconst 1, 1) := by decide +kernel
theorem dX1_init_72 : decode cX1_init 72 = .ok (.putfield 48, 3) := by decide +kernel
theorem dX1_init_75 : decode cX1_init 75 = .ok (.return_, 1) := by decide +kernel
theorem dX1_takeFrom_0 : decode cX1_takeFrom 0 = .ok (.aload_n 0, 1) := by decide +kernel
theorem dX1_takeFrom_1 : decode cX1_takeFrom 1 = .ok (.getfield 12, 3) := by decide +kernel
theorem dX1_takeFrom_4 : decode cX1_takeFrom 4 = .ok (.aload_n 1, 1) := by decide +kernel
theorem dX1_takeFrom_5 : decode cX1_takeFrom 5 = .ok (.getfield 12, 3) := by decide +kernel
theorem dX1_takeFrom_8 : decode cX1_takeFrom 8 = .ok (.invokevirtual 51, 3) := by decide +kernel
theorem dX1_takeFrom_11 : decode cX1_takeFrom 11 = .ok (.aload_n 0, 1) := by decide +kernel
theorem dX1_takeFrom_12 : decode cX1_takeFrom 12 = .ok (.getfield 23, 3) := by decide +kernel
theorem dX1_takeFrom_15 : decode cX1_takeFrom 15 = .ok (.aload_n 1, 1) := by decide +kernel
theorem dX1_takeFrom_16 : decode cX1_takeFrom 16 = .ok (.getfield 23, 3) := by decide +kernel
theorem dX1_takeFrom_19 : decode cX1_takeFrom 19 = .ok (.getfield 55, 3) := by decide +kernel
theorem dX1_takeFrom_22 : decode cX1_takeFrom 22 = .ok (.aload_n 1, 1) := by decide +kernel
theorem dX1_takeFrom_23 : decode cX1_takeFrom 23 = .ok (.getfield 23, 3) := by decide +kernel
theorem dX1_takeFrom_26 : decode cX1_takeFrom 26 = .ok (.getfield 58, 3) := by decide +kernel
theorem dX1_takeFrom_29 : decode cX1_takeFrom 29 = .ok (.invokevirtual 61, 3) := by decide +kernel
theorem dX1_takeFrom_32 : decode cX1_takeFrom 32 = .ok (.aload_n 0, 1) := by decide +kernel
theorem dX1_takeFrom_33 : decode cX1_takeFrom 33 = .ok (.getfield 27, 3) := by decide +kernel
theorem dX1_takeFrom_36 : decode cX1_takeFrom 36 = .ok (.aload_n 1, 1) := by decide +kernel
theorem dX1_takeFrom_37 : decode cX1_takeFrom 37 = .ok (.getfield 27, 3) := by decide +kernel
theorem dX1_takeFrom_40 : decode cX1_takeFrom 40 = .ok (.getfield 55, 3) := by decide +kernel
theorem dX1_takeFrom_43 : decode cX1_takeFrom 43 = .ok (.aload_n 1, 1) := by decide +kernel
theorem dX1_takeFrom_44 : decode cX1_takeFrom 44 = .ok (.getfield 27, 3) := by decide +kernel
theorem dX1_takeFrom_47 : decode cX1_takeFrom 47 = .ok (.getfield 58, 3) := by decide +kernel
theorem dX1_takeFrom_50 : decode cX1_takeFrom 50 = .ok (.invokevirtual 61, 3) := by decide +kernel
theorem dX1_takeFrom_53 : decode cX1_takeFrom 53 = .ok (.aload_n 1, 1) := by decide +kernel
theorem dX1_takeFrom_54 : decode cX1_takeFrom 54 = .ok (.getfield 30, 3) := by decide +kernel
theorem dX1_takeFrom_57 : decode cX1_takeFrom 57 = .ok (.iconst 0, 1) := by decide +kernel
theorem dX1_takeFrom_58 : decode cX1_takeFrom 58 = .ok (.aload_n 0, 1) := by decide +kernel
theorem dX1_takeFrom_59 : decode cX1_takeFrom 59 = .ok (.getfield 30, 3) := by decide +kernel
theorem dX1_takeFrom_62 : decode cX1_takeFrom 62 = .ok (.iconst 0, 1) := by decide +kernel
theorem dX1_takeFrom_63 : decode cX1_takeFrom 63 = .ok (.bipush 50, 2) := by decide +kernel
theorem dX1_takeFrom_65 : decode cX1_takeFrom 65 = .ok (.invokestatic 65, 3) := by decide +kernel
theorem dX1_takeFrom_68 : decode cX1_takeFrom 68 = .ok (.aload_n 0, 1) := by decide +kernel
theorem dX1_takeFrom_69 : decode cX1_takeFrom 69 = .ok (.aload_n 1, 1) := by decide +kernel
theorem dX1_takeFrom_70 : decode cX1_takeFrom 70 = .ok (.getfield 34, 3) := by decide +kernel
theorem dX1_takeFrom_73 : decode cX1_takeFrom 73 = .ok (.putfield 34, 3) := by decide +kernel
theorem dX1_takeFrom_76 : decode cX1_takeFrom 76 = .ok (.aload_n 1, 1) := by decide +kernel
theorem dX1_takeFrom_77 : decode cX1_takeFrom 77 = .ok (.getfield 38, 3) := by decide +kernel
theorem dX1_takeFrom_80 : decode cX1_takeFrom 80 = .ok (.iconst 0, 1) := by decide +kernel
theorem dX1_takeFrom_81 : decode cX1_takeFrom 81 = .ok (.aload_n 0, 1) := by decide +kernel
theorem dX1_takeFrom_82 : decode cX1_takeFrom 82 = .ok (.getfield 38, 3) := by decide +kernel
theorem dX1_takeFrom_85 : decode cX1_takeFrom 85 = .ok (.iconst 0, 1) := by decide +kernel
theorem dX1_takeFrom_86 : decode cX1_takeFrom 86 = .ok (.bipush 20, 2) := by decide +kernel
theorem dX1_takeFrom_88 : decode cX1_takeFrom 88 = .ok (.invokestatic 65, 3) := by decide +kernel
theorem dX1_takeFrom_91 : decode cX1_takeFrom 91 = .ok (.aload_n 0, 1) := by decide +kernel
theorem dX1_takeFrom_92 : decode cX1_takeFrom 92 = .ok (.aload_n 1, 1) := by decide +kernel
theorem dX1_takeFrom_93 : decode cX1_takeFrom 93 = .ok (.getfield 42, 3) := by decide +kernel
theorem dX1_takeFrom_96 : decode cX1_takeFrom 96 = .ok (.putfield 42, 3) := by decide +kernel
theorem dX1_takeFrom_99 : decode cX1_takeFrom 99 = .ok (.aload_n 0, 1) := by decide +kernel
theorem dX1_takeFrom_100 : decode cX1_takeFrom 100 = .ok (.aload_n 1, 1) := by decide +kernel
theorem dX1_takeFrom_101 : decode cX1_takeFrom 101 = .ok (.getfield 45, 3) := by decide +kernel
theorem dX1_takeFrom_104 : decode cX1_takeFrom 104 = .ok (.putfield 45, 3) := by decide +kernel
theorem dX1_takeFrom_107 : decode cX1_takeFrom 107 = .ok (.aload_n 0, 1) := by decide +kernel
theorem dX1_takeFrom_108 : decode cX1_takeFrom 108 = .ok (.aload_n 1, 1) := by decide +kernel
theorem dX1_takeFrom_109 : decode cX1_takeFrom 109 = .ok (.getfield 48, 3) := by decide +kernel
theorem dX1_takeFrom_112 : decode cX1_takeFrom 112 = .ok (.putfield 48, 3) := by decide +kernel
theorem dX1_takeFrom_115 : decode cX1_takeFrom 115 = .ok (.return_, 1) := by decide +kernel
theorem dX1_holdBall_0 : decode cX1_holdBall 0 = .ok (.aload_n 0, 1) := by decide +kernel
theorem dX1_holdBall_1 : decode cX1_holdBall 1 = .ok (.getfield 12, 3) := by decide +kernel
theorem dX1_holdBall_4 : decode cX1_holdBall 4 = .ok (.getfield 71, 3) := by decide +kernel
theorem dX1_holdBall_7 : decode cX1_holdBall 7 = .ok (.iconst 2, 1) := by decide +kernel
theorem dX1_holdBall_8 : decode cX1_holdBall 8 = .ok (.if_icmp .lt 47, 3) := by decide +kernel
theorem dX1_holdBall_11 : decode cX1_holdBall 11 = .ok (.aload_n 0, 1) := by decide +kernel
theorem dX1_holdBall_12 : decode cX1_holdBall 12 = .ok (.invokevirtual 72, 3) := by decide +kernel
theorem dX1_holdBall_15 : decode cX1_holdBall 15 = .ok (.aload_n 0, 1) := by decide +kernel
theorem dX1_holdBall_16 : decode cX1_holdBall 16 = .ok (.getfield 12, 3) := by decide +kernel
theorem dX1_holdBall_19 : decode cX1_holdBall 19 = .ok (.getfield 71, 3) := by decide +kernel
theorem dX1_holdBall_22 : decode cX1_holdBall 22 = .ok (.irem, 1) := by decide +kernel
theorem dX1_holdBall_23 : decode cX1_holdBall 23 = .ok (.istore_n 1, 1) := by decide +kernel
theorem dX1_holdBall_24 : decode cX1_holdBall 24 = .ok (.aload_n 0, 1) := by decide +kernel
theorem dX1_holdBall_25 : decode cX1_holdBall 25 = .ok (.invokevirtual 72, 3) := by decide +kernel
theorem dX1_holdBall_28 : decode cX1_holdBall 28 = .ok (.aload_n 0, 1) := by decide +kernel
theorem dX1_holdBall_29 : decode cX1_holdBall 29 = .ok (.getfield 12, 3) := by decide +kernel
theorem dX1_holdBall_32 : decode cX1_holdBall 32 = .ok (.getfield 71, 3) := by decide +kernel
theorem dX1_holdBall_35 : decode cX1_holdBall 35 = .ok (.irem, 1) := by decide +kernel
theorem dX1_holdBall_36 : decode cX1_holdBall 36 = .ok (.istore_n 2, 1) := by decide +kernel
theorem dX1_holdBall_37 : decode cX1_holdBall 37 = .ok (.iload_n 1, 1) := by decide +kernel
theorem dX1_holdBall_38 : decode cX1_holdBall 38 = .ok (.iload_n 2, 1) := by decide +kernel
theorem dX1_holdBall_39 : decode cX1_holdBall 39 = .ok (.if_icmp .eq 16, 3) := by decide +kernel
theorem dX1_holdBall_42 : decode cX1_holdBall 42 = .ok (.aload_n 0, 1) := by decide +kernel
theorem dX1_holdBall_43 : decode cX1_holdBall 43 = .ok (.getfield 12, 3) := by decide +kernel
theorem dX1_holdBall_46 : decode cX1_holdBall 46 = .ok (.iload_n 1, 1) := by decide +kernel
theorem dX1_holdBall_47 : decode cX1_holdBall 47 = .ok (.iload_n 2, 1) := by decide +kernel
theorem dX1_holdBall_48 : decode cX1_holdBall 48 = .ok (.aload_n 0, 1) := by decide +kernel
theorem dX1_holdBall_49 : decode cX1_holdBall 49 = .ok (.getfield 23, 3) := by decide +kernel
theorem dX1_holdBall_52 : decode cX1_holdBall 52 = .ok (.invokevirtual 76, 3) := by decide +kernel
theorem dX1_holdBall_55 : decode cX1_holdBall 55 = .ok (.aload_n 0, 1) := by decide +kernel
theorem dX1_holdBall_56 : decode cX1_holdBall 56 = .ok (.getfield 12, 3) := by decide +kernel
theorem dX1_holdBall_59 : decode cX1_holdBall 59 = .ok (.iconst 1, 1) := by decide +kernel
theorem dX1_holdBall_60 : decode cX1_holdBall 60 = .ok (.aload_n 0, 1) := by decide +kernel
theorem dX1_holdBall_61 : decode cX1_holdBall 61 = .ok (.getfield 27, 3) := by decide +kernel
theorem dX1_holdBall_64 : decode cX1_holdBall 64 = .ok (.invokevirtual 80, 3) := by decide +kernel
theorem dX1_holdBall_67 : decode cX1_holdBall 67 = .ok (.aload_n 0, 1) := by decide +kernel
theorem dX1_holdBall_68 : decode cX1_holdBall 68 = .ok (.dup, 1) := by decide +kernel
theorem dX1_holdBall_69 : decode cX1_holdBall 69 = .ok (.getfield 45, 3) := by decide +kernel
theorem dX1_holdBall_72 : decode cX1_holdBall 72 = .ok (.iconst 1, 1) := by decide +kernel
theorem dX1_holdBall_73 : decode cX1_holdBall 73 = .ok (.iadd, 1) := by decide +kernel
theorem dX1_holdBall_74 : decode cX1_holdBall 74 = .ok (.putfield 45, 3) := by decide +kernel
theorem dX1_holdBall_77 : decode cX1_holdBall 77 = .ok (.return_, 1) := by decide +kernel
theorem dX1_draw_0 : decode cX1_draw 0 = .ok (.aload_n 0, 1) := by decide +kernel
theorem dX1_draw_1 : decode cX1_draw 1 = .ok (.aload_n 0, 1) := by decide +kernel
theorem dX1_draw_2 : decode cX1_draw 2 = .ok (.getfield 48, 3) := by decide +kernel
theorem dX1_draw_5 : decode cX1_draw 5 = .ok (.ldc 84, 2) := by decide +kernel
theorem dX1_draw_7 : decode cX1_draw 7 = .ok (.imul, 1) := by decide +kernel
theorem dX1_draw_8 : decode cX1_draw 8 = .ok (.sipush 12345, 3) := by decide +kernel
theorem dX1_draw_11 : decode cX1_draw 11 = .ok (.iadd, 1) := by decide +kernel
theorem dX1_draw_12 : decode cX1_draw 12 = .ok (.putfield 48, 3) := by decide +kernel
theorem dX1_draw_15 : decode cX1_draw 15 = .ok (.aload_n 0, 1) := by decide +kernel
theorem dX1_draw_16 : decode cX1_draw 16 = .ok (.getfield 48, 3) := by decide +kernel
theorem dX1_draw_19 : decode cX1_draw 19 = .ok (.bipush 8, 2) := by decide +kernel
theorem dX1_draw_21 : decode cX1_draw 21 = .ok (.iushr, 1) := by decide +kernel
theorem dX1_draw_22 : decode cX1_draw 22 = .ok (.ireturn, 1) := by decide +kernel
theorem dX2_init_0 : decode cX2_init 0 = .ok (.aload_n 0, 1) := by decide +kernel
theorem dX2_init_1 : decode cX2_init 1 = .ok (.invokespecial 3, 3) := by decide +kernel
theorem dX2_init_4 : decode cX2_init 4 = .ok (.aload_n 0, 1) := by decide +kernel
theorem dX2_init_5 : decode cX2_init 5 = .ok (.iconst 0, 1) := by decide +kernel
theorem dX2_init_6 : decode cX2_init 6 = .ok (.putfield 9, 3) := by decide +kernel
theorem dX2_init_9 : decode cX2_init 9 = .ok (.aload_n 0, 1) := by decide +kernel
theorem dX2_init_10 : decode cX2_init 10 = .ok (.bipush 50, 2) := by decide +kernel
theorem dX2_init_12 : decode cX2_init 12 = .ok (.newarray .int, 2) := by decide +kernel
theorem dX2_init_14 : decode cX2_init 14 = .ok (.putfield 15, 3) := by decide +kernel
theorem dX2_init_17 : decode cX2_init 17 = .ok (.aload_n 0, 1) := by decide +kernel
theorem dX2_init_18 : decode cX2_init 18 = .ok (.bipush 50, 2) := by decide +kernel
theorem dX2_init_20 : decode cX2_init 20 = .ok (.newarray .int, 2) := by decide +kernel
theorem dX2_init_22 : decode cX2_init 22 = .ok (.putfield 19, 3) := by decide +kernel
theorem dX2_init_25 : decode cX2_init 25 = .ok (.aload_n 0, 1) := by decide +kernel
theorem dX2_init_26 : decode cX2_init 26 = .ok (.iload_n 1, 1) := by decide +kernel
theorem dX2_init_27 : decode cX2_init 27 = .ok (.putfield 22, 3) := by decide +kernel
theorem dX2_init_30 : decode cX2_init 30 = .ok (.return_, 1) := by decide +kernel
theorem dX2_takeCode_0 : decode cX2_takeCode 0 = .ok (.aload_n 1, 1) := by decide +kernel
theorem dX2_takeCode_1 : decode cX2_takeCode 1 = .ok (.iconst 0, 1) := by decide +kernel
theorem dX2_takeCode_2 : decode cX2_takeCode 2 = .ok (.aload_n 0, 1) := by decide +kernel
theorem dX2_takeCode_3 : decode cX2_takeCode 3 = .ok (.getfield 15, 3) := by decide +kernel
theorem dX2_takeCode_6 : decode cX2_takeCode 6 = .ok (.iconst 0, 1) := by decide +kernel
theorem dX2_takeCode_7 : decode cX2_takeCode 7 = .ok (.bipush 50, 2) := by decide +kernel
theorem dX2_takeCode_9 : decode cX2_takeCode 9 = .ok (.invokestatic 25, 3) := by decide +kernel
theorem dX2_takeCode_12 : decode cX2_takeCode 12 = .ok (.aload_n 0, 1) := by decide +kernel
theorem dX2_takeCode_13 : decode cX2_takeCode 13 = .ok (.iload_n 2, 1) := by decide +kernel
theorem dX2_takeCode_14 : decode cX2_takeCode 14 = .ok (.bipush 50, 2) := by decide +kernel
theorem dX2_takeCode_16 : decode cX2_takeCode 16 = .ok (.invokestatic 31, 3) := by decide +kernel
theorem dX2_takeCode_19 : decode cX2_takeCode 19 = .ok (.putfield 9, 3) := by decide +kernel
theorem dX2_takeCode_22 : decode cX2_takeCode 22 = .ok (.return_, 1) := by decide +kernel
theorem dX2_give_0 : decode cX2_give 0 = .ok (.aload_n 0, 1) := by decide +kernel
theorem dX2_give_1 : decode cX2_give 1 = .ok (.getfield 22, 3) := by decide +kernel
theorem dX2_give_4 : decode cX2_give 4 = .ok (.ifCond .ne 29, 3) := by decide +kernel
theorem dX2_give_7 : decode cX2_give 7 = .ok (.aload_n 0, 1) := by decide +kernel
theorem dX2_give_8 : decode cX2_give 8 = .ok (.getfield 9, 3) := by decide +kernel
theorem dX2_give_11 : decode cX2_give 11 = .ok (.ifCond .ne 11, 3) := by decide +kernel
theorem dX2_give_14 : decode cX2_give 14 = .ok (.iload_n 1, 1) := by decide +kernel
theorem dX2_give_15 : decode cX2_give 15 = .ok (.iload_n 2, 1) := by decide +kernel
theorem dX2_give_16 : decode cX2_give 16 = .ok (.iadd, 1) := by decide +kernel
theorem dX2_give_17 : decode cX2_give 17 = .ok (.iconst 2, 1) := by decide +kernel
theorem dX2_give_18 : decode cX2_give 18 = .ok (.idiv, 1) := by decide +kernel
theorem dX2_give_19 : decode cX2_give 19 = .ok (.goto 10, 3) := by decide +kernel
theorem dX2_give_22 : decode cX2_give 22 = .ok (.aload_n 0, 1) := by decide +kernel
theorem dX2_give_23 : decode cX2_give 23 = .ok (.iload_n 1, 1) := by decide +kernel
theorem dX2_give_24 : decode cX2_give 24 = .ok (.iload_n 2, 1) := by decide +kernel
theorem dX2_give_25 : decode cX2_give 25 = .ok (.iload_n 3, 1) := by decide +kernel
theorem dX2_give_26 : decode cX2_give 26 = .ok (.invokevirtual 37, 3) := by decide +kernel
theorem dX2_give_29 : decode cX2_give 29 = .ok (.invokestatic 41, 3) := by decide +kernel
theorem dX2_give_32 : decode cX2_give 32 = .ok (.ireturn, 1) := by decide +kernel
theorem dX2_give_33 : decode cX2_give 33 = .ok (.aload_n 0, 1) := by decide +kernel
theorem dX2_give_34 : decode cX2_give 34 = .ok (.getfield 9, 3) := by decide +kernel
theorem dX2_give_37 : decode cX2_give 37 = .ok (.ifCond .ne 7, 3) := by decide +kernel
theorem dX2_give_40 : decode cX2_give 40 = .ok (.iconst 1, 1) := by decide +kernel
theorem dX2_give_41 : decode cX2_give 41 = .ok (.goto 18, 3) := by decide +kernel
theorem dX2_give_44 : decode cX2_give 44 = .ok (.iconst 0, 1) := by decide +kernel
theorem dX2_give_45 : decode cX2_give 45 = .ok (.aload_n 0, 1) := by decide +kernel
theorem dX2_give_46 : decode cX2_give 46 = .ok (.iload_n 1, 1) := by decide +kernel
theorem dX2_give_47 : decode cX2_give 47 = .ok (.iload_n 2, 1) := by decide +kernel
theorem dX2_give_48 : decode cX2_give 48 = .ok (.iload_n 3, 1) := by decide +kernel
theorem dX2_give_49 : decode cX2_give 49 = .ok (.invokevirtual 37, 3) := by decide +kernel
theorem dX2_give_52 : decode cX2_give 52 = .ok (.iconst 1, 1) := by decide +kernel
theorem dX2_give_53 : decode cX2_give 53 = .ok (.invokestatic 31, 3) := by decide +kernel
theorem dX2_give_56 : decode cX2_give 56 = .ok (.invokestatic 45, 3) := by decide +kernel
theorem dX2_give_59 : decode cX2_give 59 = .ok (.ireturn, 1) := by decide +kernel
theorem dX2_work_0 : decode cX2_work 0 = .ok (.iconst 0, 1) := by decide +kernel
theorem dX2_work_1 : decode cX2_work 1 = .ok (.istore 4, 2) := by decide +kernel
theorem dX2_work_3 : decode cX2_work 3 = .ok (.iconst 0, 1) := by decide +kernel
theorem dX2_work_4 : decode cX2_work 4 = .ok (.istore 5, 2) := by decide +kernel
theorem dX2_work_6 : decode cX2_work 6 = .ok (.iload 5, 2) := by decide +kernel
theorem dX2_work_8 : decode cX2_work 8 = .ok (.aload_n 0, 1) := by decide +kernel
theorem dX2_work_9 : decode cX2_work 9 = .ok (.getfield 9, 3) := by decide +kernel
theorem dX2_work_12 : decode cX2_work 12 = .ok (.if_icmp .ge 135, 3) := by decide +kernel
theorem dX2_work_15 : decode cX2_work 15 = .ok (.aload_n 0, 1) := by decide +kernel
theorem dX2_work_16 : decode cX2_work 16 = .ok (.getfield 15, 3) := by decide +kernel
theorem dX2_work_19 : decode cX2_work 19 = .ok (.iload 5, 2) := by decide +kernel
theorem dX2_work_21 : decode cX2_work 21 = .ok (.iaload, 1) := by decide +kernel
theorem dX2_work_22 : decode cX2_work 22 = .ok (.istore 6, 2) := by decide +kernel
theorem dX2_work_24 : decode cX2_work 24 = .ok (.iload 6, 2) := by decide +kernel
theorem dX2_work_26 : decode cX2_work 26 = .ok (.bipush (-3), 2) := by decide +kernel
theorem dX2_work_28 : decode cX2_work 28 = .ok (.if_icmp .lt 31, 3) := by decide +kernel
theorem dX2_work_31 : decode cX2_work 31 = .ok (.iload 4, 2) := by decide +kernel
theorem dX2_work_33 : decode cX2_work 33 = .ok (.bipush 50, 2) := by decide +kernel
theorem dX2_work_35 : decode cX2_work 35 = .ok (.if_icmp .ge 106, 3) := by decide +kernel
theorem dX2_work_38 : decode cX2_work 38 = .ok (.aload_n 0, 1) := by decide +kernel
theorem dX2_work_39 : decode cX2_work 39 = .ok (.getfield 19, 3) := by decide +kernel
theorem dX2_work_42 : decode cX2_work 42 = .ok (.iload 4, 2) := by decide +kernel
theorem dX2_work_44 : decode cX2_work 44 = .ok (.iload 6, 2) := by decide +kernel
theorem dX2_work_46 : decode cX2_work 46 = .ok (.iload_n 1, 1) := by decide +kernel
theorem dX2_work_47 : decode cX2_work 47 = .ok (.iload_n 2, 1) := by decide +kernel
theorem dX2_work_48 : decode cX2_work 48 = .ok (.iload_n 3, 1) := by decide +kernel
theorem dX2_work_49 : decode cX2_work 49 = .ok (.invokestatic 48, 3) := by decide +kernel
theorem dX2_work_52 : decode cX2_work 52 = .ok (.iastore, 1) := by decide +kernel
theorem dX2_work_53 : decode cX2_work 53 = .ok (.iinc 4 1, 3) := by decide +kernel
theorem dX2_work_56 : decode cX2_work 56 = .ok (.goto 85, 3) := by decide +kernel
theorem dX2_work_59 : decode cX2_work 59 = .ok (.iload 6, 2) := by decide +kernel
theorem dX2_work_61 : decode cX2_work 61 = .ok (.bipush (-33), 2) := by decide +kernel
theorem dX2_work_63 : decode cX2_work 63 = .ok (.if_icmp .ne 38, 3) := by decide +kernel
theorem dX2_work_66 : decode cX2_work 66 = .ok (.iload 4, 2) := by decide +kernel
theorem dX2_work_68 : decode cX2_work 68 = .ok (.iconst 1, 1) := by decide +kernel
theorem dX2_work_69 : decode cX2_work 69 = .ok (.if_icmp .lt 72, 3) := by decide +kernel
theorem dX2_work_72 : decode cX2_work 72 = .ok (.aload_n 0, 1) := by decide +kernel
theorem dX2_work_73 : decode cX2_work 73 = .ok (.getfield 19, 3) := by decide +kernel
theorem dX2_work_76 : decode cX2_work 76 = .ok (.iload 4, 2) := by decide +kernel
theorem dX2_work_78 : decode cX2_work 78 = .ok (.iconst 1, 1) := by decide +kernel
theorem dX2_work_79 : decode cX2_work 79 = .ok (.isub, 1) := by decide +kernel
theorem dX2_work_80 : decode cX2_work 80 = .ok (.aload_n 0, 1) := by decide +kernel
theorem dX2_work_81 : decode cX2_work 81 = .ok (.getfield 19, 3) := by decide +kernel
theorem dX2_work_84 : decode cX2_work 84 = .ok (.iload 4, 2) := by decide +kernel
theorem dX2_work_86 : decode cX2_work 86 = .ok (.iconst 1, 1) := by decide +kernel
theorem dX2_work_87 : decode cX2_work 87 = .ok (.isub, 1) := by decide +kernel
theorem dX2_work_88 : decode cX2_work 88 = .ok (.iaload, 1) := by decide +kernel
theorem dX2_work_89 : decode cX2_work 89 = .ok (.ifCond .ne 7, 3) := by decide +kernel
theorem dX2_work_92 : decode cX2_work 92 = .ok (.iconst 1, 1) := by decide +kernel
theorem dX2_work_93 : decode cX2_work 93 = .ok (.goto 4, 3) := by decide +kernel
theorem dX2_work_96 : decode cX2_work 96 = .ok (.iconst 0, 1) := by decide +kernel
theorem dX2_work_97 : decode cX2_work 97 = .ok (.iastore, 1) := by decide +kernel
theorem dX2_work_98 : decode cX2_work 98 = .ok (.goto 43, 3) := by decide +kernel
theorem dX2_work_101 : decode cX2_work 101 = .ok (.iload 4, 2) := by decide +kernel
theorem dX2_work_103 : decode cX2_work 103 = .ok (.iconst 2, 1) := by decide +kernel
theorem dX2_work_104 : decode cX2_work 104 = .ok (.if_icmp .lt 37, 3) := by decide +kernel
theorem dX2_work_107 : decode cX2_work 107 = .ok (.iinc 4 (-1), 3) := by decide +kernel
theorem dX2_work_110 : decode cX2_work 110 = .ok (.aload_n 0, 1) := by decide +kernel
theorem dX2_work_111 : decode cX2_work 111 = .ok (.getfield 19, 3) := by decide +kernel
theorem dX2_work_114 : decode cX2_work 114 = .ok (.iload 4, 2) := by decide +kernel
theorem dX2_work_116 : decode cX2_work 116 = .ok (.iconst 1, 1) := by decide +kernel
theorem dX2_work_117 : decode cX2_work 117 = .ok (.isub, 1) := by decide +kernel
theorem dX2_work_118 : decode cX2_work 118 = .ok (.iload 6, 2) := by decide +kernel
theorem dX2_work_120 : decode cX2_work 120 = .ok (.ineg, 1) := by decide +kernel
theorem dX2_work_121 : decode cX2_work 121 = .ok (.aload_n 0, 1) := by decide +kernel
theorem dX2_work_122 : decode cX2_work 122 = .ok (.getfield 19, 3) := by decide +kernel
theorem dX2_work_125 : decode cX2_work 125 = .ok (.iload 4, 2) := by decide +kernel
theorem dX2_work_127 : decode cX2_work 127 = .ok (.iconst 1, 1) := by decide +kernel
theorem dX2_work_128 : decode cX2_work 128 = .ok (.isub, 1) := by decide +kernel
theorem dX2_work_129 : decode cX2_work 129 = .ok (.iaload, 1) := by decide +kernel
theorem dX2_work_130 : decode cX2_work 130 = .ok (.aload_n 0, 1) := by decide +kernel
theorem dX2_work_131 : decode cX2_work 131 = .ok (.getfield 19, 3) := by decide +kernel
theorem dX2_work_134 : decode cX2_work 134 = .ok (.iload 4, 2) := by decide +kernel
theorem dX2_work_136 : decode cX2_work 136 = .ok (.iaload, 1) := by decide +kernel
theorem dX2_work_137 : decode cX2_work 137 = .ok (.invokestatic 52, 3) := by decide +kernel
theorem dX2_work_140 : decode cX2_work 140 = .ok (.iastore, 1) := by decide +kernel
theorem dX2_work_141 : decode cX2_work 141 = .ok (.iinc 5 1, 3) := by decide +kernel
theorem dX2_work_144 : decode cX2_work 144 = .ok (.goto (-138), 3) := by decide +kernel
theorem dX2_work_147 : decode cX2_work 147 = .ok (.aload_n 0, 1) := by decide +kernel
theorem dX2_work_148 : decode cX2_work 148 = .ok (.getfield 19, 3) := by decide +kernel
theorem dX2_work_151 : decode cX2_work 151 = .ok (.iconst 0, 1) := by decide +kernel
theorem dX2_work_152 : decode cX2_work 152 = .ok (.iaload, 1) := by decide +kernel
theorem dX2_work_153 : decode cX2_work 153 = .ok (.ireturn, 1) := by decide +kernel
theorem dX2_valueOf_0 : decode cX2_valueOf 0 = .ok (.iload_n 0, 1) := by decide +kernel
theorem dX2_valueOf_1 : decode cX2_valueOf 1 = .ok (.tableswitch 33 (-3) (-1) #[31, 29, 27], 27) := by decide +kernel
theorem dX2_valueOf_28 : decode cX2_valueOf 28 = .ok (.iload_n 1, 1) := by decide +kernel
theorem dX2_valueOf_29 : decode cX2_valueOf 29 = .ok (.ireturn, 1) := by decide +kernel
theorem dX2_valueOf_30 : decode cX2_valueOf 30 = .ok (.iload_n 2, 1) := by decide +kernel
theorem dX2_valueOf_31 : decode cX2_valueOf 31 = .ok (.ireturn, 1) := by decide +kernel
theorem dX2_valueOf_32 : decode cX2_valueOf 32 = .ok (.iload_n 3, 1) := by decide +kernel
theorem dX2_valueOf_33 : decode cX2_valueOf 33 = .ok (.ireturn, 1) := by decide +kernel
theorem dX2_valueOf_34 : decode cX2_valueOf 34 = .ok (.iload_n 0, 1) := by decide +kernel
theorem dX2_valueOf_35 : decode cX2_valueOf 35 = .ok (.ireturn, 1) := by decide +kernel
theorem dX2_join_0 : decode cX2_join 0 = .ok (.iload_n 0, 1) := by decide +kernel
theorem dX2_join_1 : decode cX2_join 1 = .ok (.lookupswitch 188 #[(37, 176), (38, 105), (42, 160), (43, 152), (45, 156), (47, 164), (60, 119), (61, 130), (62, 141), (124, 91)], 91) := by decide +kernel
theorem dX2_join_92 : decode cX2_join 92 = .ok (.iload_n 1, 1) := by decide +kernel
theorem dX2_join_93 : decode cX2_join 93 = .ok (.ifCond .ne 7, 3) := by decide +kernel
theorem dX2_join_96 : decode cX2_join 96 = .ok (.iload_n 2, 1) := by decide +kernel
theorem dX2_join_97 : decode cX2_join 97 = .ok (.ifCond .eq 7, 3) := by decide +kernel
theorem dX2_join_100 : decode cX2_join 100 = .ok (.iconst 1, 1) := by decide +kernel
theorem dX2_join_101 : decode cX2_join 101 = .ok (.goto 4, 3) := by decide +kernel
theorem dX2_join_104 : decode cX2_join 104 = .ok (.iconst 0, 1) := by decide +kernel
theorem dX2_join_105 : decode cX2_join 105 = .ok (.ireturn, 1) := by decide +kernel
theorem dX2_join_106 : decode cX2_join 106 = .ok (.iload_n 1, 1) := by decide +kernel
theorem dX2_join_107 : decode cX2_join 107 = .ok (.ifCond .eq 11, 3) := by decide +kernel
theorem dX2_join_110 : decode cX2_join 110 = .ok (.iload_n 2, 1) := by decide +kernel
theorem dX2_join_111 : decode cX2_join 111 = .ok (.ifCond .eq 7, 3) := by decide +kernel
theorem dX2_join_114 : decode cX2_join 114 = .ok (.iconst 1, 1) := by decide +kernel
theorem dX2_join_115 : decode cX2_join 115 = .ok (.goto 4, 3) := by decide +kernel
theorem dX2_join_118 : decode cX2_join 118 = .ok (.iconst 0, 1) := by decide +kernel
theorem dX2_join_119 : decode cX2_join 119 = .ok (.ireturn, 1) := by decide +kernel
theorem dX2_join_120 : decode cX2_join 120 = .ok (.iload_n 1, 1) := by decide +kernel
theorem dX2_join_121 : decode cX2_join 121 = .ok (.iload_n 2, 1) := by decide +kernel
theorem dX2_join_122 : decode cX2_join 122 = .ok (.if_icmp .ge 7, 3) := by decide +kernel
theorem dX2_join_125 : decode cX2_join 125 = .ok (.iconst 1, 1) := by decide +kernel
theorem dX2_join_126 : decode cX2_join 126 = .ok (.goto 4, 3) := by decide +kernel
theorem dX2_join_129 : decode cX2_join 129 = .ok (.iconst 0, 1) := by decide +kernel
theorem dX2_join_130 : decode cX2_join 130 = .ok (.ireturn, 1) := by decide +kernel
theorem dX2_join_131 : decode cX2_join 131 = .ok (.iload_n 1, 1) := by decide +kernel
theorem dX2_join_132 : decode cX2_join 132 = .ok (.iload_n 2, 1) := by decide +kernel
theorem dX2_join_133 : decode cX2_join 133 = .ok (.if_icmp .ne 7, 3) := by decide +kernel
theorem dX2_join_136 : decode cX2_join 136 = .ok (.iconst 1, 1) := by decide +kernel
theorem dX2_join_137 : decode cX2_join 137 = .ok (.goto 4, 3) := by decide +kernel
theorem dX2_join_140 : decode cX2_join 140 = .ok (.iconst 0, 1) := by decide +kernel
theorem dX2_join_141 : decode cX2_join 141 = .ok (.ireturn, 1) := by decide +kernel
theorem dX2_join_142 : decode cX2_join 142 = .ok (.iload_n 1, 1) := by decide +kernel
theorem dX2_join_143 : decode cX2_join 143 = .ok (.iload_n 2, 1) := by decide +kernel
theorem dX2_join_144 : decode cX2_join 144 = .ok (.if_icmp .le 7, 3) := by decide +kernel
theorem dX2_join_147 : decode cX2_join 147 = .ok (.iconst 1, 1) := by decide +kernel
theorem dX2_join_148 : decode cX2_join 148 = .ok (.goto 4, 3) := by decide +kernel
theorem dX2_join_151 : decode cX2_join 151 = .ok (.iconst 0, 1) := by decide +kernel
theorem dX2_join_152 : decode cX2_join 152 = .ok (.ireturn, 1) := by decide +kernel
theorem dX2_join_153 : decode cX2_join 153 = .ok (.iload_n 1, 1) := by decide +kernel
theorem dX2_join_154 : decode cX2_join 154 = .ok (.iload_n 2, 1) := by decide +kernel
theorem dX2_join_155 : decode cX2_join 155 = .ok (.iadd, 1) := by decide +kernel
theorem dX2_join_156 : decode cX2_join 156 = .ok (.ireturn, 1) := by decide +kernel
theorem dX2_join_157 : decode cX2_join 157 = .ok (.iload_n 1, 1) := by decide +kernel
theorem dX2_join_158 : decode cX2_join 158 = .ok (.iload_n 2, 1) := by decide +kernel
theorem dX2_join_159 : decode cX2_join 159 = .ok (.isub, 1) := by decide +kernel
theorem dX2_join_160 : decode cX2_join 160 = .ok (.ireturn, 1) := by decide +kernel
theorem dX2_join_161 : decode cX2_join 161 = .ok (.iload_n 1, 1) := by decide +kernel
theorem dX2_join_162 : decode cX2_join 162 = .ok (.iload_n 2, 1) := by decide +kernel
theorem dX2_join_163 : decode cX2_join 163 = .ok (.imul, 1) := by decide +kernel
theorem dX2_join_164 : decode cX2_join 164 = .ok (.ireturn, 1) := by decide +kernel
theorem dX2_join_165 : decode cX2_join 165 = .ok (.iload_n 2, 1) := by decide +kernel
theorem dX2_join_166 : decode cX2_join 166 = .ok (.ifCond .ne 7, 3) := by decide +kernel
theorem dX2_join_169 : decode cX2_join 169 = .ok (.iconst 0, 1) := by decide +kernel
theorem dX2_join_170 : decode cX2_join 170 = .ok (.goto 6, 3) := by decide +kernel
theorem dX2_join_173 : decode cX2_join 173 = .ok (.iload_n 1, 1) := by decide +kernel
theorem dX2_join_174 : decode cX2_join 174 = .ok (.iload_n 2, 1) := by decide +kernel
theorem dX2_join_175 : decode cX2_join 175 = .ok (.idiv, 1) := by decide +kernel
theorem dX2_join_176 : decode cX2_join 176 = .ok (.ireturn, 1) := by decide +kernel
theorem dX2_join_177 : decode cX2_join 177 = .ok (.iload_n 2, 1) := by decide +kernel
theorem dX2_join_178 : decode cX2_join 178 = .ok (.ifCond .ne 7, 3) := by decide +kernel
theorem dX2_join_181 : decode cX2_join 181 = .ok (.iconst 0, 1) := by decide +kernel
theorem dX2_join_182 : decode cX2_join 182 = .ok (.goto 6, 3) := by decide +kernel
theorem dX2_join_185 : decode cX2_join 185 = .ok (.iload_n 1, 1) := by decide +kernel
theorem dX2_join_186 : decode cX2_join 186 = .ok (.iload_n 2, 1) := by decide +kernel
theorem dX2_join_187 : decode cX2_join 187 = .ok (.irem, 1) := by decide +kernel
theorem dX2_join_188 : decode cX2_join 188 = .ok (.ireturn, 1) := by decide +kernel
theorem dX2_join_189 : decode cX2_join 189 = .ok (.iconst 0, 1) := by decide +kernel
theorem dX2_join_190 : decode cX2_join 190 = .ok (.ireturn, 1) := by decide +kernel
theorem dX3_init_0 : decode cX3_init 0 = .ok (.aload_n 0, 1) := by decide +kernel
theorem dX3_init_1 : decode cX3_init 1 = .ok (.invokespecial 3, 3) := by decide +kernel
theorem dX3_init_4 : decode cX3_init 4 = .ok (.aload_n 0, 1) := by decide +kernel
theorem dX3_init_5 : decode cX3_init 5 = .ok (.bipush 50, 2) := by decide +kernel
theorem dX3_init_7 : decode cX3_init 7 = .ok (.newarray .byte, 2) := by decide +kernel
theorem dX3_init_9 : decode cX3_init 9 = .ok (.putfield 9, 3) := by decide +kernel
theorem dX3_init_12 : decode cX3_init 12 = .ok (.aload_n 0, 1) := by decide +kernel
theorem dX3_init_13 : decode cX3_init 13 = .ok (.iconst 0, 1) := by decide +kernel
theorem dX3_init_14 : decode cX3_init 14 = .ok (.putfield 15, 3) := by decide +kernel
theorem dX3_init_17 : decode cX3_init 17 = .ok (.aload_n 0, 1) := by decide +kernel
theorem dX3_init_18 : decode cX3_init 18 = .ok (.iconst 0, 1) := by decide +kernel
theorem dX3_init_19 : decode cX3_init 19 = .ok (.putfield 19, 3) := by decide +kernel
theorem dX3_init_22 : decode cX3_init 22 = .ok (.aload_n 0, 1) := by decide +kernel
theorem dX3_init_23 : decode cX3_init 23 = .ok (.iconst 0, 1) := by decide +kernel
theorem dX3_init_24 : decode cX3_init 24 = .ok (.putfield 22, 3) := by decide +kernel
theorem dX3_init_27 : decode cX3_init 27 = .ok (.aload_n 0, 1) := by decide +kernel
theorem dX3_init_28 : decode cX3_init 28 = .ok (.iconst 0, 1) := by decide +kernel
theorem dX3_init_29 : decode cX3_init 29 = .ok (.putfield 25, 3) := by decide +kernel
theorem dX3_init_32 : decode cX3_init 32 = .ok (.aload_n 0, 1) := by decide +kernel
theorem dX3_init_33 : decode cX3_init 33 = .ok (.bipush 50, 2) := by decide +kernel
theorem dX3_init_35 : decode cX3_init 35 = .ok (.newarray .int, 2) := by decide +kernel
theorem dX3_init_37 : decode cX3_init 37 = .ok (.putfield 28, 3) := by decide +kernel
theorem dX3_init_40 : decode cX3_init 40 = .ok (.return_, 1) := by decide +kernel
theorem dX3_reads_0 : decode cX3_reads 0 = .ok (.aload_n 0, 1) := by decide +kernel
theorem dX3_reads_1 : decode cX3_reads 1 = .ok (.iload_n 2, 1) := by decide +kernel
theorem dX3_reads_2 : decode cX3_reads 2 = .ok (.bipush 50, 2) := by decide +kernel
theorem dX3_reads_4 : decode cX3_reads 4 = .ok (.invokestatic 32, 3) := by decide +kernel
theorem dX3_reads_7 : decode cX3_reads 7 = .ok (.putfield 15, 3) := by decide +kernel
theorem dX3_reads_10 : decode cX3_reads 10 = .ok (.aload_n 1, 1) := by decide +kernel
theorem dX3_reads_11 : decode cX3_reads 11 = .ok (.iconst 0, 1) := by decide +kernel
theorem dX3_reads_12 : decode cX3_reads 12 = .ok (.aload_n 0, 1) := by decide +kernel
theorem dX3_reads_13 : decode cX3_reads 13 = .ok (.getfield 9, 3) := by decide +kernel
theorem dX3_reads_16 : decode cX3_reads 16 = .ok (.iconst 0, 1) := by decide +kernel
theorem dX3_reads_17 : decode cX3_reads 17 = .ok (.aload_n 0, 1) := by decide +kernel
theorem dX3_reads_18 : decode cX3_reads 18 = .ok (.getfield 15, 3) := by decide +kernel
theorem dX3_reads_21 : decode cX3_reads 21 = .ok (.invokestatic 38, 3) := by decide +kernel
theorem dX3_reads_24 : decode cX3_reads 24 = .ok (.aload_n 0, 1) := by decide +kernel
theorem dX3_reads_25 : decode cX3_reads 25 = .ok (.iload_n 3, 1) := by decide +kernel
theorem dX3_reads_26 : decode cX3_reads 26 = .ok (.putfield 19, 3) := by decide +kernel
theorem dX3_reads_29 : decode cX3_reads 29 = .ok (.aload_n 0, 1) := by decide +kernel
theorem dX3_reads_30 : decode cX3_reads 30 = .ok (.iconst 0, 1) := by decide +kernel
theorem dX3_reads_31 : decode cX3_reads 31 = .ok (.putfield 22, 3) := by decide +kernel
theorem dX3_reads_34 : decode cX3_reads 34 = .ok (.aload_n 0, 1) := by decide +kernel
theorem dX3_reads_35 : decode cX3_reads 35 = .ok (.iconst 0, 1) := by decide +kernel
theorem dX3_reads_36 : decode cX3_reads 36 = .ok (.putfield 25, 3) := by decide +kernel
theorem dX3_reads_39 : decode cX3_reads 39 = .ok (.aload_n 0, 1) := by decide +kernel
theorem dX3_reads_40 : decode cX3_reads 40 = .ok (.iconst 0, 1) := by decide +kernel
theorem dX3_reads_41 : decode cX3_reads 41 = .ok (.iconst 0, 1) := by decide +kernel
theorem dX3_reads_42 : decode cX3_reads 42 = .ok (.invokevirtual 44, 3) := by decide +kernel
theorem dX3_reads_45 : decode cX3_reads 45 = .ok (.ifCond .eq 18, 3) := by decide +kernel
theorem dX3_reads_48 : decode cX3_reads 48 = .ok (.aload_n 0, 1) := by decide +kernel
theorem dX3_reads_49 : decode cX3_reads 49 = .ok (.getfield 22, 3) := by decide +kernel
theorem dX3_reads_52 : decode cX3_reads 52 = .ok (.aload_n 0, 1) := by decide +kernel
theorem dX3_reads_53 : decode cX3_reads 53 = .ok (.getfield 15, 3) := by decide +kernel
theorem dX3_reads_56 : decode cX3_reads 56 = .ok (.if_icmp .ne 7, 3) := by decide +kernel
theorem dX3_reads_59 : decode cX3_reads 59 = .ok (.iconst 1, 1) := by decide +kernel
theorem dX3_reads_60 : decode cX3_reads 60 = .ok (.goto 4, 3) := by decide +kernel
theorem dX3_reads_63 : decode cX3_reads 63 = .ok (.iconst 0, 1) := by decide +kernel
theorem dX3_reads_64 : decode cX3_reads 64 = .ok (.ireturn, 1) := by decide +kernel
theorem dX3_ahead_0 : decode cX3_ahead 0 = .ok (.aload_n 0, 1) := by decide +kernel
theorem dX3_ahead_1 : decode cX3_ahead 1 = .ok (.getfield 22, 3) := by decide +kernel
theorem dX3_ahead_4 : decode cX3_ahead 4 = .ok (.aload_n 0, 1) := by decide +kernel
theorem dX3_ahead_5 : decode cX3_ahead 5 = .ok (.getfield 15, 3) := by decide +kernel
theorem dX3_ahead_8 : decode cX3_ahead 8 = .ok (.if_icmp .ge 15, 3) := by decide +kernel
theorem dX3_ahead_11 : decode cX3_ahead 11 = .ok (.aload_n 0, 1) := by decide +kernel
theorem dX3_ahead_12 : decode cX3_ahead 12 = .ok (.getfield 9, 3) := by decide +kernel
theorem dX3_ahead_15 : decode cX3_ahead 15 = .ok (.aload_n 0, 1) := by decide +kernel
theorem dX3_ahead_16 : decode cX3_ahead 16 = .ok (.getfield 22, 3) := by decide +kernel
theorem dX3_ahead_19 : decode cX3_ahead 19 = .ok (.baload, 1) := by decide +kernel
theorem dX3_ahead_20 : decode cX3_ahead 20 = .ok (.goto 4, 3) := by decide +kernel
theorem dX3_ahead_23 : decode cX3_ahead 23 = .ok (.iconst 0, 1) := by decide +kernel
theorem dX3_ahead_24 : decode cX3_ahead 24 = .ok (.ireturn, 1) := by decide +kernel
theorem dX3_emit_0 : decode cX3_emit 0 = .ok (.aload_n 0, 1) := by decide +kernel
theorem dX3_emit_1 : decode cX3_emit 1 = .ok (.getfield 25, 3) := by decide +kernel
theorem dX3_emit_4 : decode cX3_emit 4 = .ok (.bipush 50, 2) := by decide +kernel
theorem dX3_emit_6 : decode cX3_emit 6 = .ok (.if_icmp .ge 23, 3) := by decide +kernel
theorem dX3_emit_9 : decode cX3_emit 9 = .ok (.aload_n 0, 1) := by decide +kernel
theorem dX3_emit_10 : decode cX3_emit 10 = .ok (.getfield 28, 3) := by decide +kernel
theorem dX3_emit_13 : decode cX3_emit 13 = .ok (.aload_n 0, 1) := by decide +kernel
theorem dX3_emit_14 : decode cX3_emit 14 = .ok (.getfield 25, 3) := by decide +kernel
theorem dX3_emit_17 : decode cX3_emit 17 = .ok (.iload_n 1, 1) := by decide +kernel
theorem dX3_emit_18 : decode cX3_emit 18 = .ok (.iastore, 1) := by decide +kernel
theorem dX3_emit_19 : decode cX3_emit 19 = .ok (.aload_n 0, 1) := by decide +kernel
theorem dX3_emit_20 : decode cX3_emit 20 = .ok (.dup, 1) := by decide +kernel
theorem dX3_emit_21 : decode cX3_emit 21 = .ok (.getfield 25, 3) := by decide +kernel
theorem dX3_emit_24 : decode cX3_emit 24 = .ok (.iconst 1, 1) := by decide +kernel
theorem dX3_emit_25 : decode cX3_emit 25 = .ok (.iadd, 1) := by decide +kernel
theorem dX3_emit_26 : decode cX3_emit 26 = .ok (.putfield 25, 3) := by decide +kernel
theorem dX3_emit_29 : decode cX3_emit 29 = .ok (.return_, 1) := by decide +kernel
theorem dX3_readLevel_0 : decode cX3_readLevel 0 = .ok (.iload_n 1, 1) := by decide +kernel
theorem dX3_readLevel_1 : decode cX3_readLevel 1 = .ok (.iconst 4, 1) := by decide +kernel
theorem dX3_readLevel_2 : decode cX3_readLevel 2 = .ok (.if_icmp .le 9, 3) := by decide +kernel
theorem dX3_readLevel_5 : decode cX3_readLevel 5 = .ok (.aload_n 0, 1) := by decide +kernel
theorem dX3_readLevel_6 : decode cX3_readLevel 6 = .ok (.iload_n 2, 1) := by decide +kernel
theorem dX3_readLevel_7 : decode cX3_readLevel 7 = .ok (.invokevirtual 48, 3) := by decide +kernel
theorem dX3_readLevel_10 : decode cX3_readLevel 10 = .ok (.ireturn, 1) := by decide +kernel
theorem dX3_readLevel_11 : decode cX3_readLevel 11 = .ok (.aload_n 0, 1) := by decide +kernel
theorem dX3_readLevel_12 : decode cX3_readLevel 12 = .ok (.iload_n 1, 1) := by decide +kernel
theorem dX3_readLevel_13 : decode cX3_readLevel 13 = .ok (.iconst 1, 1) := by decide +kernel
theorem dX3_readLevel_14 : decode cX3_readLevel 14 = .ok (.iadd, 1) := by decide +kernel
theorem dX3_readLevel_15 : decode cX3_readLevel 15 = .ok (.iload_n 2, 1) := by decide +kernel
theorem dX3_readLevel_16 : decode cX3_readLevel 16 = .ok (.invokevirtual 44, 3) := by decide +kernel
theorem dX3_readLevel_19 : decode cX3_readLevel 19 = .ok (.ifCond .ne 5, 3) := by decide +kernel
theorem dX3_readLevel_22 : decode cX3_readLevel 22 = .ok (.iconst 0, 1) := by decide +kernel
theorem dX3_readLevel_23 : decode cX3_readLevel 23 = .ok (.ireturn, 1) := by decide +kernel
theorem dX3_readLevel_24 : decode cX3_readLevel 24 = .ok (.iload_n 1, 1) := by decide +kernel
theorem dX3_readLevel_25 : decode cX3_readLevel 25 = .ok (.iconst 2, 1) := by decide +kernel
theorem dX3_readLevel_26 : decode cX3_readLevel 26 = .ok (.if_icmp .ne 7, 3) := by decide +kernel
theorem dX3_readLevel_29 : decode cX3_readLevel 29 = .ok (.iconst 1, 1) := by decide +kernel
theorem dX3_readLevel_30 : decode cX3_readLevel 30 = .ok (.goto 5, 3) := by decide +kernel
theorem dX3_readLevel_33 : decode cX3_readLevel 33 = .ok (.bipush 50, 2) := by decide +kernel
theorem dX3_readLevel_35 : decode cX3_readLevel 35 = .ok (.istore_n 3, 1) := by decide +kernel
theorem dX3_readLevel_36 : decode cX3_readLevel 36 = .ok (.iconst 0, 1) := by decide +kernel
theorem dX3_readLevel_37 : decode cX3_readLevel 37 = .ok (.istore 4, 2) := by decide +kernel
theorem dX3_readLevel_39 : decode cX3_readLevel 39 = .ok (.iload 4, 2) := by decide +kernel
theorem dX3_readLevel_41 : decode cX3_readLevel 41 = .ok (.iload_n 3, 1) := by decide +kernel
theorem dX3_readLevel_42 : decode cX3_readLevel 42 = .ok (.if_icmp .ge 56, 3) := by decide +kernel
theorem dX3_readLevel_45 : decode cX3_readLevel 45 = .ok (.aload_n 0, 1) := by decide +kernel
theorem dX3_readLevel_46 : decode cX3_readLevel 46 = .ok (.invokevirtual 52, 3) := by decide +kernel
theorem dX3_readLevel_49 : decode cX3_readLevel 49 = .ok (.invokestatic 56, 3) := by decide +kernel
theorem dX3_readLevel_52 : decode cX3_readLevel 52 = .ok (.iload_n 1, 1) := by decide +kernel
theorem dX3_readLevel_53 : decode cX3_readLevel 53 = .ok (.if_icmp .ne 45, 3) := by decide +kernel
theorem dX3_readLevel_56 : decode cX3_readLevel 56 = .ok (.aload_n 0, 1) := by decide +kernel
theorem dX3_readLevel_57 : decode cX3_readLevel 57 = .ok (.invokevirtual 52, 3) := by decide +kernel
theorem dX3_readLevel_60 : decode cX3_readLevel 60 = .ok (.istore 5, 2) := by decide +kernel
theorem dX3_readLevel_62 : decode cX3_readLevel 62 = .ok (.aload_n 0, 1) := by decide +kernel
theorem dX3_readLevel_63 : decode cX3_readLevel 63 = .ok (.dup, 1) := by decide +kernel
theorem dX3_readLevel_64 : decode cX3_readLevel 64 = .ok (.getfield 22, 3) := by decide +kernel
theorem dX3_readLevel_67 : decode cX3_readLevel 67 = .ok (.iconst 1, 1) := by decide +kernel
theorem dX3_readLevel_68 : decode cX3_readLevel 68 = .ok (.iadd, 1) := by decide +kernel
theorem dX3_readLevel_69 : decode cX3_readLevel 69 = .ok (.putfield 22, 3) := by decide +kernel
theorem dX3_readLevel_72 : decode cX3_readLevel 72 = .ok (.aload_n 0, 1) := by decide +kernel
theorem dX3_readLevel_73 : decode cX3_readLevel 73 = .ok (.iload_n 1, 1) := by decide +kernel
theorem dX3_readLevel_74 : decode cX3_readLevel 74 = .ok (.iconst 1, 1) := by decide +kernel
theorem dX3_readLevel_75 : decode cX3_readLevel 75 = .ok (.iadd, 1) := by decide +kernel
theorem dX3_readLevel_76 : decode cX3_readLevel 76 = .ok (.iload_n 2, 1) := by decide +kernel
theorem dX3_readLevel_77 : decode cX3_readLevel 77 = .ok (.invokevirtual 44, 3) := by decide +kernel
theorem dX3_readLevel_80 : decode cX3_readLevel 80 = .ok (.ifCond .ne 5, 3) := by decide +kernel
theorem dX3_readLevel_83 : decode cX3_readLevel 83 = .ok (.iconst 0, 1) := by decide +kernel
theorem dX3_readLevel_84 : decode cX3_readLevel 84 = .ok (.ireturn, 1) := by decide +kernel
theorem dX3_readLevel_85 : decode cX3_readLevel 85 = .ok (.aload_n 0, 1) := by decide +kernel
theorem dX3_readLevel_86 : decode cX3_readLevel 86 = .ok (.iload 5, 2) := by decide +kernel
theorem dX3_readLevel_88 : decode cX3_readLevel 88 = .ok (.ineg, 1) := by decide +kernel
theorem dX3_readLevel_89 : decode cX3_readLevel 89 = .ok (.invokevirtual 60, 3) := by decide +kernel
theorem dX3_readLevel_92 : decode cX3_readLevel 92 = .ok (.iinc 4 1, 3) := by decide +kernel
theorem dX3_readLevel_95 : decode cX3_readLevel 95 = .ok (.goto (-56), 3) := by decide +kernel
theorem dX3_readLevel_98 : decode cX3_readLevel 98 = .ok (.iconst 1, 1) := by decide +kernel
theorem dX3_readLevel_99 : decode cX3_readLevel 99 = .ok (.ireturn, 1) := by decide +kernel
theorem dX3_levelOf_0 : decode cX3_levelOf 0 = .ok (.iload_n 0, 1) := by decide +kernel
theorem dX3_levelOf_1 : decode cX3_levelOf 1 = .ok (.lookupswitch 101 #[(37, 99), (38, 93), (42, 99), (43, 97), (45, 97), (47, 99), (60, 95), (61, 95), (62, 95), (124, 91)], 91) := by decide +kernel
theorem dX3_levelOf_92 : decode cX3_levelOf 92 = .ok (.iconst 0, 1) := by decide +kernel
theorem dX3_levelOf_93 : decode cX3_levelOf 93 = .ok (.ireturn, 1) := by decide +kernel
theorem dX3_levelOf_94 : decode cX3_levelOf 94 = .ok (.iconst 1, 1) := by decide +kernel
theorem dX3_levelOf_95 : decode cX3_levelOf 95 = .ok (.ireturn, 1) := by decide +kernel
theorem dX3_levelOf_96 : decode cX3_levelOf 96 = .ok (.iconst 2, 1) := by decide +kernel
theorem dX3_levelOf_97 : decode cX3_levelOf 97 = .ok (.ireturn, 1) := by decide +kernel
theorem dX3_levelOf_98 : decode cX3_levelOf 98 = .ok (.iconst 3, 1) := by decide +kernel
theorem dX3_levelOf_99 : decode cX3_levelOf 99 = .ok (.ireturn, 1) := by decide +kernel
theorem dX3_levelOf_100 : decode cX3_levelOf 100 = .ok (.iconst 4, 1) := by decide +kernel
theorem dX3_levelOf_101 : decode cX3_levelOf 101 = .ok (.ireturn, 1) := by decide +kernel
theorem dX3_levelOf_102 : decode cX3_levelOf 102 = .ok (.iconst (-1), 1) := by decide +kernel
theorem dX3_levelOf_103 : decode cX3_levelOf 103 = .ok (.ireturn, 1) := by decide +kernel
theorem dX3_readQ_0 : decode cX3_readQ 0 = .ok (.aload_n 0, 1) := by decide +kernel
theorem dX3_readQ_1 : decode cX3_readQ 1 = .ok (.invokevirtual 52, 3) := by decide +kernel
theorem dX3_readQ_4 : decode cX3_readQ 4 = .ok (.istore_n 2, 1) := by decide +kernel
theorem dX3_readQ_5 : decode cX3_readQ 5 = .ok (.iload_n 2, 1) := by decide +kernel
theorem dX3_readQ_6 : decode cX3_readQ 6 = .ok (.invokestatic 64, 3) := by decide +kernel
theorem dX3_readQ_9 : decode cX3_readQ 9 = .ok (.ifCond .eq 9, 3) := by decide +kernel
theorem dX3_readQ_12 : decode cX3_readQ 12 = .ok (.aload_n 0, 1) := by decide +kernel
theorem dX3_readQ_13 : decode cX3_readQ 13 = .ok (.invokevirtual 67, 3) := by decide +kernel
theorem dX3_readQ_16 : decode cX3_readQ 16 = .ok (.iconst 1, 1) := by decide +kernel
theorem dX3_readQ_17 : decode cX3_readQ 17 = .ok (.ireturn, 1) := by decide +kernel
theorem dX3_readQ_18 : decode cX3_readQ 18 = .ok (.aload_n 0, 1) := by decide +kernel
theorem dX3_readQ_19 : decode cX3_readQ 19 = .ok (.iload_n 2, 1) := by decide +kernel
theorem dX3_readQ_20 : decode cX3_readQ 20 = .ok (.invokevirtual 70, 3) := by decide +kernel
theorem dX3_readQ_23 : decode cX3_readQ 23 = .ok (.istore_n 3, 1) := by decide +kernel
theorem dX3_readQ_24 : decode cX3_readQ 24 = .ok (.iload_n 3, 1) := by decide +kernel
theorem dX3_readQ_25 : decode cX3_readQ 25 = .ok (.ifCond .eq 20, 3) := by decide +kernel
theorem dX3_readQ_28 : decode cX3_readQ 28 = .ok (.aload_n 0, 1) := by decide +kernel
theorem dX3_readQ_29 : decode cX3_readQ 29 = .ok (.dup, 1) := by decide +kernel
theorem dX3_readQ_30 : decode cX3_readQ 30 = .ok (.getfield 22, 3) := by decide +kernel
theorem dX3_readQ_33 : decode cX3_readQ 33 = .ok (.iconst 1, 1) := by decide +kernel
theorem dX3_readQ_34 : decode cX3_readQ 34 = .ok (.iadd, 1) := by decide +kernel
theorem dX3_readQ_35 : decode cX3_readQ 35 = .ok (.putfield 22, 3) := by decide +kernel
theorem dX3_readQ_38 : decode cX3_readQ 38 = .ok (.aload_n 0, 1) := by decide +kernel
theorem dX3_readQ_39 : decode cX3_readQ 39 = .ok (.iload_n 3, 1) := by decide +kernel
theorem dX3_readQ_40 : decode cX3_readQ 40 = .ok (.invokevirtual 60, 3) := by decide +kernel
theorem dX3_readQ_43 : decode cX3_readQ 43 = .ok (.iconst 1, 1) := by decide +kernel
theorem dX3_readQ_44 : decode cX3_readQ 44 = .ok (.ireturn, 1) := by decide +kernel
theorem dX3_readQ_45 : decode cX3_readQ 45 = .ok (.iload_n 2, 1) := by decide +kernel
theorem dX3_readQ_46 : decode cX3_readQ 46 = .ok (.bipush 33, 2) := by decide +kernel
theorem dX3_readQ_48 : decode cX3_readQ 48 = .ok (.if_icmp .eq 9, 3) := by decide +kernel
theorem dX3_readQ_51 : decode cX3_readQ 51 = .ok (.iload_n 2, 1) := by decide +kernel
theorem dX3_readQ_52 : decode cX3_readQ 52 = .ok (.bipush 40, 2) := by decide +kernel
theorem dX3_readQ_54 : decode cX3_readQ 54 = .ok (.if_icmp .ne 8, 3) := by decide +kernel
theorem dX3_readQ_57 : decode cX3_readQ 57 = .ok (.iload_n 1, 1) := by decide +kernel
theorem dX3_readQ_58 : decode cX3_readQ 58 = .ok (.iconst 5, 1) := by decide +kernel
theorem dX3_readQ_59 : decode cX3_readQ 59 = .ok (.if_icmp .lt 5, 3) := by decide +kernel
theorem dX3_readQ_62 : decode cX3_readQ 62 = .ok (.iconst 0, 1) := by decide +kernel
theorem dX3_readQ_63 : decode cX3_readQ 63 = .ok (.ireturn, 1) := by decide +kernel
theorem dX3_readQ_64 : decode cX3_readQ 64 = .ok (.aload_n 0, 1) := by decide +kernel
theorem dX3_readQ_65 : decode cX3_readQ 65 = .ok (.dup, 1) := by decide +kernel
theorem dX3_readQ_66 : decode cX3_readQ 66 = .ok (.getfield 22, 3) := by decide +kernel
theorem dX3_readQ_69 : decode cX3_readQ 69 = .ok (.iconst 1, 1) := by decide +kernel
theorem dX3_readQ_70 : decode cX3_readQ 70 = .ok (.iadd, 1) := by decide +kernel
theorem dX3_readQ_71 : decode cX3_readQ 71 = .ok (.putfield 22, 3) := by decide +kernel
theorem dX3_readQ_74 : decode cX3_readQ 74 = .ok (.iload_n 2, 1) := by decide +kernel
theorem dX3_readQ_75 : decode cX3_readQ 75 = .ok (.bipush 33, 2) := by decide +kernel
theorem dX3_readQ_77 : decode cX3_readQ 77 = .ok (.if_icmp .ne 13, 3) := by decide +kernel
theorem dX3_readQ_80 : decode cX3_readQ 80 = .ok (.aload_n 0, 1) := by decide +kernel
theorem dX3_readQ_81 : decode cX3_readQ 81 = .ok (.iload_n 1, 1) := by decide +kernel
theorem dX3_readQ_82 : decode cX3_readQ 82 = .ok (.iconst 1, 1) := by decide +kernel
theorem dX3_readQ_83 : decode cX3_readQ 83 = .ok (.iadd, 1) := by decide +kernel
theorem dX3_readQ_84 : decode cX3_readQ 84 = .ok (.invokevirtual 73, 3) := by decide +kernel
theorem dX3_readQ_87 : decode cX3_readQ 87 = .ok (.goto 10, 3) := by decide +kernel
theorem dX3_readQ_90 : decode cX3_readQ 90 = .ok (.aload_n 0, 1) := by decide +kernel
theorem dX3_readQ_91 : decode cX3_readQ 91 = .ok (.iload_n 1, 1) := by decide +kernel
theorem dX3_readQ_92 : decode cX3_readQ 92 = .ok (.iconst 1, 1) := by decide +kernel
theorem dX3_readQ_93 : decode cX3_readQ 93 = .ok (.iadd, 1) := by decide +kernel
theorem dX3_readQ_94 : decode cX3_readQ 94 = .ok (.invokevirtual 76, 3) := by decide +kernel
theorem dX3_readQ_97 : decode cX3_readQ 97 = .ok (.ireturn, 1) := by decide +kernel
theorem dX3_readNot_0 : decode cX3_readNot 0 = .ok (.aload_n 0, 1) := by decide +kernel
theorem dX3_readNot_1 : decode cX3_readNot 1 = .ok (.iload_n 1, 1) := by decide +kernel
theorem dX3_readNot_2 : decode cX3_readNot 2 = .ok (.invokevirtual 48, 3) := by decide +kernel
theorem dX3_readNot_5 : decode cX3_readNot 5 = .ok (.ifCond .ne 5, 3) := by decide +kernel
theorem dX3_readNot_8 : decode cX3_readNot 8 = .ok (.iconst 0, 1) := by decide +kernel
theorem dX3_readNot_9 : decode cX3_readNot 9 = .ok (.ireturn, 1) := by decide +kernel
theorem dX3_readNot_10 : decode cX3_readNot 10 = .ok (.aload_n 0, 1) := by decide +kernel
theorem dX3_readNot_11 : decode cX3_readNot 11 = .ok (.bipush (-33), 2) := by decide +kernel
theorem dX3_readNot_13 : decode cX3_readNot 13 = .ok (.invokevirtual 60, 3) := by decide +kernel
theorem dX3_readNot_16 : decode cX3_readNot 16 = .ok (.iconst 1, 1) := by decide +kernel
theorem dX3_readNot_17 : decode cX3_readNot 17 = .ok (.ireturn, 1) := by decide +kernel
theorem dX3_readClosed_0 : decode cX3_readClosed 0 = .ok (.aload_n 0, 1) := by decide +kernel
theorem dX3_readClosed_1 : decode cX3_readClosed 1 = .ok (.iconst 0, 1) := by decide +kernel
theorem dX3_readClosed_2 : decode cX3_readClosed 2 = .ok (.iload_n 1, 1) := by decide +kernel
theorem dX3_readClosed_3 : decode cX3_readClosed 3 = .ok (.invokevirtual 44, 3) := by decide +kernel
theorem dX3_readClosed_6 : decode cX3_readClosed 6 = .ok (.ifCond .eq 12, 3) := by decide +kernel
theorem dX3_readClosed_9 : decode cX3_readClosed 9 = .ok (.aload_n 0, 1) := by decide +kernel
theorem dX3_readClosed_10 : decode cX3_readClosed 10 = .ok (.invokevirtual 52, 3) := by decide +kernel
theorem dX3_readClosed_13 : decode cX3_readClosed 13 = .ok (.bipush 41, 2) := by decide +kernel
theorem dX3_readClosed_15 : decode cX3_readClosed 15 = .ok (.if_icmp .eq 5, 3) := by decide +kernel
theorem dX3_readClosed_18 : decode cX3_readClosed 18 = .ok (.iconst 0, 1) := by decide +kernel
theorem dX3_readClosed_19 : decode cX3_readClosed 19 = .ok (.ireturn, 1) := by decide +kernel
theorem dX3_readClosed_20 : decode cX3_readClosed 20 = .ok (.aload_n 0, 1) := by decide +kernel
theorem dX3_readClosed_21 : decode cX3_readClosed 21 = .ok (.dup, 1) := by decide +kernel
theorem dX3_readClosed_22 : decode cX3_readClosed 22 = .ok (.getfield 22, 3) := by decide +kernel
theorem dX3_readClosed_25 : decode cX3_readClosed 25 = .ok (.iconst 1, 1) := by decide +kernel
theorem dX3_readClosed_26 : decode cX3_readClosed 26 = .ok (.iadd, 1) := by decide +kernel
theorem dX3_readClosed_27 : decode cX3_readClosed 27 = .ok (.putfield 22, 3) := by decide +kernel
theorem dX3_readClosed_30 : decode cX3_readClosed 30 = .ok (.iconst 1, 1) := by decide +kernel
theorem dX3_readClosed_31 : decode cX3_readClosed 31 = .ok (.ireturn, 1) := by decide +kernel
theorem dX3_readNumber_0 : decode cX3_readNumber 0 = .ok (.iconst 0, 1) := by decide +kernel
theorem dX3_readNumber_1 : decode cX3_readNumber 1 = .ok (.istore_n 1, 1) := by decide +kernel
theorem dX3_readNumber_2 : decode cX3_readNumber 2 = .ok (.iconst 0, 1) := by decide +kernel
theorem dX3_readNumber_3 : decode cX3_readNumber 3 = .ok (.istore_n 2, 1) := by decide +kernel
theorem dX3_readNumber_4 : decode cX3_readNumber 4 = .ok (.iload_n 2, 1) := by decide +kernel
theorem dX3_readNumber_5 : decode cX3_readNumber 5 = .ok (.iconst 4, 1) := by decide +kernel
theorem dX3_readNumber_6 : decode cX3_readNumber 6 = .ok (.if_icmp .ge 42, 3) := by decide +kernel
theorem dX3_readNumber_9 : decode cX3_readNumber 9 = .ok (.aload_n 0, 1) := by decide +kernel
theorem dX3_readNumber_10 : decode cX3_readNumber 10 = .ok (.invokevirtual 52, 3) := by decide +kernel
theorem dX3_readNumber_13 : decode cX3_readNumber 13 = .ok (.invokestatic 64, 3) := by decide +kernel
theorem dX3_readNumber_16 : decode cX3_readNumber 16 = .ok (.ifCond .eq 32, 3) := by decide +kernel
theorem dX3_readNumber_19 : decode cX3_readNumber 19 = .ok (.bipush 10, 2) := by decide +kernel
theorem dX3_readNumber_21 : decode cX3_readNumber 21 = .ok (.iload_n 1, 1) := by decide +kernel
theorem dX3_readNumber_22 : decode cX3_readNumber 22 = .ok (.imul, 1) := by decide +kernel
theorem dX3_readNumber_23 : decode cX3_readNumber 23 = .ok (.aload_n 0, 1) := by decide +kernel
theorem dX3_readNumber_24 : decode cX3_readNumber 24 = .ok (.invokevirtual 52, 3) := by decide +kernel
theorem dX3_readNumber_27 : decode cX3_readNumber 27 = .ok (.bipush 48, 2) := by decide +kernel
theorem dX3_readNumber_29 : decode cX3_readNumber 29 = .ok (.isub, 1) := by decide +kernel
theorem dX3_readNumber_30 : decode cX3_readNumber 30 = .ok (.iadd, 1) := by decide +kernel
theorem dX3_readNumber_31 : decode cX3_readNumber 31 = .ok (.istore_n 1, 1) := by decide +kernel
theorem dX3_readNumber_32 : decode cX3_readNumber 32 = .ok (.aload_n 0, 1) := by decide +kernel
theorem dX3_readNumber_33 : decode cX3_readNumber 33 = .ok (.dup, 1) := by decide +kernel
theorem dX3_readNumber_34 : decode cX3_readNumber 34 = .ok (.getfield 22, 3) := by decide +kernel
theorem dX3_readNumber_37 : decode cX3_readNumber 37 = .ok (.iconst 1, 1) := by decide +kernel
theorem dX3_readNumber_38 : decode cX3_readNumber 38 = .ok (.iadd, 1) := by decide +kernel
theorem dX3_readNumber_39 : decode cX3_readNumber 39 = .ok (.putfield 22, 3) := by decide +kernel
theorem dX3_readNumber_42 : decode cX3_readNumber 42 = .ok (.iinc 2 1, 3) := by decide +kernel
theorem dX3_readNumber_45 : decode cX3_readNumber 45 = .ok (.goto (-41), 3) := by decide +kernel
theorem dX3_readNumber_48 : decode cX3_readNumber 48 = .ok (.aload_n 0, 1) := by decide +kernel
theorem dX3_readNumber_49 : decode cX3_readNumber 49 = .ok (.iload_n 1, 1) := by decide +kernel
theorem dX3_readNumber_50 : decode cX3_readNumber 50 = .ok (.invokevirtual 60, 3) := by decide +kernel
theorem dX3_readNumber_53 : decode cX3_readNumber 53 = .ok (.return_, 1) := by decide +kernel
theorem dX3_isDigit_0 : decode cX3_isDigit 0 = .ok (.iload_n 0, 1) := by decide +kernel
theorem dX3_isDigit_1 : decode cX3_isDigit 1 = .ok (.bipush 48, 2) := by decide +kernel
theorem dX3_isDigit_3 : decode cX3_isDigit 3 = .ok (.if_icmp .lt 13, 3) := by decide +kernel
theorem dX3_isDigit_6 : decode cX3_isDigit 6 = .ok (.iload_n 0, 1) := by decide +kernel
theorem dX3_isDigit_7 : decode cX3_isDigit 7 = .ok (.bipush 57, 2) := by decide +kernel
theorem dX3_isDigit_9 : decode cX3_isDigit 9 = .ok (.if_icmp .gt 7, 3) := by decide +kernel
theorem dX3_isDigit_12 : decode cX3_isDigit 12 = .ok (.iconst 1, 1) := by decide +kernel
theorem dX3_isDigit_13 : decode cX3_isDigit 13 = .ok (.goto 4, 3) := by decide +kernel
theorem dX3_isDigit_16 : decode cX3_isDigit 16 = .ok (.iconst 0, 1) := by decide +kernel
theorem dX3_isDigit_17 : decode cX3_isDigit 17 = .ok (.ireturn, 1) := by decide +kernel
theorem dX3_nameOf_0 : decode cX3_nameOf 0 = .ok (.iload_n 1, 1) := by decide +kernel
theorem dX3_nameOf_1 : decode cX3_nameOf 1 = .ok (.tableswitch 146 100 114 #[102, 146, 146, 146, 146, 146, 146, 146, 146, 116, 146, 88, 131, 146, 75], 75) := by decide +kernel
theorem dX3_nameOf_76 : decode cX3_nameOf 76 = .ok (.aload_n 0, 1) := by decide +kernel
theorem dX3_nameOf_77 : decode cX3_nameOf 77 = .ok (.getfield 19, 3) := by decide +kernel
theorem dX3_nameOf_80 : decode cX3_nameOf 80 = .ok (.ifCond .ne 7, 3) := by decide +kernel
theorem dX3_nameOf_83 : decode cX3_nameOf 83 = .ok (.iconst (-1), 1) := by decide +kernel
theorem dX3_nameOf_84 : decode cX3_nameOf 84 = .ok (.goto 4, 3) := by decide +kernel
theorem dX3_nameOf_87 : decode cX3_nameOf 87 = .ok (.iconst 0, 1) := by decide +kernel
theorem dX3_nameOf_88 : decode cX3_nameOf 88 = .ok (.ireturn, 1) := by decide +kernel
theorem dX3_nameOf_89 : decode cX3_nameOf 89 = .ok (.aload_n 0, 1) := by decide +kernel
theorem dX3_nameOf_90 : decode cX3_nameOf 90 = .ok (.getfield 19, 3) := by decide +kernel
theorem dX3_nameOf_93 : decode cX3_nameOf 93 = .ok (.ifCond .ne 8, 3) := by decide +kernel
theorem dX3_nameOf_96 : decode cX3_nameOf 96 = .ok (.bipush (-2), 2) := by decide +kernel
theorem dX3_nameOf_98 : decode cX3_nameOf 98 = .ok (.goto 4, 3) := by decide +kernel
theorem dX3_nameOf_101 : decode cX3_nameOf 101 = .ok (.iconst 0, 1) := by decide +kernel
theorem dX3_nameOf_102 : decode cX3_nameOf 102 = .ok (.ireturn, 1) := by decide +kernel
theorem dX3_nameOf_103 : decode cX3_nameOf 103 = .ok (.aload_n 0, 1) := by decide +kernel
theorem dX3_nameOf_104 : decode cX3_nameOf 104 = .ok (.getfield 19, 3) := by decide +kernel
theorem dX3_nameOf_107 : decode cX3_nameOf 107 = .ok (.iconst 1, 1) := by decide +kernel
theorem dX3_nameOf_108 : decode cX3_nameOf 108 = .ok (.if_icmp .ne 7, 3) := by decide +kernel
theorem dX3_nameOf_111 : decode cX3_nameOf 111 = .ok (.iconst (-1), 1) := by decide +kernel
theorem dX3_nameOf_112 : decode cX3_nameOf 112 = .ok (.goto 4, 3) := by decide +kernel
theorem dX3_nameOf_115 : decode cX3_nameOf 115 = .ok (.iconst 0, 1) := by decide +kernel
theorem dX3_nameOf_116 : decode cX3_nameOf 116 = .ok (.ireturn, 1) := by decide +kernel
theorem dX3_nameOf_117 : decode cX3_nameOf 117 = .ok (.aload_n 0, 1) := by decide +kernel
theorem dX3_nameOf_118 : decode cX3_nameOf 118 = .ok (.getfield 19, 3) := by decide +kernel
theorem dX3_nameOf_121 : decode cX3_nameOf 121 = .ok (.ifCond .ne 8, 3) := by decide +kernel
theorem dX3_nameOf_124 : decode cX3_nameOf 124 = .ok (.bipush (-3), 2) := by decide +kernel
theorem dX3_nameOf_126 : decode cX3_nameOf 126 = .ok (.goto 5, 3) := by decide +kernel
theorem dX3_nameOf_129 : decode cX3_nameOf 129 = .ok (.bipush (-2), 2) := by decide +kernel
theorem dX3_nameOf_131 : decode cX3_nameOf 131 = .ok (.ireturn, 1) := by decide +kernel
theorem dX3_nameOf_132 : decode cX3_nameOf 132 = .ok (.aload_n 0, 1) := by decide +kernel
theorem dX3_nameOf_133 : decode cX3_nameOf 133 = .ok (.getfield 19, 3) := by decide +kernel
theorem dX3_nameOf_136 : decode cX3_nameOf 136 = .ok (.iconst 1, 1) := by decide +kernel
theorem dX3_nameOf_137 : decode cX3_nameOf 137 = .ok (.if_icmp .ne 8, 3) := by decide +kernel
theorem dX3_nameOf_140 : decode cX3_nameOf 140 = .ok (.bipush (-3), 2) := by decide +kernel
theorem dX3_nameOf_142 : decode cX3_nameOf 142 = .ok (.goto 4, 3) := by decide +kernel
theorem dX3_nameOf_145 : decode cX3_nameOf 145 = .ok (.iconst 0, 1) := by decide +kernel
theorem dX3_nameOf_146 : decode cX3_nameOf 146 = .ok (.ireturn, 1) := by decide +kernel
theorem dX3_nameOf_147 : decode cX3_nameOf 147 = .ok (.iconst 0, 1) := by decide +kernel
theorem dX3_nameOf_148 : decode cX3_nameOf 148 = .ok (.ireturn, 1) := by decide +kernel
theorem dX4_init_0 : decode cX4_init 0 = .ok (.aload_n 0, 1) := by decide +kernel
theorem dX4_init_1 : decode cX4_init 1 = .ok (.invokespecial 3, 3) := by decide +kernel
theorem dX4_init_4 : decode cX4_init 4 = .ok (.aload_n 0, 1) := by decide +kernel
theorem dX4_init_5 : decode cX4_init 5 = .ok (.iconst 0, 1) := by decide +kernel
theorem dX4_init_6 : decode cX4_init 6 = .ok (.putfield 9, 3) := by decide +kernel
theorem dX4_init_9 : decode cX4_init 9 = .ok (.aload_n 0, 1) := by decide +kernel
theorem dX4_init_10 : decode cX4_init 10 = .ok (.iconst 0, 1) := by decide +kernel
theorem dX4_init_11 : decode cX4_init 11 = .ok (.putfield 15, 3) := by decide +kernel
theorem dX4_init_14 : decode cX4_init 14 = .ok (.aload_n 0, 1) := by decide +kernel
theorem dX4_init_15 : decode cX4_init 15 = .ok (.bipush 40, 2) := by decide +kernel
theorem dX4_init_17 : decode cX4_init 17 = .ok (.newarray .int, 2) := by decide +kernel
theorem dX4_init_19 : decode cX4_init 19 = .ok (.putfield 18, 3) := by decide +kernel
theorem dX4_init_22 : decode cX4_init 22 = .ok (.return_, 1) := by decide +kernel
theorem dX4_lay_0 : decode cX4_lay 0 = .ok (.aload_n 0, 1) := by decide +kernel
theorem dX4_lay_1 : decode cX4_lay 1 = .ok (.iload_n 1, 1) := by decide +kernel
theorem dX4_lay_2 : decode cX4_lay 2 = .ok (.putfield 9, 3) := by decide +kernel
theorem dX4_lay_5 : decode cX4_lay 5 = .ok (.aload_n 0, 1) := by decide +kernel
theorem dX4_lay_6 : decode cX4_lay 6 = .ok (.iload_n 2, 1) := by decide +kernel
theorem dX4_lay_7 : decode cX4_lay 7 = .ok (.putfield 15, 3) := by decide +kernel
theorem dX4_lay_10 : decode cX4_lay 10 = .ok (.iconst 0, 1) := by decide +kernel
theorem dX4_lay_11 : decode cX4_lay 11 = .ok (.istore_n 3, 1) := by decide +kernel
theorem dX4_lay_12 : decode cX4_lay 12 = .ok (.iload_n 3, 1) := by decide +kernel
theorem dX4_lay_13 : decode cX4_lay 13 = .ok (.bipush 40, 2) := by decide +kernel
theorem dX4_lay_15 : decode cX4_lay 15 = .ok (.if_icmp .ge 16, 3) := by decide +kernel
theorem dX4_lay_18 : decode cX4_lay 18 = .ok (.aload_n 0, 1) := by decide +kernel
theorem dX4_lay_19 : decode cX4_lay 19 = .ok (.getfield 18, 3) := by decide +kernel
theorem dX4_lay_22 : decode cX4_lay 22 = .ok (.iload_n 3, 1) := by decide +kernel
theorem dX4_lay_23 : decode cX4_lay 23 = .ok (.iconst 0, 1) := by decide +kernel
theorem dX4_lay_24 : decode cX4_lay 24 = .ok (.iastore, 1) := by decide +kernel
theorem dX4_lay_25 : decode cX4_lay 25 = .ok (.iinc 3 1, 3) := by decide +kernel
theorem dX4_lay_28 : decode cX4_lay 28 = .ok (.goto (-16), 3) := by decide +kernel
theorem dX4_lay_31 : decode cX4_lay 31 = .ok (.return_, 1) := by decide +kernel
theorem dX4_write_0 : decode cX4_write 0 = .ok (.aload_n 0, 1) := by decide +kernel
theorem dX4_write_1 : decode cX4_write 1 = .ok (.getfield 9, 3) := by decide +kernel
theorem dX4_write_4 : decode cX4_write 4 = .ok (.bipush 8, 2) := by decide +kernel
theorem dX4_write_6 : decode cX4_write 6 = .ok (.if_icmp .ne 14, 3) := by decide +kernel
theorem dX4_write_9 : decode cX4_write 9 = .ok (.aload_n 0, 1) := by decide +kernel
theorem dX4_write_10 : decode cX4_write 10 = .ok (.getfield 18, 3) := by decide +kernel
theorem dX4_write_13 : decode cX4_write 13 = .ok (.iload_n 1, 1) := by decide +kernel
theorem dX4_write_14 : decode cX4_write 14 = .ok (.iload_n 2, 1) := by decide +kernel
theorem dX4_write_15 : decode cX4_write 15 = .ok (.i2b, 1) := by decide +kernel
theorem dX4_write_16 : decode cX4_write 16 = .ok (.iastore, 1) := by decide +kernel
theorem dX4_write_17 : decode cX4_write 17 = .ok (.goto 30, 3) := by decide +kernel
theorem dX4_write_20 : decode cX4_write 20 = .ok (.aload_n 0, 1) := by decide +kernel
theorem dX4_write_21 : decode cX4_write 21 = .ok (.getfield 9, 3) := by decide +kernel
theorem dX4_write_24 : decode cX4_write 24 = .ok (.bipush 16, 2) := by decide +kernel
theorem dX4_write_26 : decode cX4_write 26 = .ok (.if_icmp .ne 14, 3) := by decide +kernel
theorem dX4_write_29 : decode cX4_write 29 = .ok (.aload_n 0, 1) := by decide +kernel
theorem dX4_write_30 : decode cX4_write 30 = .ok (.getfield 18, 3) := by decide +kernel
theorem dX4_write_33 : decode cX4_write 33 = .ok (.iload_n 1, 1) := by decide +kernel
theorem dX4_write_34 : decode cX4_write 34 = .ok (.iload_n 2, 1) := by decide +kernel
theorem dX4_write_35 : decode cX4_write 35 = .ok (.i2s, 1) := by decide +kernel
theorem dX4_write_36 : decode cX4_write 36 = .ok (.iastore, 1) := by decide +kernel
theorem dX4_write_37 : decode cX4_write 37 = .ok (.goto 10, 3) := by decide +kernel
theorem dX4_write_40 : decode cX4_write 40 = .ok (.aload_n 0, 1) := by decide +kernel
theorem dX4_write_41 : decode cX4_write 41 = .ok (.getfield 18, 3) := by decide +kernel
theorem dX4_write_44 : decode cX4_write 44 = .ok (.iload_n 1, 1) := by decide +kernel
theorem dX4_write_45 : decode cX4_write 45 = .ok (.iload_n 2, 1) := by decide +kernel
theorem dX4_write_46 : decode cX4_write 46 = .ok (.iastore, 1) := by decide +kernel
theorem dX4_write_47 : decode cX4_write 47 = .ok (.return_, 1) := by decide +kernel
theorem dX4_hasStretch_0 : decode cX4_hasStretch 0 = .ok (.iload_n 2, 1) := by decide +kernel
theorem dX4_hasStretch_1 : decode cX4_hasStretch 1 = .ok (.ifCond .lt 29, 3) := by decide +kernel
theorem dX4_hasStretch_4 : decode cX4_hasStretch 4 = .ok (.iload_n 1, 1) := by decide +kernel
theorem dX4_hasStretch_5 : decode cX4_hasStretch 5 = .ok (.ifCond .lt 25, 3) := by decide +kernel
theorem dX4_hasStretch_8 : decode cX4_hasStretch 8 = .ok (.iload_n 1, 1) := by decide +kernel
theorem dX4_hasStretch_9 : decode cX4_hasStretch 9 = .ok (.aload_n 0, 1) := by decide +kernel
theorem dX4_hasStretch_10 : decode cX4_hasStretch 10 = .ok (.getfield 15, 3) := by decide +kernel
theorem dX4_hasStretch_13 : decode cX4_hasStretch 13 = .ok (.if_icmp .gt 17, 3) := by decide +kernel
theorem dX4_hasStretch_16 : decode cX4_hasStretch 16 = .ok (.iload_n 2, 1) := by decide +kernel
theorem dX4_hasStretch_17 : decode cX4_hasStretch 17 = .ok (.aload_n 0, 1) := by decide +kernel
theorem dX4_hasStretch_18 : decode cX4_hasStretch 18 = .ok (.getfield 15, 3) := by decide +kernel
theorem dX4_hasStretch_21 : decode cX4_hasStretch 21 = .ok (.iload_n 1, 1) := by decide +kernel
theorem dX4_hasStretch_22 : decode cX4_hasStretch 22 = .ok (.isub, 1) := by decide +kernel
theorem dX4_hasStretch_23 : decode cX4_hasStretch 23 = .ok (.if_icmp .gt 7, 3) := by decide +kernel
theorem dX4_hasStretch_26 : decode cX4_hasStretch 26 = .ok (.iconst 1, 1) := by decide +kernel
theorem dX4_hasStretch_27 : decode cX4_hasStretch 27 = .ok (.goto 4, 3) := by decide +kernel
theorem dX4_hasStretch_30 : decode cX4_hasStretch 30 = .ok (.iconst 0, 1) := by decide +kernel
theorem dX4_hasStretch_31 : decode cX4_hasStretch 31 = .ok (.ireturn, 1) := by decide +kernel
theorem dX4_tellsRueOf_0 : decode cX4_tellsRueOf 0 = .ok (.iconst 0, 1) := by decide +kernel
theorem dX4_tellsRueOf_1 : decode cX4_tellsRueOf 1 = .ok (.istore_n 2, 1) := by decide +kernel
theorem dX4_tellsRueOf_2 : decode cX4_tellsRueOf 2 = .ok (.iload_n 2, 1) := by decide +kernel
theorem dX4_tellsRueOf_3 : decode cX4_tellsRueOf 3 = .ok (.aload_n 0, 1) := by decide +kernel
theorem dX4_tellsRueOf_4 : decode cX4_tellsRueOf 4 = .ok (.getfield 15, 3) := by decide +kernel
theorem dX4_tellsRueOf_7 : decode cX4_tellsRueOf 7 = .ok (.if_icmp .ge 34, 3) := by decide +kernel
theorem dX4_tellsRueOf_10 : decode cX4_tellsRueOf 10 = .ok (.iload_n 2, 1) := by decide +kernel
theorem dX4_tellsRueOf_11 : decode cX4_tellsRueOf 11 = .ok (.aload_n 1, 1) := by decide +kernel
theorem dX4_tellsRueOf_12 : decode cX4_tellsRueOf 12 = .ok (.getfield 22, 3) := by decide +kernel
theorem dX4_tellsRueOf_15 : decode cX4_tellsRueOf 15 = .ok (.if_icmp .ge 26, 3) := by decide +kernel
theorem dX4_tellsRueOf_18 : decode cX4_tellsRueOf 18 = .ok (.aload_n 0, 1) := by decide +kernel
theorem dX4_tellsRueOf_19 : decode cX4_tellsRueOf 19 = .ok (.getfield 18, 3) := by decide +kernel
theorem dX4_tellsRueOf_22 : decode cX4_tellsRueOf 22 = .ok (.iload_n 2, 1) := by decide +kernel
theorem dX4_tellsRueOf_23 : decode cX4_tellsRueOf 23 = .ok (.iaload, 1) := by decide +kernel
theorem dX4_tellsRueOf_24 : decode cX4_tellsRueOf 24 = .ok (.aload_n 1, 1) := by decide +kernel
theorem dX4_tellsRueOf_25 : decode cX4_tellsRueOf 25 = .ok (.getfield 25, 3) := by decide +kernel
theorem dX4_tellsRueOf_28 : decode cX4_tellsRueOf 28 = .ok (.iload_n 2, 1) := by decide +kernel
theorem dX4_tellsRueOf_29 : decode cX4_tellsRueOf 29 = .ok (.iaload, 1) := by decide +kernel
theorem dX4_tellsRueOf_30 : decode cX4_tellsRueOf 30 = .ok (.if_icmp .eq 5, 3) := by decide +kernel
theorem dX4_tellsRueOf_33 : decode cX4_tellsRueOf 33 = .ok (.iconst 0, 1) := by decide +kernel
theorem dX4_tellsRueOf_34 : decode cX4_tellsRueOf 34 = .ok (.ireturn, 1) := by decide +kernel
theorem dX4_tellsRueOf_35 : decode cX4_tellsRueOf 35 = .ok (.iinc 2 1, 3) := by decide +kernel
theorem dX4_tellsRueOf_38 : decode cX4_tellsRueOf 38 = .ok (.goto (-36), 3) := by decide +kernel
theorem dX4_tellsRueOf_41 : decode cX4_tellsRueOf 41 = .ok (.iconst 1, 1) := by decide +kernel
theorem dX4_tellsRueOf_42 : decode cX4_tellsRueOf 42 = .ok (.ireturn, 1) := by decide +kernel
theorem dX5_init_0 : decode cX5_init 0 = .ok (.aload_n 0, 1) := by decide +kernel
theorem dX5_init_1 : decode cX5_init 1 = .ok (.invokespecial 3, 3) := by decide +kernel
theorem dX5_init_4 : decode cX5_init 4 = .ok (.aload_n 0, 1) := by decide +kernel
theorem dX5_init_5 : decode cX5_init 5 = .ok (.iconst 0, 1) := by decide +kernel
theorem dX5_init_6 : decode cX5_init 6 = .ok (.putfield 9, 3) := by decide +kernel
theorem dX5_init_9 : decode cX5_init 9 = .ok (.aload_n 0, 1) := by decide +kernel
theorem dX5_init_10 : decode cX5_init 10 = .ok (.iconst 0, 1) := by decide +kernel
theorem dX5_init_11 : decode cX5_init 11 = .ok (.putfield 15, 3) := by decide +kernel
theorem dX5_init_14 : decode cX5_init 14 = .ok (.aload_n 0, 1) := by decide +kernel
theorem dX5_init_15 : decode cX5_init 15 = .ok (.iconst 0, 1) := by decide +kernel
theorem dX5_init_16 : decode cX5_init 16 = .ok (.putfield 18, 3) := by decide +kernel
theorem dX5_init_19 : decode cX5_init 19 = .ok (.aload_n 0, 1) := by decide +kernel
theorem dX5_init_20 : decode cX5_init 20 = .ok (.iconst 0, 1) := by decide +kernel
theorem dX5_init_21 : decode cX5_init 21 = .ok (.putfield 21, 3) := by decide +kernel
theorem dX5_init_24 : decode cX5_init 24 = .ok (.aload_n 0, 1) := by decide +kernel
theorem dX5_init_25 : decode cX5_init 25 = .ok (.bipush 40, 2) := by decide +kernel
theorem dX5_init_27 : decode cX5_init 27 = .ok (.newarray .int, 2) := by decide +kernel
theorem dX5_init_29 : decode cX5_init 29 = .ok (.putfield 24, 3) := by decide +kernel
theorem dX5_init_32 : decode cX5_init 32 = .ok (.return_, 1) := by decide +kernel
theorem dX5_hear_0 : decode cX5_hear 0 = .ok (.aload_n 0, 1) := by decide +kernel
theorem dX5_hear_1 : decode cX5_hear 1 = .ok (.iload_n 1, 1) := by decide +kernel
theorem dX5_hear_2 : decode cX5_hear 2 = .ok (.putfield 15, 3) := by decide +kernel
theorem dX5_hear_5 : decode cX5_hear 5 = .ok (.aload_n 0, 1) := by decide +kernel
theorem dX5_hear_6 : decode cX5_hear 6 = .ok (.iload_n 2, 1) := by decide +kernel
theorem dX5_hear_7 : decode cX5_hear 7 = .ok (.putfield 9, 3) := by decide +kernel
theorem dX5_hear_10 : decode cX5_hear 10 = .ok (.aload_n 0, 1) := by decide +kernel
theorem dX5_hear_11 : decode cX5_hear 11 = .ok (.iload_n 3, 1) := by decide +kernel
theorem dX5_hear_12 : decode cX5_hear 12 = .ok (.putfield 18, 3) := by decide +kernel
theorem dX5_hear_15 : decode cX5_hear 15 = .ok (.aload_n 0, 1) := by decide +kernel
theorem dX5_hear_16 : decode cX5_hear 16 = .ok (.iconst 0, 1) := by decide +kernel
theorem dX5_hear_17 : decode cX5_hear 17 = .ok (.putfield 21, 3) := by decide +kernel
theorem dX5_hear_20 : decode cX5_hear 20 = .ok (.aload_n 0, 1) := by decide +kernel
theorem dX5_hear_21 : decode cX5_hear 21 = .ok (.aload_n 0, 1) := by decide +kernel
theorem dX5_hear_22 : decode cX5_hear 22 = .ok (.getfield 9, 3) := by decide +kernel
theorem dX5_hear_25 : decode cX5_hear 25 = .ok (.iload 4, 2) := by decide +kernel
theorem dX5_hear_27 : decode cX5_hear 27 = .ok (.iload 5, 2) := by decide +kernel
theorem dX5_hear_29 : decode cX5_hear 29 = .ok (.iconst 0, 1) := by decide +kernel
theorem dX5_hear_30 : decode cX5_hear 30 = .ok (.invokevirtual 28, 3) := by decide +kernel
theorem dX5_hear_33 : decode cX5_hear 33 = .ok (.ireturn, 1) := by decide +kernel
theorem dX5_speak_0 : decode cX5_speak 0 = .ok (.iload 4, 2) := by decide +kernel
theorem dX5_speak_2 : decode cX5_speak 2 = .ok (.bipush 30, 2) := by decide +kernel
theorem dX5_speak_4 : decode cX5_speak 4 = .ok (.if_icmp .le 5, 3) := by decide +kernel
theorem dX5_speak_7 : decode cX5_speak 7 = .ok (.iconst 0, 1) := by decide +kernel
theorem dX5_speak_8 : decode cX5_speak 8 = .ok (.ireturn, 1) := by decide +kernel
theorem dX5_speak_9 : decode cX5_speak 9 = .ok (.iload_n 1, 1) := by decide +kernel
theorem dX5_speak_10 : decode cX5_speak 10 = .ok (.istore 5, 2) := by decide +kernel
theorem dX5_speak_12 : decode cX5_speak 12 = .ok (.iconst 0, 1) := by decide +kernel
theorem dX5_speak_13 : decode cX5_speak 13 = .ok (.istore 6, 2) := by decide +kernel
theorem dX5_speak_15 : decode cX5_speak 15 = .ok (.iload 6, 2) := by decide +kernel
theorem dX5_speak_17 : decode cX5_speak 17 = .ok (.bipush 7, 2) := by decide +kernel
theorem dX5_speak_19 : decode cX5_speak 19 = .ok (.if_icmp .ge 63, 3) := by decide +kernel
theorem dX5_speak_22 : decode cX5_speak 22 = .ok (.iload 5, 2) := by decide +kernel
theorem dX5_speak_24 : decode cX5_speak 24 = .ok (.ifCond .lt 58, 3) := by decide +kernel
theorem dX5_speak_27 : decode cX5_speak 27 = .ok (.getstatic 32, 3) := by decide +kernel
theorem dX5_speak_30 : decode cX5_speak 30 = .ok (.iconst 4, 1) := by decide +kernel
theorem dX5_speak_31 : decode cX5_speak 31 = .ok (.iload 5, 2) := by decide +kernel
theorem dX5_speak_33 : decode cX5_speak 33 = .ok (.imul, 1) := by decide +kernel
theorem dX5_speak_34 : decode cX5_speak 34 = .ok (.iload_n 2, 1) := by decide +kernel
theorem dX5_speak_35 : decode cX5_speak 35 = .ok (.iadd, 1) := by decide +kernel
theorem dX5_speak_36 : decode cX5_speak 36 = .ok (.iaload, 1) := by decide +kernel
theorem dX5_speak_37 : decode cX5_speak 37 = .ok (.istore 7, 2) := by decide +kernel
theorem dX5_speak_39 : decode cX5_speak 39 = .ok (.iload 7, 2) := by decide +kernel
theorem dX5_speak_41 : decode cX5_speak 41 = .ok (.ifCond .eq 27, 3) := by decide +kernel
theorem dX5_speak_44 : decode cX5_speak 44 = .ok (.aload_n 0, 1) := by decide +kernel
theorem dX5_speak_45 : decode cX5_speak 45 = .ok (.iload 7, 2) := by decide +kernel
theorem dX5_speak_47 : decode cX5_speak 47 = .ok (.invokevirtual 35, 3) := by decide +kernel
theorem dX5_speak_50 : decode cX5_speak 50 = .ok (.aload_n 0, 1) := by decide +kernel
theorem dX5_speak_51 : decode cX5_speak 51 = .ok (.iload 7, 2) := by decide +kernel
theorem dX5_speak_53 : decode cX5_speak 53 = .ok (.getstatic 39, 3) := by decide +kernel
theorem dX5_speak_56 : decode cX5_speak 56 = .ok (.iload 5, 2) := by decide +kernel
theorem dX5_speak_58 : decode cX5_speak 58 = .ok (.iaload, 1) := by decide +kernel
theorem dX5_speak_59 : decode cX5_speak 59 = .ok (.iload_n 3, 1) := by decide +kernel
theorem dX5_speak_60 : decode cX5_speak 60 = .ok (.iload 4, 2) := by decide +kernel
theorem dX5_speak_62 : decode cX5_speak 62 = .ok (.iconst 1, 1) := by decide +kernel
theorem dX5_speak_63 : decode cX5_speak 63 = .ok (.iadd, 1) := by decide +kernel
theorem dX5_speak_64 : decode cX5_speak 64 = .ok (.invokevirtual 42, 3) := by decide +kernel
theorem dX5_speak_67 : decode cX5_speak 67 = .ok (.ireturn, 1) := by decide +kernel
theorem dX5_speak_68 : decode cX5_speak 68 = .ok (.getstatic 39, 3) := by decide +kernel
theorem dX5_speak_71 : decode cX5_speak 71 = .ok (.iload 5, 2) := by decide +kernel
theorem dX5_speak_73 : decode cX5_speak 73 = .ok (.iaload, 1) := by decide +kernel
theorem dX5_speak_74 : decode cX5_speak 74 = .ok (.istore 5, 2) := by decide +kernel
theorem dX5_speak_76 : decode cX5_speak 76 = .ok (.iinc 6 1, 3) := by decide +kernel
theorem dX5_speak_79 : decode cX5_speak 79 = .ok (.goto (-64), 3) := by decide +kernel
theorem dX5_speak_82 : decode cX5_speak 82 = .ok (.iconst 0, 1) := by decide +kernel
theorem dX5_speak_83 : decode cX5_speak 83 = .ok (.ireturn, 1) := by decide +kernel
theorem dX5_note_0 : decode cX5_note 0 = .ok (.aload_n 0, 1) := by decide +kernel
theorem dX5_note_1 : decode cX5_note 1 = .ok (.getfield 21, 3) := by decide +kernel
theorem dX5_note_4 : decode cX5_note 4 = .ok (.bipush 40, 2) := by decide +kernel
theorem dX5_note_6 : decode cX5_note 6 = .ok (.if_icmp .ge 23, 3) := by decide +kernel
theorem dX5_note_9 : decode cX5_note 9 = .ok (.aload_n 0, 1) := by decide +kernel
theorem dX5_note_10 : decode cX5_note 10 = .ok (.getfield 24, 3) := by decide +kernel
theorem dX5_note_13 : decode cX5_note 13 = .ok (.aload_n 0, 1) := by decide +kernel
theorem dX5_note_14 : decode cX5_note 14 = .ok (.getfield 21, 3) := by decide +kernel
theorem dX5_note_17 : decode cX5_note 17 = .ok (.iload_n 1, 1) := by decide +kernel
theorem dX5_note_18 : decode cX5_note 18 = .ok (.iastore, 1) := by decide +kernel
theorem dX5_note_19 : decode cX5_note 19 = .ok (.aload_n 0, 1) := by decide +kernel
theorem dX5_note_20 : decode cX5_note 20 = .ok (.dup, 1) := by decide +kernel
theorem dX5_note_21 : decode cX5_note 21 = .ok (.getfield 21, 3) := by decide +kernel
theorem dX5_note_24 : decode cX5_note 24 = .ok (.iconst 1, 1) := by decide +kernel
theorem dX5_note_25 : decode cX5_note 25 = .ok (.iadd, 1) := by decide +kernel
theorem dX5_note_26 : decode cX5_note 26 = .ok (.putfield 21, 3) := by decide +kernel
theorem dX5_note_29 : decode cX5_note 29 = .ok (.return_, 1) := by decide +kernel
theorem dX5_answer_0 : decode cX5_answer 0 = .ok (.iload_n 1, 1) := by decide +kernel
theorem dX5_answer_1 : decode cX5_answer 1 = .ok (.lookupswitch 273 #[(10, 99), (11, 106), (12, 121), (13, 128), (20, 154), (30, 166), (40, 189), (50, 200), (60, 223), (70, 235), (71, 250)], 99) := by decide +kernel
theorem dX5_answer_100 : decode cX5_answer 100 = .ok (.iload_n 3, 1) := by decide +kernel
theorem dX5_answer_101 : decode cX5_answer 101 = .ok (.aload_n 0, 1) := by decide +kernel
theorem dX5_answer_102 : decode cX5_answer 102 = .ok (.getfield 15, 3) := by decide +kernel
theorem dX5_answer_105 : decode cX5_answer 105 = .ok (.iadd, 1) := by decide +kernel
theorem dX5_answer_106 : decode cX5_answer 106 = .ok (.ireturn, 1) := by decide +kernel
theorem dX5_answer_107 : decode cX5_answer 107 = .ok (.aload_n 0, 1) := by decide +kernel
theorem dX5_answer_108 : decode cX5_answer 108 = .ok (.aload_n 0, 1) := by decide +kernel
theorem dX5_answer_109 : decode cX5_answer 109 = .ok (.getfield 9, 3) := by decide +kernel
theorem dX5_answer_112 : decode cX5_answer 112 = .ok (.iconst 0, 1) := by decide +kernel
theorem dX5_answer_113 : decode cX5_answer 113 = .ok (.iload_n 3, 1) := by decide +kernel
theorem dX5_answer_114 : decode cX5_answer 114 = .ok (.iload 4, 2) := by decide +kernel
theorem dX5_answer_116 : decode cX5_answer 116 = .ok (.invokevirtual 28, 3) := by decide +kernel
theorem dX5_answer_119 : decode cX5_answer 119 = .ok (.iconst 2, 1) := by decide +kernel
theorem dX5_answer_120 : decode cX5_answer 120 = .ok (.imul, 1) := by decide +kernel
theorem dX5_answer_121 : decode cX5_answer 121 = .ok (.ireturn, 1) := by decide +kernel
theorem dX5_answer_122 : decode cX5_answer 122 = .ok (.iload_n 3, 1) := by decide +kernel
theorem dX5_answer_123 : decode cX5_answer 123 = .ok (.aload_n 0, 1) := by decide +kernel
theorem dX5_answer_124 : decode cX5_answer 124 = .ok (.getfield 18, 3) := by decide +kernel
theorem dX5_answer_127 : decode cX5_answer 127 = .ok (.isub, 1) := by decide +kernel
theorem dX5_answer_128 : decode cX5_answer 128 = .ok (.ireturn, 1) := by decide +kernel
theorem dX5_answer_129 : decode cX5_answer 129 = .ok (.aload_n 0, 1) := by decide +kernel
theorem dX5_answer_130 : decode cX5_answer 130 = .ok (.aload_n 0, 1) := by decide +kernel
theorem dX5_answer_131 : decode cX5_answer 131 = .ok (.getfield 9, 3) := by decide +kernel
theorem dX5_answer_134 : decode cX5_answer 134 = .ok (.iconst 1, 1) := by decide +kernel
theorem dX5_answer_135 : decode cX5_answer 135 = .ok (.iload_n 3, 1) := by decide +kernel
theorem dX5_answer_136 : decode cX5_answer 136 = .ok (.iload 4, 2) := by decide +kernel
theorem dX5_answer_138 : decode cX5_answer 138 = .ok (.invokevirtual 28, 3) := by decide +kernel
theorem dX5_answer_141 : decode cX5_answer 141 = .ok (.aload_n 0, 1) := by decide +kernel
theorem dX5_answer_142 : decode cX5_answer 142 = .ok (.aload_n 0, 1) := by decide +kernel
theorem dX5_answer_143 : decode cX5_answer 143 = .ok (.getfield 9, 3) := by decide +kernel
theorem dX5_answer_146 : decode cX5_answer 146 = .ok (.iconst 2, 1) := by decide +kernel
theorem dX5_answer_147 : decode cX5_answer 147 = .ok (.iload_n 3, 1) := by decide +kernel
theorem dX5_answer_148 : decode cX5_answer 148 = .ok (.iload 4, 2) := by decide +kernel
theorem dX5_answer_150 : decode cX5_answer 150 = .ok (.invokevirtual 28, 3) := by decide +kernel
theorem dX5_answer_153 : decode cX5_answer 153 = .ok (.ixor, 1) := by decide +kernel
theorem dX5_answer_154 : decode cX5_answer 154 = .ok (.ireturn, 1) := by decide +kernel
theorem dX5_answer_155 : decode cX5_answer 155 = .ok (.aload_n 0, 1) := by decide +kernel
theorem dX5_answer_156 : decode cX5_answer 156 = .ok (.iload_n 2, 1) := by decide +kernel
theorem dX5_answer_157 : decode cX5_answer 157 = .ok (.iconst 0, 1) := by decide +kernel
theorem dX5_answer_158 : decode cX5_answer 158 = .ok (.iload_n 3, 1) := by decide +kernel
theorem dX5_answer_159 : decode cX5_answer 159 = .ok (.iload 4, 2) := by decide +kernel
theorem dX5_answer_161 : decode cX5_answer 161 = .ok (.invokevirtual 28, 3) := by decide +kernel
theorem dX5_answer_164 : decode cX5_answer 164 = .ok (.iconst 3, 1) := by decide +kernel
theorem dX5_answer_165 : decode cX5_answer 165 = .ok (.imul, 1) := by decide +kernel
theorem dX5_answer_166 : decode cX5_answer 166 = .ok (.ireturn, 1) := by decide +kernel
theorem dX5_answer_167 : decode cX5_answer 167 = .ok (.aload_n 0, 1) := by decide +kernel
theorem dX5_answer_168 : decode cX5_answer 168 = .ok (.iload_n 2, 1) := by decide +kernel
theorem dX5_answer_169 : decode cX5_answer 169 = .ok (.iconst 1, 1) := by decide +kernel
theorem dX5_answer_170 : decode cX5_answer 170 = .ok (.iload_n 3, 1) := by decide +kernel
theorem dX5_answer_171 : decode cX5_answer 171 = .ok (.iload 4, 2) := by decide +kernel
theorem dX5_answer_173 : decode cX5_answer 173 = .ok (.invokevirtual 28, 3) := by decide +kernel
theorem dX5_answer_176 : decode cX5_answer 176 = .ok (.aload_n 0, 1) := by decide +kernel
theorem dX5_answer_177 : decode cX5_answer 177 = .ok (.aload_n 0, 1) := by decide +kernel
theorem dX5_answer_178 : decode cX5_answer 178 = .ok (.getfield 9, 3) := by decide +kernel
theorem dX5_answer_181 : decode cX5_answer 181 = .ok (.iconst 2, 1) := by decide +kernel
theorem dX5_answer_182 : decode cX5_answer 182 = .ok (.iconst 1, 1) := by decide +kernel
theorem dX5_answer_183 : decode cX5_answer 183 = .ok (.iload 4, 2) := by decide +kernel
theorem dX5_answer_185 : decode cX5_answer 185 = .ok (.invokevirtual 28, 3) := by decide +kernel
theorem dX5_answer_188 : decode cX5_answer 188 = .ok (.isub, 1) := by decide +kernel
theorem dX5_answer_189 : decode cX5_answer 189 = .ok (.ireturn, 1) := by decide +kernel
theorem dX5_answer_190 : decode cX5_answer 190 = .ok (.aload_n 0, 1) := by decide +kernel
theorem dX5_answer_191 : decode cX5_answer 191 = .ok (.iload_n 2, 1) := by decide +kernel
theorem dX5_answer_192 : decode cX5_answer 192 = .ok (.iconst 2, 1) := by decide +kernel
theorem dX5_answer_193 : decode cX5_answer 193 = .ok (.iload_n 3, 1) := by decide +kernel
theorem dX5_answer_194 : decode cX5_answer 194 = .ok (.iload 4, 2) := by decide +kernel
theorem dX5_answer_196 : decode cX5_answer 196 = .ok (.invokevirtual 28, 3) := by decide +kernel
theorem dX5_answer_199 : decode cX5_answer 199 = .ok (.ineg, 1) := by decide +kernel
theorem dX5_answer_200 : decode cX5_answer 200 = .ok (.ireturn, 1) := by decide +kernel
theorem dX5_answer_201 : decode cX5_answer 201 = .ok (.aload_n 0, 1) := by decide +kernel
theorem dX5_answer_202 : decode cX5_answer 202 = .ok (.iload_n 2, 1) := by decide +kernel
theorem dX5_answer_203 : decode cX5_answer 203 = .ok (.iconst 3, 1) := by decide +kernel
theorem dX5_answer_204 : decode cX5_answer 204 = .ok (.iload_n 3, 1) := by decide +kernel
theorem dX5_answer_205 : decode cX5_answer 205 = .ok (.iload 4, 2) := by decide +kernel
theorem dX5_answer_207 : decode cX5_answer 207 = .ok (.invokevirtual 28, 3) := by decide +kernel
theorem dX5_answer_210 : decode cX5_answer 210 = .ok (.aload_n 0, 1) := by decide +kernel
theorem dX5_answer_211 : decode cX5_answer 211 = .ok (.aload_n 0, 1) := by decide +kernel
theorem dX5_answer_212 : decode cX5_answer 212 = .ok (.getfield 9, 3) := by decide +kernel
theorem dX5_answer_215 : decode cX5_answer 215 = .ok (.iconst 0, 1) := by decide +kernel
theorem dX5_answer_216 : decode cX5_answer 216 = .ok (.iconst 2, 1) := by decide +kernel
theorem dX5_answer_217 : decode cX5_answer 217 = .ok (.iload 4, 2) := by decide +kernel
theorem dX5_answer_219 : decode cX5_answer 219 = .ok (.invokevirtual 28, 3) := by decide +kernel
theorem dX5_answer_222 : decode cX5_answer 222 = .ok (.isub, 1) := by decide +kernel
theorem dX5_answer_223 : decode cX5_answer 223 = .ok (.ireturn, 1) := by decide +kernel
theorem dX5_answer_224 : decode cX5_answer 224 = .ok (.aload_n 0, 1) := by decide +kernel
theorem dX5_answer_225 : decode cX5_answer 225 = .ok (.iload_n 2, 1) := by decide +kernel
theorem dX5_answer_226 : decode cX5_answer 226 = .ok (.iconst 1, 1) := by decide +kernel
theorem dX5_answer_227 : decode cX5_answer 227 = .ok (.iload_n 3, 1) := by decide +kernel
theorem dX5_answer_228 : decode cX5_answer 228 = .ok (.iconst 1, 1) := by decide +kernel
theorem dX5_answer_229 : decode cX5_answer 229 = .ok (.iadd, 1) := by decide +kernel
theorem dX5_answer_230 : decode cX5_answer 230 = .ok (.iload 4, 2) := by decide +kernel
theorem dX5_answer_232 : decode cX5_answer 232 = .ok (.invokevirtual 28, 3) := by decide +kernel
theorem dX5_answer_235 : decode cX5_answer 235 = .ok (.ireturn, 1) := by decide +kernel
theorem dX5_answer_236 : decode cX5_answer 236 = .ok (.aload_n 0, 1) := by decide +kernel
theorem dX5_answer_237 : decode cX5_answer 237 = .ok (.iload_n 2, 1) := by decide +kernel
theorem dX5_answer_238 : decode cX5_answer 238 = .ok (.iconst 2, 1) := by decide +kernel
theorem dX5_answer_239 : decode cX5_answer 239 = .ok (.iload_n 3, 1) := by decide +kernel
theorem dX5_answer_240 : decode cX5_answer 240 = .ok (.iload 4, 2) := by decide +kernel
theorem dX5_answer_242 : decode cX5_answer 242 = .ok (.invokevirtual 28, 3) := by decide +kernel
theorem dX5_answer_245 : decode cX5_answer 245 = .ok (.aload_n 0, 1) := by decide +kernel
theorem dX5_answer_246 : decode cX5_answer 246 = .ok (.getfield 15, 3) := by decide +kernel
theorem dX5_answer_249 : decode cX5_answer 249 = .ok (.ixor, 1) := by decide +kernel
theorem dX5_answer_250 : decode cX5_answer 250 = .ok (.ireturn, 1) := by decide +kernel
theorem dX5_answer_251 : decode cX5_answer 251 = .ok (.aload_n 0, 1) := by decide +kernel
theorem dX5_answer_252 : decode cX5_answer 252 = .ok (.aload_n 0, 1) := by decide +kernel
theorem dX5_answer_253 : decode cX5_answer 253 = .ok (.getfield 9, 3) := by decide +kernel
theorem dX5_answer_256 : decode cX5_answer 256 = .ok (.iconst 1, 1) := by decide +kernel
theorem dX5_answer_257 : decode cX5_answer 257 = .ok (.iload_n 3, 1) := by decide +kernel
theorem dX5_answer_258 : decode cX5_answer 258 = .ok (.iload 4, 2) := by decide +kernel
theorem dX5_answer_260 : decode cX5_answer 260 = .ok (.invokevirtual 28, 3) := by decide +kernel
theorem dX5_answer_263 : decode cX5_answer 263 = .ok (.aload_n 0, 1) := by decide +kernel
theorem dX5_answer_264 : decode cX5_answer 264 = .ok (.iload_n 2, 1) := by decide +kernel
theorem dX5_answer_265 : decode cX5_answer 265 = .ok (.iconst 3, 1) := by decide +kernel
theorem dX5_answer_266 : decode cX5_answer 266 = .ok (.iload_n 3, 1) := by decide +kernel
theorem dX5_answer_267 : decode cX5_answer 267 = .ok (.iload 4, 2) := by decide +kernel
theorem dX5_answer_269 : decode cX5_answer 269 = .ok (.invokevirtual 28, 3) := by decide +kernel
theorem dX5_answer_272 : decode cX5_answer 272 = .ok (.isub, 1) := by decide +kernel
theorem dX5_answer_273 : decode cX5_answer 273 = .ok (.ireturn, 1) := by decide +kernel
theorem dX5_answer_274 : decode cX5_answer 274 = .ok (.iconst 0, 1) := by decide +kernel
theorem dX5_answer_275 : decode cX5_answer 275 = .ok (.ireturn, 1) := by decide +kernel
theorem dX6_init_0 : decode cX6_init 0 = .ok (.aload_n 0, 1) := by decide +kernel
theorem dX6_init_1 : decode cX6_init 1 = .ok (.invokespecial 1, 3) := by decide +kernel
theorem dX6_init_4 : decode cX6_init 4 = .ok (.aload_n 0, 1) := by decide +kernel
theorem dX6_init_5 : decode cX6_init 5 = .ok (.new 7, 3) := by decide +kernel
theorem dX6_init_8 : decode cX6_init 8 = .ok (.dup, 1) := by decide +kernel
theorem dX6_init_9 : decode cX6_init 9 = .ok (.invokespecial 9, 3) := by decide +kernel
theorem dX6_init_12 : decode cX6_init 12 = .ok (.putfield 10, 3) := by decide +kernel
theorem dX6_init_15 : decode cX6_init 15 = .ok (.aload_n 0, 1) := by decide +kernel
theorem dX6_init_16 : decode cX6_init 16 = .ok (.new 7, 3) := by decide +kernel
theorem dX6_init_19 : decode cX6_init 19 = .ok (.dup, 1) := by decide +kernel
theorem dX6_init_20 : decode cX6_init 20 = .ok (.invokespecial 9, 3) := by decide +kernel
theorem dX6_init_23 : decode cX6_init 23 = .ok (.putfield 16, 3) := by decide +kernel
theorem dX6_init_26 : decode cX6_init 26 = .ok (.aload_n 0, 1) := by decide +kernel
theorem dX6_init_27 : decode cX6_init 27 = .ok (.iconst 0, 1) := by decide +kernel
theorem dX6_init_28 : decode cX6_init 28 = .ok (.putfield 19, 3) := by decide +kernel
theorem dX6_init_31 : decode cX6_init 31 = .ok (.aload_n 0, 1) := by decide +kernel
theorem dX6_init_32 : decode cX6_init 32 = .ok (.new 23, 3) := by decide +kernel
theorem dX6_init_35 : decode cX6_init 35 = .ok (.dup, 1) := by decide +kernel
theorem dX6_init_36 : decode cX6_init 36 = .ok (.invokespecial 25, 3) := by decide +kernel
theorem dX6_init_39 : decode cX6_init 39 = .ok (.putfield 26, 3) := by decide +kernel
theorem dX6_init_42 : decode cX6_init 42 = .ok (.aload_n 0, 1) := by decide +kernel
theorem dX6_init_43 : decode cX6_init 43 = .ok (.new 23, 3) := by decide +kernel
theorem dX6_init_46 : decode cX6_init 46 = .ok (.dup, 1) := by decide +kernel
theorem dX6_init_47 : decode cX6_init 47 = .ok (.invokespecial 25, 3) := by decide +kernel
theorem dX6_init_50 : decode cX6_init 50 = .ok (.putfield 30, 3) := by decide +kernel
theorem dX6_init_53 : decode cX6_init 53 = .ok (.aload_n 0, 1) := by decide +kernel
theorem dX6_init_54 : decode cX6_init 54 = .ok (.new 33, 3) := by decide +kernel
theorem dX6_init_57 : decode cX6_init 57 = .ok (.dup, 1) := by decide +kernel
theorem dX6_init_58 : decode cX6_init 58 = .ok (.invokespecial 35, 3) := by decide +kernel
theorem dX6_init_61 : decode cX6_init 61 = .ok (.putfield 36, 3) := by decide +kernel
theorem dX6_init_64 : decode cX6_init 64 = .ok (.aload_n 0, 1) := by decide +kernel
theorem dX6_init_65 : decode cX6_init 65 = .ok (.new 40, 3) := by decide +kernel
theorem dX6_init_68 : decode cX6_init 68 = .ok (.dup, 1) := by decide +kernel
theorem dX6_init_69 : decode cX6_init 69 = .ok (.invokespecial 42, 3) := by decide +kernel
theorem dX6_init_72 : decode cX6_init 72 = .ok (.putfield 43, 3) := by decide +kernel
theorem dX6_init_75 : decode cX6_init 75 = .ok (.aload_n 0, 1) := by decide +kernel
theorem dX6_init_76 : decode cX6_init 76 = .ok (.iconst 4, 1) := by decide +kernel
theorem dX6_init_77 : decode cX6_init 77 = .ok (.anewarray 47, 3) := by decide +kernel
theorem dX6_init_80 : decode cX6_init 80 = .ok (.dup, 1) := by decide +kernel
theorem dX6_init_81 : decode cX6_init 81 = .ok (.iconst 0, 1) := by decide +kernel
theorem dX6_init_82 : decode cX6_init 82 = .ok (.new 47, 3) := by decide +kernel
theorem dX6_init_85 : decode cX6_init 85 = .ok (.dup, 1) := by decide +kernel
theorem dX6_init_86 : decode cX6_init 86 = .ok (.invokespecial 49, 3) := by decide +kernel
theorem dX6_init_89 : decode cX6_init 89 = .ok (.aastore, 1) := by decide +kernel
theorem dX6_init_90 : decode cX6_init 90 = .ok (.dup, 1) := by decide +kernel
theorem dX6_init_91 : decode cX6_init 91 = .ok (.iconst 1, 1) := by decide +kernel
theorem dX6_init_92 : decode cX6_init 92 = .ok (.new 47, 3) := by decide +kernel
theorem dX6_init_95 : decode cX6_init 95 = .ok (.dup, 1) := by decide +kernel
theorem dX6_init_96 : decode cX6_init 96 = .ok (.invokespecial 49, 3) := by decide +kernel
theorem dX6_init_99 : decode cX6_init 99 = .ok (.aastore, 1) := by decide +kernel
theorem dX6_init_100 : decode cX6_init 100 = .ok (.dup, 1) := by decide +kernel
theorem dX6_init_101 : decode cX6_init 101 = .ok (.iconst 2, 1) := by decide +kernel
theorem dX6_init_102 : decode cX6_init 102 = .ok (.new 47, 3) := by decide +kernel
theorem dX6_init_105 : decode cX6_init 105 = .ok (.dup, 1) := by decide +kernel
theorem dX6_init_106 : decode cX6_init 106 = .ok (.invokespecial 49, 3) := by decide +kernel
theorem dX6_init_109 : decode cX6_init 109 = .ok (.aastore, 1) := by decide +kernel
theorem dX6_init_110 : decode cX6_init 110 = .ok (.dup, 1) := by decide +kernel
theorem dX6_init_111 : decode cX6_init 111 = .ok (.iconst 3, 1) := by decide +kernel
theorem dX6_init_112 : decode cX6_init 112 = .ok (.new 47, 3) := by decide +kernel
theorem dX6_init_115 : decode cX6_init 115 = .ok (.dup, 1) := by decide +kernel
theorem dX6_init_116 : decode cX6_init 116 = .ok (.invokespecial 49, 3) := by decide +kernel
theorem dX6_init_119 : decode cX6_init 119 = .ok (.aastore, 1) := by decide +kernel
theorem dX6_init_120 : decode cX6_init 120 = .ok (.putfield 50, 3) := by decide +kernel
theorem dX6_init_123 : decode cX6_init 123 = .ok (.aload_n 0, 1) := by decide +kernel
theorem dX6_init_124 : decode cX6_init 124 = .ok (.bipush 6, 2) := by decide +kernel
theorem dX6_init_126 : decode cX6_init 126 = .ok (.newarray .int, 2) := by decide +kernel
theorem dX6_init_128 : decode cX6_init 128 = .ok (.putfield 54, 3) := by decide +kernel
theorem dX6_init_131 : decode cX6_init 131 = .ok (.return_, 1) := by decide +kernel
theorem dX6_guest_0 : decode cX6_guest 0 = .ok (.iload_n 1, 1) := by decide +kernel
theorem dX6_guest_1 : decode cX6_guest 1 = .ok (.invokestatic 58, 3) := by decide +kernel
theorem dX6_guest_4 : decode cX6_guest 4 = .ok (.ifCond .eq 14, 3) := by decide +kernel
theorem dX6_guest_7 : decode cX6_guest 7 = .ok (.iload_n 2, 1) := by decide +kernel
theorem dX6_guest_8 : decode cX6_guest 8 = .ok (.iconst 0, 1) := by decide +kernel
theorem dX6_guest_9 : decode cX6_guest 9 = .ok (.sipush 999, 3) := by decide +kernel
theorem dX6_guest_12 : decode cX6_guest 12 = .ok (.invokestatic 62, 3) := by decide +kernel
theorem dX6_guest_15 : decode cX6_guest 15 = .ok (.ifCond .ne 9, 3) := by decide +kernel
theorem dX6_guest_18 : decode cX6_guest 18 = .ok (.aload_n 0, 1) := by decide +kernel
theorem dX6_guest_19 : decode cX6_guest 19 = .ok (.iconst 1, 1) := by decide +kernel
theorem dX6_guest_20 : decode cX6_guest 20 = .ok (.invokevirtual 66, 3) := by decide +kernel
theorem dX6_guest_23 : decode cX6_guest 23 = .ok (.ireturn, 1) := by decide +kernel
theorem dX6_guest_24 : decode cX6_guest 24 = .ok (.aload_n 0, 1) := by decide +kernel
theorem dX6_guest_25 : decode cX6_guest 25 = .ok (.getfield 10, 3) := by decide +kernel
theorem dX6_guest_28 : decode cX6_guest 28 = .ok (.getfield 70, 3) := by decide +kernel
theorem dX6_guest_31 : decode cX6_guest 31 = .ok (.getfield 73, 3) := by decide +kernel
theorem dX6_guest_34 : decode cX6_guest 34 = .ok (.bipush 7, 2) := by decide +kernel
theorem dX6_guest_36 : decode cX6_guest 36 = .ok (.if_icmp .lt 9, 3) := by decide +kernel
theorem dX6_guest_39 : decode cX6_guest 39 = .ok (.aload_n 0, 1) := by decide +kernel
theorem dX6_guest_40 : decode cX6_guest 40 = .ok (.iconst 4, 1) := by decide +kernel
theorem dX6_guest_41 : decode cX6_guest 41 = .ok (.invokevirtual 66, 3) := by decide +kernel
theorem dX6_guest_44 : decode cX6_guest 44 = .ok (.ireturn, 1) := by decide +kernel
theorem dX6_guest_45 : decode cX6_guest 45 = .ok (.aload_n 0, 1) := by decide +kernel
theorem dX6_guest_46 : decode cX6_guest 46 = .ok (.getfield 10, 3) := by decide +kernel
theorem dX6_guest_49 : decode cX6_guest 49 = .ok (.getfield 70, 3) := by decide +kernel
theorem dX6_guest_52 : decode cX6_guest 52 = .ok (.iload_n 1, 1) := by decide +kernel
theorem dX6_guest_53 : decode cX6_guest 53 = .ok (.iload_n 2, 1) := by decide +kernel
theorem dX6_guest_54 : decode cX6_guest 54 = .ok (.invokevirtual 76, 3) := by decide +kernel
theorem dX6_guest_57 : decode cX6_guest 57 = .ok (.ireturn, 1) := by decide +kernel
theorem dX6_ofGuest_0 : decode cX6_ofGuest 0 = .ok (.aload_n 0, 1) := by decide +kernel
theorem dX6_ofGuest_1 : decode cX6_ofGuest 1 = .ok (.iload_n 1, 1) := by decide +kernel
theorem dX6_ofGuest_2 : decode cX6_ofGuest 2 = .ok (.invokevirtual 80, 3) := by decide +kernel
theorem dX6_ofGuest_5 : decode cX6_ofGuest 5 = .ok (.ifCond .ne 9, 3) := by decide +kernel
theorem dX6_ofGuest_8 : decode cX6_ofGuest 8 = .ok (.aload_n 0, 1) := by decide +kernel
theorem dX6_ofGuest_9 : decode cX6_ofGuest 9 = .ok (.iconst 1, 1) := by decide +kernel
theorem dX6_ofGuest_10 : decode cX6_ofGuest 10 = .ok (.invokevirtual 66, 3) := by decide +kernel
theorem dX6_ofGuest_13 : decode cX6_ofGuest 13 = .ok (.ireturn, 1) := by decide +kernel
theorem dX6_ofGuest_14 : decode cX6_ofGuest 14 = .ok (.aload_n 0, 1) := by decide +kernel
theorem dX6_ofGuest_15 : decode cX6_ofGuest 15 = .ok (.getfield 10, 3) := by decide +kernel
theorem dX6_ofGuest_18 : decode cX6_ofGuest 18 = .ok (.getfield 70, 3) := by decide +kernel
theorem dX6_ofGuest_21 : decode cX6_ofGuest 21 = .ok (.astore_n 3, 1) := by decide +kernel
theorem dX6_ofGuest_22 : decode cX6_ofGuest 22 = .ok (.iload_n 2, 1) := by decide +kernel
theorem dX6_ofGuest_23 : decode cX6_ofGuest 23 = .ok (.tableswitch 92 0 6 #[41, 48, 55, 62, 69, 76, 82], 41) := by decide +kernel
theorem dX6_ofGuest_64 : decode cX6_ofGuest 64 = .ok (.aload_n 3, 1) := by decide +kernel
theorem dX6_ofGuest_65 : decode cX6_ofGuest 65 = .ok (.getfield 83, 3) := by decide +kernel
theorem dX6_ofGuest_68 : decode cX6_ofGuest 68 = .ok (.iload_n 1, 1) := by decide +kernel
theorem dX6_ofGuest_69 : decode cX6_ofGuest 69 = .ok (.iaload, 1) := by decide +kernel
theorem dX6_ofGuest_70 : decode cX6_ofGuest 70 = .ok (.ireturn, 1) := by decide +kernel
theorem dX6_ofGuest_71 : decode cX6_ofGuest 71 = .ok (.aload_n 3, 1) := by decide +kernel
theorem dX6_ofGuest_72 : decode cX6_ofGuest 72 = .ok (.getfield 86, 3) := by decide +kernel
theorem dX6_ofGuest_75 : decode cX6_ofGuest 75 = .ok (.iload_n 1, 1) := by decide +kernel
theorem dX6_ofGuest_76 : decode cX6_ofGuest 76 = .ok (.iaload, 1) := by decide +kernel
theorem dX6_ofGuest_77 : decode cX6_ofGuest 77 = .ok (.ireturn, 1) := by decide +kernel
theorem dX6_ofGuest_78 : decode cX6_ofGuest 78 = .ok (.aload_n 3, 1) := by decide +kernel
theorem dX6_ofGuest_79 : decode cX6_ofGuest 79 = .ok (.getfield 89, 3) := by decide +kernel
theorem dX6_ofGuest_82 : decode cX6_ofGuest 82 = .ok (.iload_n 1, 1) := by decide +kernel
theorem dX6_ofGuest_83 : decode cX6_ofGuest 83 = .ok (.iaload, 1) := by decide +kernel
theorem dX6_ofGuest_84 : decode cX6_ofGuest 84 = .ok (.ireturn, 1) := by decide +kernel
theorem dX6_ofGuest_85 : decode cX6_ofGuest 85 = .ok (.aload_n 3, 1) := by decide +kernel
theorem dX6_ofGuest_86 : decode cX6_ofGuest 86 = .ok (.getfield 92, 3) := by decide +kernel
theorem dX6_ofGuest_89 : decode cX6_ofGuest 89 = .ok (.iload_n 1, 1) := by decide +kernel
theorem dX6_ofGuest_90 : decode cX6_ofGuest 90 = .ok (.iaload, 1) := by decide +kernel
theorem dX6_ofGuest_91 : decode cX6_ofGuest 91 = .ok (.ireturn, 1) := by decide +kernel
theorem dX6_ofGuest_92 : decode cX6_ofGuest 92 = .ok (.aload_n 3, 1) := by decide +kernel
theorem dX6_ofGuest_93 : decode cX6_ofGuest 93 = .ok (.getfield 95, 3) := by decide +kernel
theorem dX6_ofGuest_96 : decode cX6_ofGuest 96 = .ok (.iload_n 1, 1) := by decide +kernel
theorem dX6_ofGuest_97 : decode cX6_ofGuest 97 = .ok (.iaload, 1) := by decide +kernel
theorem dX6_ofGuest_98 : decode cX6_ofGuest 98 = .ok (.ireturn, 1) := by decide +kernel
theorem dX6_ofGuest_99 : decode cX6_ofGuest 99 = .ok (.aload_n 3, 1) := by decide +kernel
theorem dX6_ofGuest_100 : decode cX6_ofGuest 100 = .ok (.iload_n 1, 1) := by decide +kernel
theorem dX6_ofGuest_101 : decode cX6_ofGuest 101 = .ok (.invokevirtual 98, 3) := by decide +kernel
theorem dX6_ofGuest_104 : decode cX6_ofGuest 104 = .ok (.ireturn, 1) := by decide +kernel
theorem dX6_ofGuest_105 : decode cX6_ofGuest 105 = .ok (.aload_n 3, 1) := by decide +kernel
theorem dX6_ofGuest_106 : decode cX6_ofGuest 106 = .ok (.aload_n 3, 1) := by decide +kernel
theorem dX6_ofGuest_107 : decode cX6_ofGuest 107 = .ok (.iload_n 1, 1) := by decide +kernel
theorem dX6_ofGuest_108 : decode cX6_ofGuest 108 = .ok (.invokevirtual 98, 3) := by decide +kernel
theorem dX6_ofGuest_111 : decode cX6_ofGuest 111 = .ok (.invokevirtual 101, 3) := by decide +kernel
theorem dX6_ofGuest_114 : decode cX6_ofGuest 114 = .ok (.ireturn, 1) := by decide +kernel
theorem dX6_ofGuest_115 : decode cX6_ofGuest 115 = .ok (.aload_n 0, 1) := by decide +kernel
theorem dX6_ofGuest_116 : decode cX6_ofGuest 116 = .ok (.iconst 1, 1) := by decide +kernel
theorem dX6_ofGuest_117 : decode cX6_ofGuest 117 = .ok (.invokevirtual 66, 3) := by decide +kernel
theorem dX6_ofGuest_120 : decode cX6_ofGuest 120 = .ok (.ireturn, 1) := by decide +kernel
theorem dX6_change_0 : decode cX6_change 0 = .ok (.aload_n 0, 1) := by decide +kernel
theorem dX6_change_1 : decode cX6_change 1 = .ok (.iload_n 1, 1) := by decide +kernel
theorem dX6_change_2 : decode cX6_change 2 = .ok (.invokevirtual 80, 3) := by decide +kernel
theorem dX6_change_5 : decode cX6_change 5 = .ok (.ifCond .ne 9, 3) := by decide +kernel
theorem dX6_change_8 : decode cX6_change 8 = .ok (.aload_n 0, 1) := by decide +kernel
theorem dX6_change_9 : decode cX6_change 9 = .ok (.iconst 1, 1) := by decide +kernel
theorem dX6_change_10 : decode cX6_change 10 = .ok (.invokevirtual 66, 3) := by decide +kernel
theorem dX6_change_13 : decode cX6_change 13 = .ok (.ireturn, 1) := by decide +kernel
theorem dX6_change_14 : decode cX6_change 14 = .ok (.iload_n 2, 1) := by decide +kernel
theorem dX6_change_15 : decode cX6_change 15 = .ok (.tableswitch 83 0 2 #[25, 45, 65], 25) := by decide +kernel
theorem dX6_change_40 : decode cX6_change 40 = .ok (.aload_n 0, 1) := by decide +kernel
theorem dX6_change_41 : decode cX6_change 41 = .ok (.aload_n 0, 1) := by decide +kernel
theorem dX6_change_42 : decode cX6_change 42 = .ok (.getfield 10, 3) := by decide +kernel
theorem dX6_change_45 : decode cX6_change 45 = .ok (.getfield 70, 3) := by decide +kernel
theorem dX6_change_48 : decode cX6_change 48 = .ok (.getfield 89, 3) := by decide +kernel
theorem dX6_change_51 : decode cX6_change 51 = .ok (.iload_n 1, 1) := by decide +kernel
theorem dX6_change_52 : decode cX6_change 52 = .ok (.iload_n 3, 1) := by decide +kernel
theorem dX6_change_53 : decode cX6_change 53 = .ok (.sipush 999, 3) := by decide +kernel
theorem dX6_change_56 : decode cX6_change 56 = .ok (.invokevirtual 104, 3) := by decide +kernel
theorem dX6_change_59 : decode cX6_change 59 = .ok (.ireturn, 1) := by decide +kernel
theorem dX6_change_60 : decode cX6_change 60 = .ok (.aload_n 0, 1) := by decide +kernel
theorem dX6_change_61 : decode cX6_change 61 = .ok (.aload_n 0, 1) := by decide +kernel
theorem dX6_change_62 : decode cX6_change 62 = .ok (.getfield 10, 3) := by decide +kernel
theorem dX6_change_65 : decode cX6_change 65 = .ok (.getfield 70, 3) := by decide +kernel
theorem dX6_change_68 : decode cX6_change 68 = .ok (.getfield 92, 3) := by decide +kernel
theorem dX6_change_71 : decode cX6_change 71 = .ok (.iload_n 1, 1) := by decide +kernel
theorem dX6_change_72 : decode cX6_change 72 = .ok (.iload_n 3, 1) := by decide +kernel
theorem dX6_change_73 : decode cX6_change 73 = .ok (.sipush 999, 3) := by decide +kernel
theorem dX6_change_76 : decode cX6_change 76 = .ok (.invokevirtual 104, 3) := by decide +kernel
theorem dX6_change_79 : decode cX6_change 79 = .ok (.ireturn, 1) := by decide +kernel
theorem dX6_change_80 : decode cX6_change 80 = .ok (.aload_n 0, 1) := by decide +kernel
theorem dX6_change_81 : decode cX6_change 81 = .ok (.aload_n 0, 1) := by decide +kernel
theorem dX6_change_82 : decode cX6_change 82 = .ok (.getfield 10, 3) := by decide +kernel
theorem dX6_change_85 : decode cX6_change 85 = .ok (.getfield 70, 3) := by decide +kernel
theorem dX6_change_88 : decode cX6_change 88 = .ok (.getfield 95, 3) := by decide +kernel
theorem dX6_change_91 : decode cX6_change 91 = .ok (.iload_n 1, 1) := by decide +kernel
theorem dX6_change_92 : decode cX6_change 92 = .ok (.iload_n 3, 1) := by decide +kernel
theorem dX6_change_93 : decode cX6_change 93 = .ok (.iconst 1, 1) := by decide +kernel
theorem dX6_change_94 : decode cX6_change 94 = .ok (.invokevirtual 104, 3) := by decide +kernel
theorem dX6_change_97 : decode cX6_change 97 = .ok (.ireturn, 1) := by decide +kernel
theorem dX6_change_98 : decode cX6_change 98 = .ok (.aload_n 0, 1) := by decide +kernel
theorem dX6_change_99 : decode cX6_change 99 = .ok (.iconst 1, 1) := by decide +kernel
theorem dX6_change_100 : decode cX6_change 100 = .ok (.invokevirtual 66, 3) := by decide +kernel
theorem dX6_change_103 : decode cX6_change 103 = .ok (.ireturn, 1) := by decide +kernel
theorem dX6_peg_0 : decode cX6_peg 0 = .ok (.aload_n 0, 1) := by decide +kernel
theorem dX6_peg_1 : decode cX6_peg 1 = .ok (.iload_n 1, 1) := by decide +kernel
theorem dX6_peg_2 : decode cX6_peg 2 = .ok (.invokevirtual 108, 3) := by decide +kernel
theorem dX6_peg_5 : decode cX6_peg 5 = .ok (.ifCond .eq 18, 3) := by decide +kernel
theorem dX6_peg_8 : decode cX6_peg 8 = .ok (.aload_n 0, 1) := by decide +kernel
theorem dX6_peg_9 : decode cX6_peg 9 = .ok (.getfield 10, 3) := by decide +kernel
theorem dX6_peg_12 : decode cX6_peg 12 = .ok (.getfield 70, 3) := by decide +kernel
theorem dX6_peg_15 : decode cX6_peg 15 = .ok (.getfield 111, 3) := by decide +kernel
theorem dX6_peg_18 : decode cX6_peg 18 = .ok (.iload_n 1, 1) := by decide +kernel
theorem dX6_peg_19 : decode cX6_peg 19 = .ok (.iaload, 1) := by decide +kernel
theorem dX6_peg_20 : decode cX6_peg 20 = .ok (.goto 8, 3) := by decide +kernel
theorem dX6_peg_23 : decode cX6_peg 23 = .ok (.aload_n 0, 1) := by decide +kernel
theorem dX6_peg_24 : decode cX6_peg 24 = .ok (.iconst 1, 1) := by decide +kernel
theorem dX6_peg_25 : decode cX6_peg 25 = .ok (.invokevirtual 66, 3) := by decide +kernel
theorem dX6_peg_28 : decode cX6_peg 28 = .ok (.ireturn, 1) := by decide +kernel
theorem dX6_hang_0 : decode cX6_hang 0 = .ok (.aload_n 0, 1) := by decide +kernel
theorem dX6_hang_1 : decode cX6_hang 1 = .ok (.iload_n 1, 1) := by decide +kernel
theorem dX6_hang_2 : decode cX6_hang 2 = .ok (.invokevirtual 108, 3) := by decide +kernel
theorem dX6_hang_5 : decode cX6_hang 5 = .ok (.ifCond .eq 11, 3) := by decide +kernel
theorem dX6_hang_8 : decode cX6_hang 8 = .ok (.aload_n 0, 1) := by decide +kernel
theorem dX6_hang_9 : decode cX6_hang 9 = .ok (.iload_n 2, 1) := by decide +kernel
theorem dX6_hang_10 : decode cX6_hang 10 = .ok (.invokevirtual 108, 3) := by decide +kernel
theorem dX6_hang_13 : decode cX6_hang 13 = .ok (.ifCond .ne 9, 3) := by decide +kernel
theorem dX6_hang_16 : decode cX6_hang 16 = .ok (.aload_n 0, 1) := by decide +kernel
theorem dX6_hang_17 : decode cX6_hang 17 = .ok (.iconst 1, 1) := by decide +kernel
theorem dX6_hang_18 : decode cX6_hang 18 = .ok (.invokevirtual 66, 3) := by decide +kernel
theorem dX6_hang_21 : decode cX6_hang 21 = .ok (.ireturn, 1) := by decide +kernel
theorem dX6_hang_22 : decode cX6_hang 22 = .ok (.aload_n 0, 1) := by decide +kernel
theorem dX6_hang_23 : decode cX6_hang 23 = .ok (.getfield 10, 3) := by decide +kernel
theorem dX6_hang_26 : decode cX6_hang 26 = .ok (.getfield 70, 3) := by decide +kernel
theorem dX6_hang_29 : decode cX6_hang 29 = .ok (.iload_n 1, 1) := by decide +kernel
theorem dX6_hang_30 : decode cX6_hang 30 = .ok (.iload_n 2, 1) := by decide +kernel
theorem dX6_hang_31 : decode cX6_hang 31 = .ok (.invokevirtual 114, 3) := by decide +kernel
theorem dX6_hang_34 : decode cX6_hang 34 = .ok (.aload_n 0, 1) := by decide +kernel
theorem dX6_hang_35 : decode cX6_hang 35 = .ok (.getfield 10, 3) := by decide +kernel
theorem dX6_hang_38 : decode cX6_hang 38 = .ok (.getfield 70, 3) := by decide +kernel
theorem dX6_hang_41 : decode cX6_hang 41 = .ok (.getfield 111, 3) := by decide +kernel
theorem dX6_hang_44 : decode cX6_hang 44 = .ok (.iload_n 1, 1) := by decide +kernel
theorem dX6_hang_45 : decode cX6_hang 45 = .ok (.iaload, 1) := by decide +kernel
theorem dX6_hang_46 : decode cX6_hang 46 = .ok (.ireturn, 1) := by decide +kernel
theorem dX6_become_0 : decode cX6_become 0 = .ok (.aload_n 0, 1) := by decide +kernel
theorem dX6_become_1 : decode cX6_become 1 = .ok (.iload_n 1, 1) := by decide +kernel
theorem dX6_become_2 : decode cX6_become 2 = .ok (.invokevirtual 80, 3) := by decide +kernel
theorem dX6_become_5 : decode cX6_become 5 = .ok (.ifCond .eq 10, 3) := by decide +kernel
theorem dX6_become_8 : decode cX6_become 8 = .ok (.iload_n 2, 1) := by decide +kernel
theorem dX6_become_9 : decode cX6_become 9 = .ok (.invokestatic 58, 3) := by decide +kernel
theorem dX6_become_12 : decode cX6_become 12 = .ok (.ifCond .ne 9, 3) := by decide +kernel
theorem dX6_become_15 : decode cX6_become 15 = .ok (.aload_n 0, 1) := by decide +kernel
theorem dX6_become_16 : decode cX6_become 16 = .ok (.iconst 1, 1) := by decide +kernel
theorem dX6_become_17 : decode cX6_become 17 = .ok (.invokevirtual 66, 3) := by decide +kernel
theorem dX6_become_20 : decode cX6_become 20 = .ok (.ireturn, 1) := by decide +kernel
theorem dX6_become_21 : decode cX6_become 21 = .ok (.aload_n 0, 1) := by decide +kernel
theorem dX6_become_22 : decode cX6_become 22 = .ok (.getfield 10, 3) := by decide +kernel
theorem dX6_become_25 : decode cX6_become 25 = .ok (.getfield 70, 3) := by decide +kernel
theorem dX6_become_28 : decode cX6_become 28 = .ok (.getfield 83, 3) := by decide +kernel
theorem dX6_become_31 : decode cX6_become 31 = .ok (.iload_n 1, 1) := by decide +kernel
theorem dX6_become_32 : decode cX6_become 32 = .ok (.iaload, 1) := by decide +kernel
theorem dX6_become_33 : decode cX6_become 33 = .ok (.istore_n 3, 1) := by decide +kernel
theorem dX6_become_34 : decode cX6_become 34 = .ok (.aload_n 0, 1) := by decide +kernel
theorem dX6_become_35 : decode cX6_become 35 = .ok (.getfield 10, 3) := by decide +kernel
theorem dX6_become_38 : decode cX6_become 38 = .ok (.getfield 70, 3) := by decide +kernel
theorem dX6_become_41 : decode cX6_become 41 = .ok (.getfield 83, 3) := by decide +kernel
theorem dX6_become_44 : decode cX6_become 44 = .ok (.iload_n 1, 1) := by decide +kernel
theorem dX6_become_45 : decode cX6_become 45 = .ok (.iload_n 2, 1) := by decide +kernel
theorem dX6_become_46 : decode cX6_become 46 = .ok (.bipush 10, 2) := by decide +kernel
theorem dX6_become_48 : decode cX6_become 48 = .ok (.idiv, 1) := by decide +kernel
theorem dX6_become_49 : decode cX6_become 49 = .ok (.iastore, 1) := by decide +kernel
theorem dX6_become_50 : decode cX6_become 50 = .ok (.aload_n 0, 1) := by decide +kernel
theorem dX6_become_51 : decode cX6_become 51 = .ok (.getfield 10, 3) := by decide +kernel
theorem dX6_become_54 : decode cX6_become 54 = .ok (.getfield 70, 3) := by decide +kernel
theorem dX6_become_57 : decode cX6_become 57 = .ok (.getfield 86, 3) := by decide +kernel
theorem dX6_become_60 : decode cX6_become 60 = .ok (.iload_n 1, 1) := by decide +kernel
theorem dX6_become_61 : decode cX6_become 61 = .ok (.iload_n 2, 1) := by decide +kernel
theorem dX6_become_62 : decode cX6_become 62 = .ok (.bipush 10, 2) := by decide +kernel
theorem dX6_become_64 : decode cX6_become 64 = .ok (.irem, 1) := by decide +kernel
theorem dX6_become_65 : decode cX6_become 65 = .ok (.iastore, 1) := by decide +kernel
theorem dX6_become_66 : decode cX6_become 66 = .ok (.iload_n 3, 1) := by decide +kernel
theorem dX6_become_67 : decode cX6_become 67 = .ok (.ireturn, 1) := by decide +kernel
theorem dX6_as_0 : decode cX6_as 0 = .ok (.aload_n 0, 1) := by decide +kernel
theorem dX6_as_1 : decode cX6_as 1 = .ok (.iload_n 1, 1) := by decide +kernel
theorem dX6_as_2 : decode cX6_as 2 = .ok (.invokevirtual 80, 3) := by decide +kernel
theorem dX6_as_5 : decode cX6_as 5 = .ok (.ifCond .eq 13, 3) := by decide +kernel
theorem dX6_as_8 : decode cX6_as 8 = .ok (.iload_n 2, 1) := by decide +kernel
theorem dX6_as_9 : decode cX6_as 9 = .ok (.iconst 0, 1) := by decide +kernel
theorem dX6_as_10 : decode cX6_as 10 = .ok (.bipush 6, 2) := by decide +kernel
theorem dX6_as_12 : decode cX6_as 12 = .ok (.invokestatic 62, 3) := by decide +kernel
theorem dX6_as_15 : decode cX6_as 15 = .ok (.ifCond .ne 9, 3) := by decide +kernel
theorem dX6_as_18 : decode cX6_as 18 = .ok (.aload_n 0, 1) := by decide +kernel
theorem dX6_as_19 : decode cX6_as 19 = .ok (.iconst 1, 1) := by decide +kernel
theorem dX6_as_20 : decode cX6_as 20 = .ok (.invokevirtual 66, 3) := by decide +kernel
theorem dX6_as_23 : decode cX6_as 23 = .ok (.ireturn, 1) := by decide +kernel
theorem dX6_as_24 : decode cX6_as 24 = .ok (.aload_n 0, 1) := by decide +kernel
theorem dX6_as_25 : decode cX6_as 25 = .ok (.getfield 10, 3) := by decide +kernel
theorem dX6_as_28 : decode cX6_as 28 = .ok (.getfield 70, 3) := by decide +kernel
theorem dX6_as_31 : decode cX6_as 31 = .ok (.getfield 83, 3) := by decide +kernel
theorem dX6_as_34 : decode cX6_as 34 = .ok (.iload_n 1, 1) := by decide +kernel
theorem dX6_as_35 : decode cX6_as 35 = .ok (.iaload, 1) := by decide +kernel
theorem dX6_as_36 : decode cX6_as 36 = .ok (.iload_n 2, 1) := by decide +kernel
theorem dX6_as_37 : decode cX6_as 37 = .ok (.invokestatic 118, 3) := by decide +kernel
theorem dX6_as_40 : decode cX6_as 40 = .ok (.ifCond .eq 18, 3) := by decide +kernel
theorem dX6_as_43 : decode cX6_as 43 = .ok (.aload_n 0, 1) := by decide +kernel
theorem dX6_as_44 : decode cX6_as 44 = .ok (.getfield 10, 3) := by decide +kernel
theorem dX6_as_47 : decode cX6_as 47 = .ok (.getfield 70, 3) := by decide +kernel
theorem dX6_as_50 : decode cX6_as 50 = .ok (.getfield 86, 3) := by decide +kernel
theorem dX6_as_53 : decode cX6_as 53 = .ok (.iload_n 1, 1) := by decide +kernel
theorem dX6_as_54 : decode cX6_as 54 = .ok (.iaload, 1) := by decide +kernel
theorem dX6_as_55 : decode cX6_as 55 = .ok (.goto 8, 3) := by decide +kernel
theorem dX6_as_58 : decode cX6_as 58 = .ok (.aload_n 0, 1) := by decide +kernel
theorem dX6_as_59 : decode cX6_as 59 = .ok (.iconst 5, 1) := by decide +kernel
theorem dX6_as_60 : decode cX6_as 60 = .ok (.invokevirtual 66, 3) := by decide +kernel
theorem dX6_as_63 : decode cX6_as 63 = .ok (.ireturn, 1) := by decide +kernel
theorem dX6_feed_0 : decode cX6_feed 0 = .ok (.iload_n 3, 1) := by decide +kernel
theorem dX6_feed_1 : decode cX6_feed 1 = .ok (.iconst 1, 1) := by decide +kernel
theorem dX6_feed_2 : decode cX6_feed 2 = .ok (.bipush 8, 2) := by decide +kernel
theorem dX6_feed_4 : decode cX6_feed 4 = .ok (.invokestatic 62, 3) := by decide +kernel
theorem dX6_feed_7 : decode cX6_feed 7 = .ok (.ifCond .ne 9, 3) := by decide +kernel
theorem dX6_feed_10 : decode cX6_feed 10 = .ok (.aload_n 0, 1) := by decide +kernel
theorem dX6_feed_11 : decode cX6_feed 11 = .ok (.iconst 1, 1) := by decide +kernel
theorem dX6_feed_12 : decode cX6_feed 12 = .ok (.invokevirtual 66, 3) := by decide +kernel
theorem dX6_feed_15 : decode cX6_feed 15 = .ok (.ireturn, 1) := by decide +kernel
theorem dX6_feed_16 : decode cX6_feed 16 = .ok (.aload_n 0, 1) := by decide +kernel
theorem dX6_feed_17 : decode cX6_feed 17 = .ok (.getfield 10, 3) := by decide +kernel
theorem dX6_feed_20 : decode cX6_feed 20 = .ok (.getfield 122, 3) := by decide +kernel
theorem dX6_feed_23 : decode cX6_feed 23 = .ok (.iload_n 3, 1) := by decide +kernel
theorem dX6_feed_24 : decode cX6_feed 24 = .ok (.iadd, 1) := by decide +kernel
theorem dX6_feed_25 : decode cX6_feed 25 = .ok (.bipush 50, 2) := by decide +kernel
theorem dX6_feed_27 : decode cX6_feed 27 = .ok (.if_icmp .le 9, 3) := by decide +kernel
theorem dX6_feed_30 : decode cX6_feed 30 = .ok (.aload_n 0, 1) := by decide +kernel
theorem dX6_feed_31 : decode cX6_feed 31 = .ok (.iconst 4, 1) := by decide +kernel
theorem dX6_feed_32 : decode cX6_feed 32 = .ok (.invokevirtual 66, 3) := by decide +kernel
theorem dX6_feed_35 : decode cX6_feed 35 = .ok (.ireturn, 1) := by decide +kernel
theorem dX6_feed_36 : decode cX6_feed 36 = .ok (.iconst 0, 1) := by decide +kernel
theorem dX6_feed_37 : decode cX6_feed 37 = .ok (.istore 4, 2) := by decide +kernel
theorem dX6_feed_39 : decode cX6_feed 39 = .ok (.iload 4, 2) := by decide +kernel
theorem dX6_feed_41 : decode cX6_feed 41 = .ok (.iload_n 3, 1) := by decide +kernel
theorem dX6_feed_42 : decode cX6_feed 42 = .ok (.if_icmp .ge 36, 3) := by decide +kernel
theorem dX6_feed_45 : decode cX6_feed 45 = .ok (.aload_n 0, 1) := by decide +kernel
theorem dX6_feed_46 : decode cX6_feed 46 = .ok (.getfield 10, 3) := by decide +kernel
theorem dX6_feed_49 : decode cX6_feed 49 = .ok (.getfield 125, 3) := by decide +kernel
theorem dX6_feed_52 : decode cX6_feed 52 = .ok (.aload_n 0, 1) := by decide +kernel
theorem dX6_feed_53 : decode cX6_feed 53 = .ok (.getfield 10, 3) := by decide +kernel
theorem dX6_feed_56 : decode cX6_feed 56 = .ok (.getfield 122, 3) := by decide +kernel
theorem dX6_feed_59 : decode cX6_feed 59 = .ok (.iload 4, 2) := by decide +kernel
theorem dX6_feed_61 : decode cX6_feed 61 = .ok (.iadd, 1) := by decide +kernel
theorem dX6_feed_62 : decode cX6_feed 62 = .ok (.lload_n 1, 1) := by decide +kernel
theorem dX6_feed_63 : decode cX6_feed 63 = .ok (.bipush 8, 2) := by decide +kernel
theorem dX6_feed_65 : decode cX6_feed 65 = .ok (.iload 4, 2) := by decide +kernel
theorem dX6_feed_67 : decode cX6_feed 67 = .ok (.imul, 1) := by decide +kernel
theorem dX6_feed_68 : decode cX6_feed 68 = .ok (.lushr, 1) := by decide +kernel
theorem dX6_feed_69 : decode cX6_feed 69 = .ok (.l2i, 1) := by decide +kernel
theorem dX6_feed_70 : decode cX6_feed 70 = .ok (.i2b, 1) := by decide +kernel
theorem dX6_feed_71 : decode cX6_feed 71 = .ok (.bastore, 1) := by decide +kernel
theorem dX6_feed_72 : decode cX6_feed 72 = .ok (.iinc 4 1, 3) := by decide +kernel
theorem dX6_feed_75 : decode cX6_feed 75 = .ok (.goto (-36), 3) := by decide +kernel
theorem dX6_feed_78 : decode cX6_feed 78 = .ok (.aload_n 0, 1) := by decide +kernel
theorem dX6_feed_79 : decode cX6_feed 79 = .ok (.getfield 10, 3) := by decide +kernel
theorem dX6_feed_82 : decode cX6_feed 82 = .ok (.dup, 1) := by decide +kernel
theorem dX6_feed_83 : decode cX6_feed 83 = .ok (.getfield 122, 3) := by decide +kernel
theorem dX6_feed_86 : decode cX6_feed 86 = .ok (.iload_n 3, 1) := by decide +kernel
theorem dX6_feed_87 : decode cX6_feed 87 = .ok (.iadd, 1) := by decide +kernel
theorem dX6_feed_88 : decode cX6_feed 88 = .ok (.putfield 122, 3) := by decide +kernel
theorem dX6_feed_91 : decode cX6_feed 91 = .ok (.aload_n 0, 1) := by decide +kernel
theorem dX6_feed_92 : decode cX6_feed 92 = .ok (.getfield 10, 3) := by decide +kernel
theorem dX6_feed_95 : decode cX6_feed 95 = .ok (.getfield 122, 3) := by decide +kernel
theorem dX6_feed_98 : decode cX6_feed 98 = .ok (.ireturn, 1) := by decide +kernel
theorem dX6_text_0 : decode cX6_text 0 = .ok (.iload_n 1, 1) := by decide +kernel
theorem dX6_text_1 : decode cX6_text 1 = .ok (.iconst 0, 1) := by decide +kernel
theorem dX6_text_2 : decode cX6_text 2 = .ok (.iconst 1, 1) := by decide +kernel
theorem dX6_text_3 : decode cX6_text 3 = .ok (.invokestatic 62, 3) := by decide +kernel
theorem dX6_text_6 : decode cX6_text 6 = .ok (.ifCond .ne 9, 3) := by decide +kernel
theorem dX6_text_9 : decode cX6_text 9 = .ok (.aload_n 0, 1) := by decide +kernel
theorem dX6_text_10 : decode cX6_text 10 = .ok (.iconst 1, 1) := by decide +kernel
theorem dX6_text_11 : decode cX6_text 11 = .ok (.invokevirtual 66, 3) := by decide +kernel
theorem dX6_text_14 : decode cX6_text 14 = .ok (.ireturn, 1) := by decide +kernel
theorem dX6_text_15 : decode cX6_text 15 = .ok (.aload_n 0, 1) := by decide +kernel
theorem dX6_text_16 : decode cX6_text 16 = .ok (.getfield 36, 3) := by decide +kernel
theorem dX6_text_19 : decode cX6_text 19 = .ok (.aload_n 0, 1) := by decide +kernel
theorem dX6_text_20 : decode cX6_text 20 = .ok (.getfield 10, 3) := by decide +kernel
theorem dX6_text_23 : decode cX6_text 23 = .ok (.getfield 125, 3) := by decide +kernel
theorem dX6_text_26 : decode cX6_text 26 = .ok (.aload_n 0, 1) := by decide +kernel
theorem dX6_text_27 : decode cX6_text 27 = .ok (.getfield 10, 3) := by decide +kernel
theorem dX6_text_30 : decode cX6_text 30 = .ok (.getfield 122, 3) := by decide +kernel
theorem dX6_text_33 : decode cX6_text 33 = .ok (.iload_n 1, 1) := by decide +kernel
theorem dX6_text_34 : decode cX6_text 34 = .ok (.invokevirtual 129, 3) := by decide +kernel
theorem dX6_text_37 : decode cX6_text 37 = .ok (.istore_n 2, 1) := by decide +kernel
theorem dX6_text_38 : decode cX6_text 38 = .ok (.aload_n 0, 1) := by decide +kernel
theorem dX6_text_39 : decode cX6_text 39 = .ok (.getfield 10, 3) := by decide +kernel
theorem dX6_text_42 : decode cX6_text 42 = .ok (.iconst 0, 1) := by decide +kernel
theorem dX6_text_43 : decode cX6_text 43 = .ok (.putfield 122, 3) := by decide +kernel
theorem dX6_text_46 : decode cX6_text 46 = .ok (.iload_n 2, 1) := by decide +kernel
theorem dX6_text_47 : decode cX6_text 47 = .ok (.ifCond .ne 14, 3) := by decide +kernel
theorem dX6_text_50 : decode cX6_text 50 = .ok (.bipush (-10), 2) := by decide +kernel
theorem dX6_text_52 : decode cX6_text 52 = .ok (.aload_n 0, 1) := by decide +kernel
theorem dX6_text_53 : decode cX6_text 53 = .ok (.getfield 36, 3) := by decide +kernel
theorem dX6_text_56 : decode cX6_text 56 = .ok (.getfield 133, 3) := by decide +kernel
theorem dX6_text_59 : decode cX6_text 59 = .ok (.isub, 1) := by decide +kernel
theorem dX6_text_60 : decode cX6_text 60 = .ok (.ireturn, 1) := by decide +kernel
theorem dX6_text_61 : decode cX6_text 61 = .ok (.aload_n 0, 1) := by decide +kernel
theorem dX6_text_62 : decode cX6_text 62 = .ok (.iload_n 1, 1) := by decide +kernel
theorem dX6_text_63 : decode cX6_text 63 = .ok (.invokevirtual 136, 3) := by decide +kernel
theorem dX6_text_66 : decode cX6_text 66 = .ok (.aload_n 0, 1) := by decide +kernel
theorem dX6_text_67 : decode cX6_text 67 = .ok (.getfield 36, 3) := by decide +kernel
theorem dX6_text_70 : decode cX6_text 70 = .ok (.getfield 140, 3) := by decide +kernel
theorem dX6_text_73 : decode cX6_text 73 = .ok (.aload_n 0, 1) := by decide +kernel
theorem dX6_text_74 : decode cX6_text 74 = .ok (.getfield 36, 3) := by decide +kernel
theorem dX6_text_77 : decode cX6_text 77 = .ok (.getfield 143, 3) := by decide +kernel
theorem dX6_text_80 : decode cX6_text 80 = .ok (.invokevirtual 144, 3) := by decide +kernel
theorem dX6_text_83 : decode cX6_text 83 = .ok (.iconst 1, 1) := by decide +kernel
theorem dX6_text_84 : decode cX6_text 84 = .ok (.ireturn, 1) := by decide +kernel
theorem dX6_law_0 : decode cX6_law 0 = .ok (.iload_n 1, 1) := by decide +kernel
theorem dX6_law_1 : decode cX6_law 1 = .ok (.iconst 0, 1) := by decide +kernel
theorem dX6_law_2 : decode cX6_law 2 = .ok (.iconst 1, 1) := by decide +kernel
theorem dX6_law_3 : decode cX6_law 3 = .ok (.invokestatic 62, 3) := by decide +kernel
theorem dX6_law_6 : decode cX6_law 6 = .ok (.ifCond .eq 18, 3) := by decide +kernel
theorem dX6_law_9 : decode cX6_law 9 = .ok (.aload_n 0, 1) := by decide +kernel
theorem dX6_law_10 : decode cX6_law 10 = .ok (.iload_n 1, 1) := by decide +kernel
theorem dX6_law_11 : decode cX6_law 11 = .ok (.invokevirtual 136, 3) := by decide +kernel
theorem dX6_law_14 : decode cX6_law 14 = .ok (.iload_n 2, 1) := by decide +kernel
theorem dX6_law_15 : decode cX6_law 15 = .ok (.iload_n 3, 1) := by decide +kernel
theorem dX6_law_16 : decode cX6_law 16 = .ok (.iload 4, 2) := by decide +kernel
theorem dX6_law_18 : decode cX6_law 18 = .ok (.invokevirtual 150, 3) := by decide +kernel
theorem dX6_law_21 : decode cX6_law 21 = .ok (.goto 8, 3) := by decide +kernel
theorem dX6_law_24 : decode cX6_law 24 = .ok (.aload_n 0, 1) := by decide +kernel
theorem dX6_law_25 : decode cX6_law 25 = .ok (.iconst 1, 1) := by decide +kernel
theorem dX6_law_26 : decode cX6_law 26 = .ok (.invokevirtual 66, 3) := by decide +kernel
theorem dX6_law_29 : decode cX6_law 29 = .ok (.ireturn, 1) := by decide +kernel
theorem dX6_dance_0 : decode cX6_dance 0 = .ok (.aload_n 0, 1) := by decide +kernel
theorem dX6_dance_1 : decode cX6_dance 1 = .ok (.iload_n 1, 1) := by decide +kernel
theorem dX6_dance_2 : decode cX6_dance 2 = .ok (.invokevirtual 80, 3) := by decide +kernel
theorem dX6_dance_5 : decode cX6_dance 5 = .ok (.ifCond .eq 16, 3) := by decide +kernel
theorem dX6_dance_8 : decode cX6_dance 8 = .ok (.aload_n 0, 1) := by decide +kernel
theorem dX6_dance_9 : decode cX6_dance 9 = .ok (.iload_n 2, 1) := by decide +kernel
theorem dX6_dance_10 : decode cX6_dance 10 = .ok (.invokevirtual 80, 3) := by decide +kernel
theorem dX6_dance_13 : decode cX6_dance 13 = .ok (.ifCond .eq 8, 3) := by decide +kernel
theorem dX6_dance_16 : decode cX6_dance 16 = .ok (.iload_n 1, 1) := by decide +kernel
theorem dX6_dance_17 : decode cX6_dance 17 = .ok (.iload_n 2, 1) := by decide +kernel
theorem dX6_dance_18 : decode cX6_dance 18 = .ok (.if_icmp .ne 9, 3) := by decide +kernel
theorem dX6_dance_21 : decode cX6_dance 21 = .ok (.aload_n 0, 1) := by decide +kernel
theorem dX6_dance_22 : decode cX6_dance 22 = .ok (.iconst 1, 1) := by decide +kernel
theorem dX6_dance_23 : decode cX6_dance 23 = .ok (.invokevirtual 66, 3) := by decide +kernel
theorem dX6_dance_26 : decode cX6_dance 26 = .ok (.ireturn, 1) := by decide +kernel
theorem dX6_dance_27 : decode cX6_dance 27 = .ok (.aload_n 0, 1) := by decide +kernel
theorem dX6_dance_28 : decode cX6_dance 28 = .ok (.getfield 10, 3) := by decide +kernel
theorem dX6_dance_31 : decode cX6_dance 31 = .ok (.getfield 70, 3) := by decide +kernel
theorem dX6_dance_34 : decode cX6_dance 34 = .ok (.getfield 95, 3) := by decide +kernel
theorem dX6_dance_37 : decode cX6_dance 37 = .ok (.iload_n 1, 1) := by decide +kernel
theorem dX6_dance_38 : decode cX6_dance 38 = .ok (.iaload, 1) := by decide +kernel
theorem dX6_dance_39 : decode cX6_dance 39 = .ok (.ifCond .eq 18, 3) := by decide +kernel
theorem dX6_dance_42 : decode cX6_dance 42 = .ok (.aload_n 0, 1) := by decide +kernel
theorem dX6_dance_43 : decode cX6_dance 43 = .ok (.getfield 10, 3) := by decide +kernel
theorem dX6_dance_46 : decode cX6_dance 46 = .ok (.getfield 70, 3) := by decide +kernel
theorem dX6_dance_49 : decode cX6_dance 49 = .ok (.getfield 95, 3) := by decide +kernel
theorem dX6_dance_52 : decode cX6_dance 52 = .ok (.iload_n 2, 1) := by decide +kernel
theorem dX6_dance_53 : decode cX6_dance 53 = .ok (.iaload, 1) := by decide +kernel
theorem dX6_dance_54 : decode cX6_dance 54 = .ok (.ifCond .ne 9, 3) := by decide +kernel
theorem dX6_dance_57 : decode cX6_dance 57 = .ok (.aload_n 0, 1) := by decide +kernel
theorem dX6_dance_58 : decode cX6_dance 58 = .ok (.iconst 3, 1) := by decide +kernel
theorem dX6_dance_59 : decode cX6_dance 59 = .ok (.invokevirtual 66, 3) := by decide +kernel
theorem dX6_dance_62 : decode cX6_dance 62 = .ok (.ireturn, 1) := by decide +kernel
theorem dX6_dance_63 : decode cX6_dance 63 = .ok (.aload_n 0, 1) := by decide +kernel
theorem dX6_dance_64 : decode cX6_dance 64 = .ok (.getfield 10, 3) := by decide +kernel
theorem dX6_dance_67 : decode cX6_dance 67 = .ok (.getfield 70, 3) := by decide +kernel
theorem dX6_dance_70 : decode cX6_dance 70 = .ok (.iload_n 1, 1) := by decide +kernel
theorem dX6_dance_71 : decode cX6_dance 71 = .ok (.iload_n 2, 1) := by decide +kernel
theorem dX6_dance_72 : decode cX6_dance 72 = .ok (.aload_n 0, 1) := by decide +kernel
theorem dX6_dance_73 : decode cX6_dance 73 = .ok (.getfield 10, 3) := by decide +kernel
theorem dX6_dance_76 : decode cX6_dance 76 = .ok (.getfield 154, 3) := by decide +kernel
theorem dX6_dance_79 : decode cX6_dance 79 = .ok (.invokevirtual 158, 3) := by decide +kernel
theorem dX6_dance_82 : decode cX6_dance 82 = .ok (.aload_n 0, 1) := by decide +kernel
theorem dX6_dance_83 : decode cX6_dance 83 = .ok (.getfield 10, 3) := by decide +kernel
theorem dX6_dance_86 : decode cX6_dance 86 = .ok (.getfield 70, 3) := by decide +kernel
theorem dX6_dance_89 : decode cX6_dance 89 = .ok (.getfield 89, 3) := by decide +kernel
theorem dX6_dance_92 : decode cX6_dance 92 = .ok (.iload_n 1, 1) := by decide +kernel
theorem dX6_dance_93 : decode cX6_dance 93 = .ok (.iaload, 1) := by decide +kernel
theorem dX6_dance_94 : decode cX6_dance 94 = .ok (.ireturn, 1) := by decide +kernel
theorem dX6_hours_0 : decode cX6_hours 0 = .ok (.iload_n 1, 1) := by decide +kernel
theorem dX6_hours_1 : decode cX6_hours 1 = .ok (.iconst 1, 1) := by decide +kernel
theorem dX6_hours_2 : decode cX6_hours 2 = .ok (.bipush 60, 2) := by decide +kernel
theorem dX6_hours_4 : decode cX6_hours 4 = .ok (.invokestatic 62, 3) := by decide +kernel
theorem dX6_hours_7 : decode cX6_hours 7 = .ok (.ifCond .ne 9, 3) := by decide +kernel
theorem dX6_hours_10 : decode cX6_hours 10 = .ok (.aload_n 0, 1) := by decide +kernel
theorem dX6_hours_11 : decode cX6_hours 11 = .ok (.iconst 1, 1) := by decide +kernel
theorem dX6_hours_12 : decode cX6_hours 12 = .ok (.invokevirtual 66, 3) := by decide +kernel
theorem dX6_hours_15 : decode cX6_hours 15 = .ok (.ireturn, 1) := by decide +kernel
theorem dX6_hours_16 : decode cX6_hours 16 = .ok (.aload_n 0, 1) := by decide +kernel
theorem dX6_hours_17 : decode cX6_hours 17 = .ok (.getfield 10, 3) := by decide +kernel
theorem dX6_hours_20 : decode cX6_hours 20 = .ok (.getfield 162, 3) := by decide +kernel
theorem dX6_hours_23 : decode cX6_hours 23 = .ok (.iload_n 1, 1) := by decide +kernel
theorem dX6_hours_24 : decode cX6_hours 24 = .ok (.iadd, 1) := by decide +kernel
theorem dX6_hours_25 : decode cX6_hours 25 = .ok (.sipush 9999, 3) := by decide +kernel
theorem dX6_hours_28 : decode cX6_hours 28 = .ok (.if_icmp .le 9, 3) := by decide +kernel
theorem dX6_hours_31 : decode cX6_hours 31 = .ok (.aload_n 0, 1) := by decide +kernel
theorem dX6_hours_32 : decode cX6_hours 32 = .ok (.iconst 3, 1) := by decide +kernel
theorem dX6_hours_33 : decode cX6_hours 33 = .ok (.invokevirtual 66, 3) := by decide +kernel
theorem dX6_hours_36 : decode cX6_hours 36 = .ok (.ireturn, 1) := by decide +kernel
theorem dX6_hours_37 : decode cX6_hours 37 = .ok (.aload_n 0, 1) := by decide +kernel
theorem dX6_hours_38 : decode cX6_hours 38 = .ok (.getfield 10, 3) := by decide +kernel
theorem dX6_hours_41 : decode cX6_hours 41 = .ok (.getfield 70, 3) := by decide +kernel
theorem dX6_hours_44 : decode cX6_hours 44 = .ok (.iload_n 1, 1) := by decide +kernel
theorem dX6_hours_45 : decode cX6_hours 45 = .ok (.aload_n 0, 1) := by decide +kernel
theorem dX6_hours_46 : decode cX6_hours 46 = .ok (.getfield 10, 3) := by decide +kernel
theorem dX6_hours_49 : decode cX6_hours 49 = .ok (.getfield 165, 3) := by decide +kernel
theorem dX6_hours_52 : decode cX6_hours 52 = .ok (.invokevirtual 168, 3) := by decide +kernel
theorem dX6_hours_55 : decode cX6_hours 55 = .ok (.aload_n 0, 1) := by decide +kernel
theorem dX6_hours_56 : decode cX6_hours 56 = .ok (.getfield 10, 3) := by decide +kernel
theorem dX6_hours_59 : decode cX6_hours 59 = .ok (.dup, 1) := by decide +kernel
theorem dX6_hours_60 : decode cX6_hours 60 = .ok (.getfield 162, 3) := by decide +kernel
theorem dX6_hours_63 : decode cX6_hours 63 = .ok (.iload_n 1, 1) := by decide +kernel
theorem dX6_hours_64 : decode cX6_hours 64 = .ok (.iadd, 1) := by decide +kernel
theorem dX6_hours_65 : decode cX6_hours 65 = .ok (.putfield 162, 3) := by decide +kernel
theorem dX6_hours_68 : decode cX6_hours 68 = .ok (.aload_n 0, 1) := by decide +kernel
theorem dX6_hours_69 : decode cX6_hours 69 = .ok (.getfield 10, 3) := by decide +kernel
theorem dX6_hours_72 : decode cX6_hours 72 = .ok (.getfield 70, 3) := by decide +kernel
theorem dX6_hours_75 : decode cX6_hours 75 = .ok (.invokevirtual 172, 3) := by decide +kernel
theorem dX6_hours_78 : decode cX6_hours 78 = .ok (.ireturn, 1) := by decide +kernel
theorem dX6_loose_0 : decode cX6_loose 0 = .ok (.iload_n 1, 1) := by decide +kernel
theorem dX6_loose_1 : decode cX6_loose 1 = .ok (.iconst 1, 1) := by decide +kernel
theorem dX6_loose_2 : decode cX6_loose 2 = .ok (.bipush 40, 2) := by decide +kernel
theorem dX6_loose_4 : decode cX6_loose 4 = .ok (.invokestatic 62, 3) := by decide +kernel
theorem dX6_loose_7 : decode cX6_loose 7 = .ok (.ifCond .ne 9, 3) := by decide +kernel
theorem dX6_loose_10 : decode cX6_loose 10 = .ok (.aload_n 0, 1) := by decide +kernel
theorem dX6_loose_11 : decode cX6_loose 11 = .ok (.iconst 1, 1) := by decide +kernel
theorem dX6_loose_12 : decode cX6_loose 12 = .ok (.invokevirtual 66, 3) := by decide +kernel
theorem dX6_loose_15 : decode cX6_loose 15 = .ok (.ireturn, 1) := by decide +kernel
theorem dX6_loose_16 : decode cX6_loose 16 = .ok (.aload_n 0, 1) := by decide +kernel
theorem dX6_loose_17 : decode cX6_loose 17 = .ok (.getfield 10, 3) := by decide +kernel
theorem dX6_loose_20 : decode cX6_loose 20 = .ok (.getfield 162, 3) := by decide +kernel
theorem dX6_loose_23 : decode cX6_loose 23 = .ok (.iload_n 1, 1) := by decide +kernel
theorem dX6_loose_24 : decode cX6_loose 24 = .ok (.iadd, 1) := by decide +kernel
theorem dX6_loose_25 : decode cX6_loose 25 = .ok (.sipush 9999, 3) := by decide +kernel
theorem dX6_loose_28 : decode cX6_loose 28 = .ok (.if_icmp .le 9, 3) := by decide +kernel
theorem dX6_loose_31 : decode cX6_loose 31 = .ok (.aload_n 0, 1) := by decide +kernel
theorem dX6_loose_32 : decode cX6_loose 32 = .ok (.iconst 3, 1) := by decide +kernel
theorem dX6_loose_33 : decode cX6_loose 33 = .ok (.invokevirtual 66, 3) := by decide +kernel
theorem dX6_loose_36 : decode cX6_loose 36 = .ok (.ireturn, 1) := by decide +kernel
theorem dX6_loose_37 : decode cX6_loose 37 = .ok (.iconst 0, 1) := by decide +kernel
theorem dX6_loose_38 : decode cX6_loose 38 = .ok (.istore_n 2, 1) := by decide +kernel
theorem dX6_loose_39 : decode cX6_loose 39 = .ok (.iload_n 2, 1) := by decide +kernel
theorem dX6_loose_40 : decode cX6_loose 40 = .ok (.iload_n 1, 1) := by decide +kernel
theorem dX6_loose_41 : decode cX6_loose 41 = .ok (.if_icmp .ge 16, 3) := by decide +kernel
theorem dX6_loose_44 : decode cX6_loose 44 = .ok (.aload_n 0, 1) := by decide +kernel
theorem dX6_loose_45 : decode cX6_loose 45 = .ok (.getfield 10, 3) := by decide +kernel
theorem dX6_loose_48 : decode cX6_loose 48 = .ok (.invokevirtual 176, 3) := by decide +kernel
theorem dX6_loose_51 : decode cX6_loose 51 = .ok (.iinc 2 1, 3) := by decide +kernel
theorem dX6_loose_54 : decode cX6_loose 54 = .ok (.goto (-15), 3) := by decide +kernel
theorem dX6_loose_57 : decode cX6_loose 57 = .ok (.aload_n 0, 1) := by decide +kernel
theorem dX6_loose_58 : decode cX6_loose 58 = .ok (.getfield 10, 3) := by decide +kernel
theorem dX6_loose_61 : decode cX6_loose 61 = .ok (.getfield 70, 3) := by decide +kernel
theorem dX6_loose_64 : decode cX6_loose 64 = .ok (.invokevirtual 172, 3) := by decide +kernel
theorem dX6_loose_67 : decode cX6_loose 67 = .ok (.ireturn, 1) := by decide +kernel
theorem dX6_then_0 : decode cX6_then 0 = .ok (.iload_n 1, 1) := by decide +kernel
theorem dX6_then_1 : decode cX6_then 1 = .ok (.iconst 0, 1) := by decide +kernel
theorem dX6_then_2 : decode cX6_then 2 = .ok (.bipush 60, 2) := by decide +kernel
theorem dX6_then_4 : decode cX6_then 4 = .ok (.invokestatic 62, 3) := by decide +kernel
theorem dX6_then_7 : decode cX6_then 7 = .ok (.ifCond .eq 20, 3) := by decide +kernel
theorem dX6_then_10 : decode cX6_then 10 = .ok (.aload_n 0, 1) := by decide +kernel
theorem dX6_then_11 : decode cX6_then 11 = .ok (.iload_n 2, 1) := by decide +kernel
theorem dX6_then_12 : decode cX6_then 12 = .ok (.invokevirtual 80, 3) := by decide +kernel
theorem dX6_then_15 : decode cX6_then 15 = .ok (.ifCond .eq 12, 3) := by decide +kernel
theorem dX6_then_18 : decode cX6_then 18 = .ok (.iload_n 3, 1) := by decide +kernel
theorem dX6_then_19 : decode cX6_then 19 = .ok (.iconst 0, 1) := by decide +kernel
theorem dX6_then_20 : decode cX6_then 20 = .ok (.iconst 1, 1) := by decide +kernel
theorem dX6_then_21 : decode cX6_then 21 = .ok (.invokestatic 62, 3) := by decide +kernel
theorem dX6_then_24 : decode cX6_then 24 = .ok (.ifCond .ne 9, 3) := by decide +kernel
theorem dX6_then_27 : decode cX6_then 27 = .ok (.aload_n 0, 1) := by decide +kernel
theorem dX6_then_28 : decode cX6_then 28 = .ok (.iconst 1, 1) := by decide +kernel
theorem dX6_then_29 : decode cX6_then 29 = .ok (.invokevirtual 66, 3) := by decide +kernel
theorem dX6_then_32 : decode cX6_then 32 = .ok (.ireturn, 1) := by decide +kernel
theorem dX6_then_33 : decode cX6_then 33 = .ok (.aload_n 0, 1) := by decide +kernel
theorem dX6_then_34 : decode cX6_then 34 = .ok (.getfield 26, 3) := by decide +kernel
theorem dX6_then_37 : decode cX6_then 37 = .ok (.aload_n 0, 1) := by decide +kernel
theorem dX6_then_38 : decode cX6_then 38 = .ok (.getfield 10, 3) := by decide +kernel
theorem dX6_then_41 : decode cX6_then 41 = .ok (.getfield 70, 3) := by decide +kernel
theorem dX6_then_44 : decode cX6_then 44 = .ok (.invokevirtual 179, 3) := by decide +kernel
theorem dX6_then_47 : decode cX6_then 47 = .ok (.aload_n 0, 1) := by decide +kernel
theorem dX6_then_48 : decode cX6_then 48 = .ok (.getfield 26, 3) := by decide +kernel
theorem dX6_then_51 : decode cX6_then 51 = .ok (.iload_n 1, 1) := by decide +kernel
theorem dX6_then_52 : decode cX6_then 52 = .ok (.aload_n 0, 1) := by decide +kernel
theorem dX6_then_53 : decode cX6_then 53 = .ok (.getfield 10, 3) := by decide +kernel
theorem dX6_then_56 : decode cX6_then 56 = .ok (.getfield 165, 3) := by decide +kernel
theorem dX6_then_59 : decode cX6_then 59 = .ok (.invokevirtual 168, 3) := by decide +kernel
theorem dX6_then_62 : decode cX6_then 62 = .ok (.iload_n 3, 1) := by decide +kernel
theorem dX6_then_63 : decode cX6_then 63 = .ok (.ifCond .ne 15, 3) := by decide +kernel
theorem dX6_then_66 : decode cX6_then 66 = .ok (.aload_n 0, 1) := by decide +kernel
theorem dX6_then_67 : decode cX6_then 67 = .ok (.getfield 26, 3) := by decide +kernel
theorem dX6_then_70 : decode cX6_then 70 = .ok (.getfield 89, 3) := by decide +kernel
theorem dX6_then_73 : decode cX6_then 73 = .ok (.iload_n 2, 1) := by decide +kernel
theorem dX6_then_74 : decode cX6_then 74 = .ok (.iaload, 1) := by decide +kernel
theorem dX6_then_75 : decode cX6_then 75 = .ok (.goto 11, 3) := by decide +kernel
theorem dX6_then_78 : decode cX6_then 78 = .ok (.aload_n 0, 1) := by decide +kernel
theorem dX6_then_79 : decode cX6_then 79 = .ok (.getfield 26, 3) := by decide +kernel
theorem dX6_then_82 : decode cX6_then 82 = .ok (.iload_n 2, 1) := by decide +kernel
theorem dX6_then_83 : decode cX6_then 83 = .ok (.invokevirtual 98, 3) := by decide +kernel
theorem dX6_then_86 : decode cX6_then 86 = .ok (.ireturn, 1) := by decide +kernel
theorem dX6_last_0 : decode cX6_last 0 = .ok (.aload_n 0, 1) := by decide +kernel
theorem dX6_last_1 : decode cX6_last 1 = .ok (.iload_n 1, 1) := by decide +kernel
theorem dX6_last_2 : decode cX6_last 2 = .ok (.invokevirtual 80, 3) := by decide +kernel
theorem dX6_last_5 : decode cX6_last 5 = .ok (.ifCond .ne 9, 3) := by decide +kernel
theorem dX6_last_8 : decode cX6_last 8 = .ok (.aload_n 0, 1) := by decide +kernel
theorem dX6_last_9 : decode cX6_last 9 = .ok (.iconst 1, 1) := by decide +kernel
theorem dX6_last_10 : decode cX6_last 10 = .ok (.invokevirtual 66, 3) := by decide +kernel
theorem dX6_last_13 : decode cX6_last 13 = .ok (.ireturn, 1) := by decide +kernel
theorem dX6_last_14 : decode cX6_last 14 = .ok (.aload_n 0, 1) := by decide +kernel
theorem dX6_last_15 : decode cX6_last 15 = .ok (.getfield 26, 3) := by decide +kernel
theorem dX6_last_18 : decode cX6_last 18 = .ok (.aload_n 0, 1) := by decide +kernel
theorem dX6_last_19 : decode cX6_last 19 = .ok (.getfield 10, 3) := by decide +kernel
theorem dX6_last_22 : decode cX6_last 22 = .ok (.getfield 70, 3) := by decide +kernel
theorem dX6_last_25 : decode cX6_last 25 = .ok (.invokevirtual 179, 3) := by decide +kernel
theorem dX6_last_28 : decode cX6_last 28 = .ok (.iconst 0, 1) := by decide +kernel
theorem dX6_last_29 : decode cX6_last 29 = .ok (.istore_n 2, 1) := by decide +kernel
theorem dX6_last_30 : decode cX6_last 30 = .ok (.iload_n 2, 1) := by decide +kernel
theorem dX6_last_31 : decode cX6_last 31 = .ok (.bipush 60, 2) := by decide +kernel
theorem dX6_last_33 : decode cX6_last 33 = .ok (.if_icmp .gt 37, 3) := by decide +kernel
theorem dX6_last_36 : decode cX6_last 36 = .ok (.aload_n 0, 1) := by decide +kernel
theorem dX6_last_37 : decode cX6_last 37 = .ok (.getfield 26, 3) := by decide +kernel
theorem dX6_last_40 : decode cX6_last 40 = .ok (.invokevirtual 183, 3) := by decide +kernel
theorem dX6_last_43 : decode cX6_last 43 = .ok (.iload_n 1, 1) := by decide +kernel
theorem dX6_last_44 : decode cX6_last 44 = .ok (.if_icmp .ne 5, 3) := by decide +kernel
theorem dX6_last_47 : decode cX6_last 47 = .ok (.iload_n 2, 1) := by decide +kernel
theorem dX6_last_48 : decode cX6_last 48 = .ok (.ireturn, 1) := by decide +kernel
theorem dX6_last_49 : decode cX6_last 49 = .ok (.aload_n 0, 1) := by decide +kernel
theorem dX6_last_50 : decode cX6_last 50 = .ok (.getfield 26, 3) := by decide +kernel
theorem dX6_last_53 : decode cX6_last 53 = .ok (.iconst 1, 1) := by decide +kernel
theorem dX6_last_54 : decode cX6_last 54 = .ok (.aload_n 0, 1) := by decide +kernel
theorem dX6_last_55 : decode cX6_last 55 = .ok (.getfield 10, 3) := by decide +kernel
theorem dX6_last_58 : decode cX6_last 58 = .ok (.getfield 165, 3) := by decide +kernel
theorem dX6_last_61 : decode cX6_last 61 = .ok (.invokevirtual 168, 3) := by decide +kernel
theorem dX6_last_64 : decode cX6_last 64 = .ok (.iinc 2 1, 3) := by decide +kernel
theorem dX6_last_67 : decode cX6_last 67 = .ok (.goto (-37), 3) := by decide +kernel
theorem dX6_last_70 : decode cX6_last 70 = .ok (.aload_n 0, 1) := by decide +kernel
theorem dX6_last_71 : decode cX6_last 71 = .ok (.iconst 2, 1) := by decide +kernel
theorem dX6_last_72 : decode cX6_last 72 = .ok (.invokevirtual 66, 3) := by decide +kernel
theorem dX6_last_75 : decode cX6_last 75 = .ok (.ireturn, 1) := by decide +kernel
theorem dX6_partner_0 : decode cX6_partner 0 = .ok (.aload_n 0, 1) := by decide +kernel
theorem dX6_partner_1 : decode cX6_partner 1 = .ok (.iload_n 1, 1) := by decide +kernel
theorem dX6_partner_2 : decode cX6_partner 2 = .ok (.invokevirtual 80, 3) := by decide +kernel
theorem dX6_partner_5 : decode cX6_partner 5 = .ok (.ifCond .eq 22, 3) := by decide +kernel
theorem dX6_partner_8 : decode cX6_partner 8 = .ok (.iload_n 2, 1) := by decide +kernel
theorem dX6_partner_9 : decode cX6_partner 9 = .ok (.iconst 0, 1) := by decide +kernel
theorem dX6_partner_10 : decode cX6_partner 10 = .ok (.bipush 20, 2) := by decide +kernel
theorem dX6_partner_12 : decode cX6_partner 12 = .ok (.invokestatic 62, 3) := by decide +kernel
theorem dX6_partner_15 : decode cX6_partner 15 = .ok (.ifCond .eq 12, 3) := by decide +kernel
theorem dX6_partner_18 : decode cX6_partner 18 = .ok (.iload_n 3, 1) := by decide +kernel
theorem dX6_partner_19 : decode cX6_partner 19 = .ok (.iconst 0, 1) := by decide +kernel
theorem dX6_partner_20 : decode cX6_partner 20 = .ok (.iconst 1, 1) := by decide +kernel
theorem dX6_partner_21 : decode cX6_partner 21 = .ok (.invokestatic 62, 3) := by decide +kernel
theorem dX6_partner_24 : decode cX6_partner 24 = .ok (.ifCond .ne 9, 3) := by decide +kernel
theorem dX6_partner_27 : decode cX6_partner 27 = .ok (.aload_n 0, 1) := by decide +kernel
theorem dX6_partner_28 : decode cX6_partner 28 = .ok (.iconst 1, 1) := by decide +kernel
theorem dX6_partner_29 : decode cX6_partner 29 = .ok (.invokevirtual 66, 3) := by decide +kernel
theorem dX6_partner_32 : decode cX6_partner 32 = .ok (.ireturn, 1) := by decide +kernel
theorem dX6_partner_33 : decode cX6_partner 33 = .ok (.iconst (-1), 1) := by decide +kernel
theorem dX6_partner_34 : decode cX6_partner 34 = .ok (.istore 4, 2) := by decide +kernel
theorem dX6_partner_36 : decode cX6_partner 36 = .ok (.bipush 7, 2) := by decide +kernel
theorem dX6_partner_38 : decode cX6_partner 38 = .ok (.istore 5, 2) := by decide +kernel
theorem dX6_partner_40 : decode cX6_partner 40 = .ok (.iconst 0, 1) := by decide +kernel
theorem dX6_partner_41 : decode cX6_partner 41 = .ok (.istore 6, 2) := by decide +kernel
theorem dX6_partner_43 : decode cX6_partner 43 = .ok (.iload 6, 2) := by decide +kernel
theorem dX6_partner_45 : decode cX6_partner 45 = .ok (.aload_n 0, 1) := by decide +kernel
theorem dX6_partner_46 : decode cX6_partner 46 = .ok (.getfield 10, 3) := by decide +kernel
theorem dX6_partner_49 : decode cX6_partner 49 = .ok (.getfield 70, 3) := by decide +kernel
theorem dX6_partner_52 : decode cX6_partner 52 = .ok (.getfield 73, 3) := by decide +kernel
theorem dX6_partner_55 : decode cX6_partner 55 = .ok (.if_icmp .ge 40, 3) := by decide +kernel
theorem dX6_partner_58 : decode cX6_partner 58 = .ok (.iload 6, 2) := by decide +kernel
theorem dX6_partner_60 : decode cX6_partner 60 = .ok (.iload_n 1, 1) := by decide +kernel
theorem dX6_partner_61 : decode cX6_partner 61 = .ok (.if_icmp .eq 28, 3) := by decide +kernel
theorem dX6_partner_64 : decode cX6_partner 64 = .ok (.aload_n 0, 1) := by decide +kernel
theorem dX6_partner_65 : decode cX6_partner 65 = .ok (.iload_n 1, 1) := by decide +kernel
theorem dX6_partner_66 : decode cX6_partner 66 = .ok (.iload 6, 2) := by decide +kernel
theorem dX6_partner_68 : decode cX6_partner 68 = .ok (.iload_n 2, 1) := by decide +kernel
theorem dX6_partner_69 : decode cX6_partner 69 = .ok (.invokevirtual 186, 3) := by decide +kernel
theorem dX6_partner_72 : decode cX6_partner 72 = .ok (.istore 7, 2) := by decide +kernel
theorem dX6_partner_74 : decode cX6_partner 74 = .ok (.iload 7, 2) := by decide +kernel
theorem dX6_partner_76 : decode cX6_partner 76 = .ok (.iload 5, 2) := by decide +kernel
theorem dX6_partner_78 : decode cX6_partner 78 = .ok (.if_icmp .ge 11, 3) := by decide +kernel
theorem dX6_partner_81 : decode cX6_partner 81 = .ok (.iload 7, 2) := by decide +kernel
theorem dX6_partner_83 : decode cX6_partner 83 = .ok (.istore 5, 2) := by decide +kernel
theorem dX6_partner_85 : decode cX6_partner 85 = .ok (.iload 6, 2) := by decide +kernel
theorem dX6_partner_87 : decode cX6_partner 87 = .ok (.istore 4, 2) := by decide +kernel
theorem dX6_partner_89 : decode cX6_partner 89 = .ok (.iinc 6 1, 3) := by decide +kernel
theorem dX6_partner_92 : decode cX6_partner 92 = .ok (.goto (-49), 3) := by decide +kernel
theorem dX6_partner_95 : decode cX6_partner 95 = .ok (.iload 4, 2) := by decide +kernel
theorem dX6_partner_97 : decode cX6_partner 97 = .ok (.iconst (-1), 1) := by decide +kernel
theorem dX6_partner_98 : decode cX6_partner 98 = .ok (.if_icmp .ne 9, 3) := by decide +kernel
theorem dX6_partner_101 : decode cX6_partner 101 = .ok (.aload_n 0, 1) := by decide +kernel
theorem dX6_partner_102 : decode cX6_partner 102 = .ok (.iconst 2, 1) := by decide +kernel
theorem dX6_partner_103 : decode cX6_partner 103 = .ok (.invokevirtual 66, 3) := by decide +kernel
theorem dX6_partner_106 : decode cX6_partner 106 = .ok (.ireturn, 1) := by decide +kernel
theorem dX6_partner_107 : decode cX6_partner 107 = .ok (.iload_n 3, 1) := by decide +kernel
theorem dX6_partner_108 : decode cX6_partner 108 = .ok (.ifCond .ne 8, 3) := by decide +kernel
theorem dX6_partner_111 : decode cX6_partner 111 = .ok (.iload 4, 2) := by decide +kernel
theorem dX6_partner_113 : decode cX6_partner 113 = .ok (.goto 5, 3) := by decide +kernel
theorem dX6_partner_116 : decode cX6_partner 116 = .ok (.iload 5, 2) := by decide +kernel
theorem dX6_partner_118 : decode cX6_partner 118 = .ok (.ireturn, 1) := by decide +kernel
theorem dX6_dances_0 : decode cX6_dances 0 = .ok (.aload_n 0, 1) := by decide +kernel
theorem dX6_dances_1 : decode cX6_dances 1 = .ok (.iload_n 1, 1) := by decide +kernel
theorem dX6_dances_2 : decode cX6_dances 2 = .ok (.invokevirtual 80, 3) := by decide +kernel
theorem dX6_dances_5 : decode cX6_dances 5 = .ok (.ifCond .eq 31, 3) := by decide +kernel
theorem dX6_dances_8 : decode cX6_dances 8 = .ok (.aload_n 0, 1) := by decide +kernel
theorem dX6_dances_9 : decode cX6_dances 9 = .ok (.iload_n 2, 1) := by decide +kernel
theorem dX6_dances_10 : decode cX6_dances 10 = .ok (.invokevirtual 108, 3) := by decide +kernel
theorem dX6_dances_13 : decode cX6_dances 13 = .ok (.ifCond .eq 23, 3) := by decide +kernel
theorem dX6_dances_16 : decode cX6_dances 16 = .ok (.iload_n 3, 1) := by decide +kernel
theorem dX6_dances_17 : decode cX6_dances 17 = .ok (.iconst 0, 1) := by decide +kernel
theorem dX6_dances_18 : decode cX6_dances 18 = .ok (.bipush 6, 2) := by decide +kernel
theorem dX6_dances_20 : decode cX6_dances 20 = .ok (.invokestatic 62, 3) := by decide +kernel
theorem dX6_dances_23 : decode cX6_dances 23 = .ok (.ifCond .eq 13, 3) := by decide +kernel
theorem dX6_dances_26 : decode cX6_dances 26 = .ok (.iload 4, 2) := by decide +kernel
theorem dX6_dances_28 : decode cX6_dances 28 = .ok (.iconst 0, 1) := by decide +kernel
theorem dX6_dances_29 : decode cX6_dances 29 = .ok (.iconst 1, 1) := by decide +kernel
theorem dX6_dances_30 : decode cX6_dances 30 = .ok (.invokestatic 62, 3) := by decide +kernel
theorem dX6_dances_33 : decode cX6_dances 33 = .ok (.ifCond .ne 9, 3) := by decide +kernel
theorem dX6_dances_36 : decode cX6_dances 36 = .ok (.aload_n 0, 1) := by decide +kernel
theorem dX6_dances_37 : decode cX6_dances 37 = .ok (.iconst 1, 1) := by decide +kernel
theorem dX6_dances_38 : decode cX6_dances 38 = .ok (.invokevirtual 66, 3) := by decide +kernel
theorem dX6_dances_41 : decode cX6_dances 41 = .ok (.ireturn, 1) := by decide +kernel
theorem dX6_dances_42 : decode cX6_dances 42 = .ok (.aload_n 0, 1) := by decide +kernel
theorem dX6_dances_43 : decode cX6_dances 43 = .ok (.getfield 26, 3) := by decide +kernel
theorem dX6_dances_46 : decode cX6_dances 46 = .ok (.aload_n 0, 1) := by decide +kernel
theorem dX6_dances_47 : decode cX6_dances 47 = .ok (.getfield 10, 3) := by decide +kernel
theorem dX6_dances_50 : decode cX6_dances 50 = .ok (.getfield 70, 3) := by decide +kernel
theorem dX6_dances_53 : decode cX6_dances 53 = .ok (.invokevirtual 179, 3) := by decide +kernel
theorem dX6_dances_56 : decode cX6_dances 56 = .ok (.aload_n 0, 1) := by decide +kernel
theorem dX6_dances_57 : decode cX6_dances 57 = .ok (.getfield 26, 3) := by decide +kernel
theorem dX6_dances_60 : decode cX6_dances 60 = .ok (.iload_n 3, 1) := by decide +kernel
theorem dX6_dances_61 : decode cX6_dances 61 = .ok (.aload_n 0, 1) := by decide +kernel
theorem dX6_dances_62 : decode cX6_dances 62 = .ok (.getfield 10, 3) := by decide +kernel
theorem dX6_dances_65 : decode cX6_dances 65 = .ok (.getfield 165, 3) := by decide +kernel
theorem dX6_dances_68 : decode cX6_dances 68 = .ok (.invokevirtual 168, 3) := by decide +kernel
theorem dX6_dances_71 : decode cX6_dances 71 = .ok (.aload_n 0, 1) := by decide +kernel
theorem dX6_dances_72 : decode cX6_dances 72 = .ok (.getfield 26, 3) := by decide +kernel
theorem dX6_dances_75 : decode cX6_dances 75 = .ok (.iload_n 1, 1) := by decide +kernel
theorem dX6_dances_76 : decode cX6_dances 76 = .ok (.invokevirtual 98, 3) := by decide +kernel
theorem dX6_dances_79 : decode cX6_dances 79 = .ok (.iload_n 2, 1) := by decide +kernel
theorem dX6_dances_80 : decode cX6_dances 80 = .ok (.if_icmp .gt 14, 3) := by decide +kernel
theorem dX6_dances_83 : decode cX6_dances 83 = .ok (.iload 4, 2) := by decide +kernel
theorem dX6_dances_85 : decode cX6_dances 85 = .ok (.ifCond .ne 7, 3) := by decide +kernel
theorem dX6_dances_88 : decode cX6_dances 88 = .ok (.iconst 0, 1) := by decide +kernel
theorem dX6_dances_89 : decode cX6_dances 89 = .ok (.goto 4, 3) := by decide +kernel
theorem dX6_dances_92 : decode cX6_dances 92 = .ok (.iconst (-1), 1) := by decide +kernel
theorem dX6_dances_93 : decode cX6_dances 93 = .ok (.ireturn, 1) := by decide +kernel
theorem dX6_dances_94 : decode cX6_dances 94 = .ok (.aload_n 0, 1) := by decide +kernel
theorem dX6_dances_95 : decode cX6_dances 95 = .ok (.aload_n 0, 1) := by decide +kernel
theorem dX6_dances_96 : decode cX6_dances 96 = .ok (.getfield 10, 3) := by decide +kernel
theorem dX6_dances_99 : decode cX6_dances 99 = .ok (.getfield 70, 3) := by decide +kernel
theorem dX6_dances_102 : decode cX6_dances 102 = .ok (.iload_n 1, 1) := by decide +kernel
theorem dX6_dances_103 : decode cX6_dances 103 = .ok (.iload_n 2, 1) := by decide +kernel
theorem dX6_dances_104 : decode cX6_dances 104 = .ok (.iload_n 3, 1) := by decide +kernel
theorem dX6_dances_105 : decode cX6_dances 105 = .ok (.invokevirtual 189, 3) := by decide +kernel
theorem dX6_dances_108 : decode cX6_dances 108 = .ok (.istore 5, 2) := by decide +kernel
theorem dX6_dances_110 : decode cX6_dances 110 = .ok (.iload 5, 2) := by decide +kernel
theorem dX6_dances_112 : decode cX6_dances 112 = .ok (.ifCond .lt 15, 3) := by decide +kernel
theorem dX6_dances_115 : decode cX6_dances 115 = .ok (.iload 4, 2) := by decide +kernel
theorem dX6_dances_117 : decode cX6_dances 117 = .ok (.ifCond .ne 7, 3) := by decide +kernel
theorem dX6_dances_120 : decode cX6_dances 120 = .ok (.iconst 1, 1) := by decide +kernel
theorem dX6_dances_121 : decode cX6_dances 121 = .ok (.goto 5, 3) := by decide +kernel
theorem dX6_dances_124 : decode cX6_dances 124 = .ok (.iload 5, 2) := by decide +kernel
theorem dX6_dances_126 : decode cX6_dances 126 = .ok (.ireturn, 1) := by decide +kernel
theorem dX6_dances_127 : decode cX6_dances 127 = .ok (.aload_n 0, 1) := by decide +kernel
theorem dX6_dances_128 : decode cX6_dances 128 = .ok (.iload_n 1, 1) := by decide +kernel
theorem dX6_dances_129 : decode cX6_dances 129 = .ok (.iload_n 2, 1) := by decide +kernel
theorem dX6_dances_130 : decode cX6_dances 130 = .ok (.iload_n 3, 1) := by decide +kernel
theorem dX6_dances_131 : decode cX6_dances 131 = .ok (.invokevirtual 193, 3) := by decide +kernel
theorem dX6_dances_134 : decode cX6_dances 134 = .ok (.istore 5, 2) := by decide +kernel
theorem dX6_dances_136 : decode cX6_dances 136 = .ok (.iload 5, 2) := by decide +kernel
theorem dX6_dances_138 : decode cX6_dances 138 = .ok (.ifCond .lt 15, 3) := by decide +kernel
theorem dX6_dances_141 : decode cX6_dances 141 = .ok (.iload 4, 2) := by decide +kernel
theorem dX6_dances_143 : decode cX6_dances 143 = .ok (.ifCond .ne 7, 3) := by decide +kernel
theorem dX6_dances_146 : decode cX6_dances 146 = .ok (.iconst 2, 1) := by decide +kernel
theorem dX6_dances_147 : decode cX6_dances 147 = .ok (.goto 5, 3) := by decide +kernel
theorem dX6_dances_150 : decode cX6_dances 150 = .ok (.iload 5, 2) := by decide +kernel
theorem dX6_dances_152 : decode cX6_dances 152 = .ok (.ireturn, 1) := by decide +kernel
theorem dX6_dances_153 : decode cX6_dances 153 = .ok (.aload_n 0, 1) := by decide +kernel
theorem dX6_dances_154 : decode cX6_dances 154 = .ok (.iconst 2, 1) := by decide +kernel
theorem dX6_dances_155 : decode cX6_dances 155 = .ok (.invokevirtual 66, 3) := by decide +kernel
theorem dX6_dances_158 : decode cX6_dances 158 = .ok (.ireturn, 1) := by decide +kernel
theorem dX6_whoDanced_0 : decode cX6_whoDanced 0 = .ok (.iload_n 1, 1) := by decide +kernel
theorem dX6_whoDanced_1 : decode cX6_whoDanced 1 = .ok (.invokestatic 196, 3) := by decide +kernel
theorem dX6_whoDanced_4 : decode cX6_whoDanced 4 = .ok (.ifCond .eq 12, 3) := by decide +kernel
theorem dX6_whoDanced_7 : decode cX6_whoDanced 7 = .ok (.iload_n 2, 1) := by decide +kernel
theorem dX6_whoDanced_8 : decode cX6_whoDanced 8 = .ok (.iconst 0, 1) := by decide +kernel
theorem dX6_whoDanced_9 : decode cX6_whoDanced 9 = .ok (.iconst 1, 1) := by decide +kernel
theorem dX6_whoDanced_10 : decode cX6_whoDanced 10 = .ok (.invokestatic 62, 3) := by decide +kernel
theorem dX6_whoDanced_13 : decode cX6_whoDanced 13 = .ok (.ifCond .ne 9, 3) := by decide +kernel
theorem dX6_whoDanced_16 : decode cX6_whoDanced 16 = .ok (.aload_n 0, 1) := by decide +kernel
theorem dX6_whoDanced_17 : decode cX6_whoDanced 17 = .ok (.iconst 1, 1) := by decide +kernel
theorem dX6_whoDanced_18 : decode cX6_whoDanced 18 = .ok (.invokevirtual 66, 3) := by decide +kernel
theorem dX6_whoDanced_21 : decode cX6_whoDanced 21 = .ok (.ireturn, 1) := by decide +kernel
theorem dX6_whoDanced_22 : decode cX6_whoDanced 22 = .ok (.aload_n 0, 1) := by decide +kernel
theorem dX6_whoDanced_23 : decode cX6_whoDanced 23 = .ok (.getfield 50, 3) := by decide +kernel
theorem dX6_whoDanced_26 : decode cX6_whoDanced 26 = .ok (.iload_n 1, 1) := by decide +kernel
theorem dX6_whoDanced_27 : decode cX6_whoDanced 27 = .ok (.aaload, 1) := by decide +kernel
theorem dX6_whoDanced_28 : decode cX6_whoDanced 28 = .ok (.astore_n 3, 1) := by decide +kernel
theorem dX6_whoDanced_29 : decode cX6_whoDanced 29 = .ok (.aload_n 3, 1) := by decide +kernel
theorem dX6_whoDanced_30 : decode cX6_whoDanced 30 = .ok (.getfield 199, 3) := by decide +kernel
theorem dX6_whoDanced_33 : decode cX6_whoDanced 33 = .ok (.ifCond .eq 20, 3) := by decide +kernel
theorem dX6_whoDanced_36 : decode cX6_whoDanced 36 = .ok (.aload_n 3, 1) := by decide +kernel
theorem dX6_whoDanced_37 : decode cX6_whoDanced 37 = .ok (.getfield 202, 3) := by decide +kernel
theorem dX6_whoDanced_40 : decode cX6_whoDanced 40 = .ok (.aload_n 0, 1) := by decide +kernel
theorem dX6_whoDanced_41 : decode cX6_whoDanced 41 = .ok (.getfield 10, 3) := by decide +kernel
theorem dX6_whoDanced_44 : decode cX6_whoDanced 44 = .ok (.getfield 70, 3) := by decide +kernel
theorem dX6_whoDanced_47 : decode cX6_whoDanced 47 = .ok (.getfield 73, 3) := by decide +kernel
theorem dX6_whoDanced_50 : decode cX6_whoDanced 50 = .ok (.if_icmp .eq 9, 3) := by decide +kernel
theorem dX6_whoDanced_53 : decode cX6_whoDanced 53 = .ok (.aload_n 0, 1) := by decide +kernel
theorem dX6_whoDanced_54 : decode cX6_whoDanced 54 = .ok (.iconst 2, 1) := by decide +kernel
theorem dX6_whoDanced_55 : decode cX6_whoDanced 55 = .ok (.invokevirtual 66, 3) := by decide +kernel
theorem dX6_whoDanced_58 : decode cX6_whoDanced 58 = .ok (.ireturn, 1) := by decide +kernel
theorem dX6_whoDanced_59 : decode cX6_whoDanced 59 = .ok (.iconst 0, 1) := by decide +kernel
theorem dX6_whoDanced_60 : decode cX6_whoDanced 60 = .ok (.istore 4, 2) := by decide +kernel
theorem dX6_whoDanced_62 : decode cX6_whoDanced 62 = .ok (.iconst (-1), 1) := by decide +kernel
theorem dX6_whoDanced_63 : decode cX6_whoDanced 63 = .ok (.istore 5, 2) := by decide +kernel
theorem dX6_whoDanced_65 : decode cX6_whoDanced 65 = .ok (.iconst 0, 1) := by decide +kernel
theorem dX6_whoDanced_66 : decode cX6_whoDanced 66 = .ok (.istore 6, 2) := by decide +kernel
theorem dX6_whoDanced_68 : decode cX6_whoDanced 68 = .ok (.iload 6, 2) := by decide +kernel
theorem dX6_whoDanced_70 : decode cX6_whoDanced 70 = .ok (.aload_n 0, 1) := by decide +kernel
theorem dX6_whoDanced_71 : decode cX6_whoDanced 71 = .ok (.getfield 10, 3) := by decide +kernel
theorem dX6_whoDanced_74 : decode cX6_whoDanced 74 = .ok (.getfield 70, 3) := by decide +kernel
theorem dX6_whoDanced_77 : decode cX6_whoDanced 77 = .ok (.getfield 73, 3) := by decide +kernel
theorem dX6_whoDanced_80 : decode cX6_whoDanced 80 = .ok (.if_icmp .ge 102, 3) := by decide +kernel
theorem dX6_whoDanced_83 : decode cX6_whoDanced 83 = .ok (.iload 6, 2) := by decide +kernel
theorem dX6_whoDanced_85 : decode cX6_whoDanced 85 = .ok (.iconst 1, 1) := by decide +kernel
theorem dX6_whoDanced_86 : decode cX6_whoDanced 86 = .ok (.iadd, 1) := by decide +kernel
theorem dX6_whoDanced_87 : decode cX6_whoDanced 87 = .ok (.istore 7, 2) := by decide +kernel
theorem dX6_whoDanced_89 : decode cX6_whoDanced 89 = .ok (.iload 7, 2) := by decide +kernel
theorem dX6_whoDanced_91 : decode cX6_whoDanced 91 = .ok (.aload_n 0, 1) := by decide +kernel
theorem dX6_whoDanced_92 : decode cX6_whoDanced 92 = .ok (.getfield 10, 3) := by decide +kernel
theorem dX6_whoDanced_95 : decode cX6_whoDanced 95 = .ok (.getfield 70, 3) := by decide +kernel
theorem dX6_whoDanced_98 : decode cX6_whoDanced 98 = .ok (.getfield 73, 3) := by decide +kernel
theorem dX6_whoDanced_101 : decode cX6_whoDanced 101 = .ok (.if_icmp .ge 75, 3) := by decide +kernel
theorem dX6_whoDanced_104 : decode cX6_whoDanced 104 = .ok (.aload_n 0, 1) := by decide +kernel
theorem dX6_whoDanced_105 : decode cX6_whoDanced 105 = .ok (.getfield 26, 3) := by decide +kernel
theorem dX6_whoDanced_108 : decode cX6_whoDanced 108 = .ok (.aload_n 0, 1) := by decide +kernel
theorem dX6_whoDanced_109 : decode cX6_whoDanced 109 = .ok (.getfield 10, 3) := by decide +kernel
theorem dX6_whoDanced_112 : decode cX6_whoDanced 112 = .ok (.getfield 70, 3) := by decide +kernel
theorem dX6_whoDanced_115 : decode cX6_whoDanced 115 = .ok (.invokevirtual 179, 3) := by decide +kernel
theorem dX6_whoDanced_118 : decode cX6_whoDanced 118 = .ok (.aload_n 0, 1) := by decide +kernel
theorem dX6_whoDanced_119 : decode cX6_whoDanced 119 = .ok (.getfield 26, 3) := by decide +kernel
theorem dX6_whoDanced_122 : decode cX6_whoDanced 122 = .ok (.iload 6, 2) := by decide +kernel
theorem dX6_whoDanced_124 : decode cX6_whoDanced 124 = .ok (.iload 7, 2) := by decide +kernel
theorem dX6_whoDanced_126 : decode cX6_whoDanced 126 = .ok (.aload_n 0, 1) := by decide +kernel
theorem dX6_whoDanced_127 : decode cX6_whoDanced 127 = .ok (.getfield 10, 3) := by decide +kernel
theorem dX6_whoDanced_130 : decode cX6_whoDanced 130 = .ok (.getfield 154, 3) := by decide +kernel
theorem dX6_whoDanced_133 : decode cX6_whoDanced 133 = .ok (.invokevirtual 158, 3) := by decide +kernel
theorem dX6_whoDanced_136 : decode cX6_whoDanced 136 = .ok (.aload_n 3, 1) := by decide +kernel
theorem dX6_whoDanced_137 : decode cX6_whoDanced 137 = .ok (.aload_n 0, 1) := by decide +kernel
theorem dX6_whoDanced_138 : decode cX6_whoDanced 138 = .ok (.getfield 26, 3) := by decide +kernel
theorem dX6_whoDanced_141 : decode cX6_whoDanced 141 = .ok (.invokevirtual 203, 3) := by decide +kernel
theorem dX6_whoDanced_144 : decode cX6_whoDanced 144 = .ok (.ifCond .eq 26, 3) := by decide +kernel
theorem dX6_whoDanced_147 : decode cX6_whoDanced 147 = .ok (.iload 4, 2) := by decide +kernel
theorem dX6_whoDanced_149 : decode cX6_whoDanced 149 = .ok (.ifCond .ne 14, 3) := by decide +kernel
theorem dX6_whoDanced_152 : decode cX6_whoDanced 152 = .ok (.bipush 10, 2) := by decide +kernel
theorem dX6_whoDanced_154 : decode cX6_whoDanced 154 = .ok (.iload 6, 2) := by decide +kernel
theorem dX6_whoDanced_156 : decode cX6_whoDanced 156 = .ok (.imul, 1) := by decide +kernel
theorem dX6_whoDanced_157 : decode cX6_whoDanced 157 = .ok (.iload 7, 2) := by decide +kernel
theorem dX6_whoDanced_159 : decode cX6_whoDanced 159 = .ok (.iadd, 1) := by decide +kernel
theorem dX6_whoDanced_160 : decode cX6_whoDanced 160 = .ok (.goto 5, 3) := by decide +kernel
theorem dX6_whoDanced_163 : decode cX6_whoDanced 163 = .ok (.iload 5, 2) := by decide +kernel
theorem dX6_whoDanced_165 : decode cX6_whoDanced 165 = .ok (.istore 5, 2) := by decide +kernel
theorem dX6_whoDanced_167 : decode cX6_whoDanced 167 = .ok (.iinc 4 1, 3) := by decide +kernel
theorem dX6_whoDanced_170 : decode cX6_whoDanced 170 = .ok (.iinc 7 1, 3) := by decide +kernel
theorem dX6_whoDanced_173 : decode cX6_whoDanced 173 = .ok (.goto (-84), 3) := by decide +kernel
theorem dX6_whoDanced_176 : decode cX6_whoDanced 176 = .ok (.iinc 6 1, 3) := by decide +kernel
theorem dX6_whoDanced_179 : decode cX6_whoDanced 179 = .ok (.goto (-111), 3) := by decide +kernel
theorem dX6_whoDanced_182 : decode cX6_whoDanced 182 = .ok (.iload_n 2, 1) := by decide +kernel
theorem dX6_whoDanced_183 : decode cX6_whoDanced 183 = .ok (.ifCond .ne 6, 3) := by decide +kernel
theorem dX6_whoDanced_186 : decode cX6_whoDanced 186 = .ok (.iload 4, 2) := by decide +kernel
theorem dX6_whoDanced_188 : decode cX6_whoDanced 188 = .ok (.ireturn, 1) := by decide +kernel
theorem dX6_whoDanced_189 : decode cX6_whoDanced 189 = .ok (.iload 4, 2) := by decide +kernel
theorem dX6_whoDanced_191 : decode cX6_whoDanced 191 = .ok (.ifCond .ne 11, 3) := by decide +kernel
theorem dX6_whoDanced_194 : decode cX6_whoDanced 194 = .ok (.aload_n 0, 1) := by decide +kernel
theorem dX6_whoDanced_195 : decode cX6_whoDanced 195 = .ok (.iconst 2, 1) := by decide +kernel
theorem dX6_whoDanced_196 : decode cX6_whoDanced 196 = .ok (.invokevirtual 66, 3) := by decide +kernel
theorem dX6_whoDanced_199 : decode cX6_whoDanced 199 = .ok (.goto 5, 3) := by decide +kernel
theorem dX6_whoDanced_202 : decode cX6_whoDanced 202 = .ok (.iload 5, 2) := by decide +kernel
theorem dX6_whoDanced_204 : decode cX6_whoDanced 204 = .ok (.ireturn, 1) := by decide +kernel
theorem dX6_inOrder_0 : decode cX6_inOrder 0 = .ok (.aload_n 0, 1) := by decide +kernel
theorem dX6_inOrder_1 : decode cX6_inOrder 1 = .ok (.getfield 26, 3) := by decide +kernel
theorem dX6_inOrder_4 : decode cX6_inOrder 4 = .ok (.aload_n 0, 1) := by decide +kernel
theorem dX6_inOrder_5 : decode cX6_inOrder 5 = .ok (.getfield 10, 3) := by decide +kernel
theorem dX6_inOrder_8 : decode cX6_inOrder 8 = .ok (.getfield 70, 3) := by decide +kernel
theorem dX6_inOrder_11 : decode cX6_inOrder 11 = .ok (.invokevirtual 179, 3) := by decide +kernel
theorem dX6_inOrder_14 : decode cX6_inOrder 14 = .ok (.iconst 0, 1) := by decide +kernel
theorem dX6_inOrder_15 : decode cX6_inOrder 15 = .ok (.istore_n 1, 1) := by decide +kernel
theorem dX6_inOrder_16 : decode cX6_inOrder 16 = .ok (.iload_n 1, 1) := by decide +kernel
theorem dX6_inOrder_17 : decode cX6_inOrder 17 = .ok (.bipush 60, 2) := by decide +kernel
theorem dX6_inOrder_19 : decode cX6_inOrder 19 = .ok (.if_icmp .gt 36, 3) := by decide +kernel
theorem dX6_inOrder_22 : decode cX6_inOrder 22 = .ok (.aload_n 0, 1) := by decide +kernel
theorem dX6_inOrder_23 : decode cX6_inOrder 23 = .ok (.getfield 26, 3) := by decide +kernel
theorem dX6_inOrder_26 : decode cX6_inOrder 26 = .ok (.invokevirtual 207, 3) := by decide +kernel
theorem dX6_inOrder_29 : decode cX6_inOrder 29 = .ok (.ifCond .ne 5, 3) := by decide +kernel
theorem dX6_inOrder_32 : decode cX6_inOrder 32 = .ok (.iload_n 1, 1) := by decide +kernel
theorem dX6_inOrder_33 : decode cX6_inOrder 33 = .ok (.ireturn, 1) := by decide +kernel
theorem dX6_inOrder_34 : decode cX6_inOrder 34 = .ok (.aload_n 0, 1) := by decide +kernel
theorem dX6_inOrder_35 : decode cX6_inOrder 35 = .ok (.getfield 26, 3) := by decide +kernel
theorem dX6_inOrder_38 : decode cX6_inOrder 38 = .ok (.iconst 1, 1) := by decide +kernel
theorem dX6_inOrder_39 : decode cX6_inOrder 39 = .ok (.aload_n 0, 1) := by decide +kernel
theorem dX6_inOrder_40 : decode cX6_inOrder 40 = .ok (.getfield 10, 3) := by decide +kernel
theorem dX6_inOrder_43 : decode cX6_inOrder 43 = .ok (.getfield 165, 3) := by decide +kernel
theorem dX6_inOrder_46 : decode cX6_inOrder 46 = .ok (.invokevirtual 168, 3) := by decide +kernel
theorem dX6_inOrder_49 : decode cX6_inOrder 49 = .ok (.iinc 1 1, 3) := by decide +kernel
theorem dX6_inOrder_52 : decode cX6_inOrder 52 = .ok (.goto (-36), 3) := by decide +kernel
theorem dX6_inOrder_55 : decode cX6_inOrder 55 = .ok (.aload_n 0, 1) := by decide +kernel
theorem dX6_inOrder_56 : decode cX6_inOrder 56 = .ok (.iconst 2, 1) := by decide +kernel
theorem dX6_inOrder_57 : decode cX6_inOrder 57 = .ok (.invokevirtual 66, 3) := by decide +kernel
theorem dX6_inOrder_60 : decode cX6_inOrder 60 = .ok (.ireturn, 1) := by decide +kernel
theorem dX6_wrongs_0 : decode cX6_wrongs 0 = .ok (.aload_n 0, 1) := by decide +kernel
theorem dX6_wrongs_1 : decode cX6_wrongs 1 = .ok (.getfield 10, 3) := by decide +kernel
theorem dX6_wrongs_4 : decode cX6_wrongs 4 = .ok (.getfield 70, 3) := by decide +kernel
theorem dX6_wrongs_7 : decode cX6_wrongs 7 = .ok (.invokevirtual 207, 3) := by decide +kernel
theorem dX6_wrongs_10 : decode cX6_wrongs 10 = .ok (.ireturn, 1) := by decide +kernel
theorem dX6_swap_0 : decode cX6_swap 0 = .ok (.aload_n 0, 1) := by decide +kernel
theorem dX6_swap_1 : decode cX6_swap 1 = .ok (.getfield 10, 3) := by decide +kernel
theorem dX6_swap_4 : decode cX6_swap 4 = .ok (.getfield 70, 3) := by decide +kernel
theorem dX6_swap_7 : decode cX6_swap 7 = .ok (.invokevirtual 207, 3) := by decide +kernel
theorem dX6_swap_10 : decode cX6_swap 10 = .ok (.istore_n 1, 1) := by decide +kernel
theorem dX6_swap_11 : decode cX6_swap 11 = .ok (.iconst (-1), 1) := by decide +kernel
theorem dX6_swap_12 : decode cX6_swap 12 = .ok (.istore_n 2, 1) := by decide +kernel
theorem dX6_swap_13 : decode cX6_swap 13 = .ok (.iconst 0, 1) := by decide +kernel
theorem dX6_swap_14 : decode cX6_swap 14 = .ok (.istore_n 3, 1) := by decide +kernel
theorem dX6_swap_15 : decode cX6_swap 15 = .ok (.iload_n 3, 1) := by decide +kernel
theorem dX6_swap_16 : decode cX6_swap 16 = .ok (.aload_n 0, 1) := by decide +kernel
theorem dX6_swap_17 : decode cX6_swap 17 = .ok (.getfield 10, 3) := by decide +kernel
theorem dX6_swap_20 : decode cX6_swap 20 = .ok (.getfield 70, 3) := by decide +kernel
theorem dX6_swap_23 : decode cX6_swap 23 = .ok (.getfield 73, 3) := by decide +kernel
theorem dX6_swap_26 : decode cX6_swap 26 = .ok (.if_icmp .ge 99, 3) := by decide +kernel
theorem dX6_swap_29 : decode cX6_swap 29 = .ok (.iload_n 3, 1) := by decide +kernel
theorem dX6_swap_30 : decode cX6_swap 30 = .ok (.iconst 1, 1) := by decide +kernel
theorem dX6_swap_31 : decode cX6_swap 31 = .ok (.iadd, 1) := by decide +kernel
theorem dX6_swap_32 : decode cX6_swap 32 = .ok (.istore 4, 2) := by decide +kernel
theorem dX6_swap_34 : decode cX6_swap 34 = .ok (.iload 4, 2) := by decide +kernel
theorem dX6_swap_36 : decode cX6_swap 36 = .ok (.aload_n 0, 1) := by decide +kernel
theorem dX6_swap_37 : decode cX6_swap 37 = .ok (.getfield 10, 3) := by decide +kernel
theorem dX6_swap_40 : decode cX6_swap 40 = .ok (.getfield 70, 3) := by decide +kernel
theorem dX6_swap_43 : decode cX6_swap 43 = .ok (.getfield 73, 3) := by decide +kernel
theorem dX6_swap_46 : decode cX6_swap 46 = .ok (.if_icmp .ge 73, 3) := by decide +kernel
theorem dX6_swap_49 : decode cX6_swap 49 = .ok (.aload_n 0, 1) := by decide +kernel
theorem dX6_swap_50 : decode cX6_swap 50 = .ok (.getfield 26, 3) := by decide +kernel
theorem dX6_swap_53 : decode cX6_swap 53 = .ok (.aload_n 0, 1) := by decide +kernel
theorem dX6_swap_54 : decode cX6_swap 54 = .ok (.getfield 10, 3) := by decide +kernel
theorem dX6_swap_57 : decode cX6_swap 57 = .ok (.getfield 70, 3) := by decide +kernel
theorem dX6_swap_60 : decode cX6_swap 60 = .ok (.invokevirtual 179, 3) := by decide +kernel
theorem dX6_swap_63 : decode cX6_swap 63 = .ok (.aload_n 0, 1) := by decide +kernel
theorem dX6_swap_64 : decode cX6_swap 64 = .ok (.getfield 26, 3) := by decide +kernel
theorem dX6_swap_67 : decode cX6_swap 67 = .ok (.aload_n 0, 1) := by decide +kernel
theorem dX6_swap_68 : decode cX6_swap 68 = .ok (.getfield 26, 3) := by decide +kernel
theorem dX6_swap_71 : decode cX6_swap 71 = .ok (.iload_n 3, 1) := by decide +kernel
theorem dX6_swap_72 : decode cX6_swap 72 = .ok (.invokevirtual 98, 3) := by decide +kernel
theorem dX6_swap_75 : decode cX6_swap 75 = .ok (.aload_n 0, 1) := by decide +kernel
theorem dX6_swap_76 : decode cX6_swap 76 = .ok (.getfield 26, 3) := by decide +kernel
theorem dX6_swap_79 : decode cX6_swap 79 = .ok (.iload 4, 2) := by decide +kernel
theorem dX6_swap_81 : decode cX6_swap 81 = .ok (.invokevirtual 98, 3) := by decide +kernel
theorem dX6_swap_84 : decode cX6_swap 84 = .ok (.invokevirtual 114, 3) := by decide +kernel
theorem dX6_swap_87 : decode cX6_swap 87 = .ok (.aload_n 0, 1) := by decide +kernel
theorem dX6_swap_88 : decode cX6_swap 88 = .ok (.getfield 26, 3) := by decide +kernel
theorem dX6_swap_91 : decode cX6_swap 91 = .ok (.invokevirtual 207, 3) := by decide +kernel
theorem dX6_swap_94 : decode cX6_swap 94 = .ok (.istore 5, 2) := by decide +kernel
theorem dX6_swap_96 : decode cX6_swap 96 = .ok (.iload 5, 2) := by decide +kernel
theorem dX6_swap_98 : decode cX6_swap 98 = .ok (.iload_n 1, 1) := by decide +kernel
theorem dX6_swap_99 : decode cX6_swap 99 = .ok (.if_icmp .ge 14, 3) := by decide +kernel
theorem dX6_swap_102 : decode cX6_swap 102 = .ok (.iload 5, 2) := by decide +kernel
theorem dX6_swap_104 : decode cX6_swap 104 = .ok (.istore_n 1, 1) := by decide +kernel
theorem dX6_swap_105 : decode cX6_swap 105 = .ok (.bipush 10, 2) := by decide +kernel
theorem dX6_swap_107 : decode cX6_swap 107 = .ok (.iload_n 3, 1) := by decide +kernel
theorem dX6_swap_108 : decode cX6_swap 108 = .ok (.imul, 1) := by decide +kernel
theorem dX6_swap_109 : decode cX6_swap 109 = .ok (.iload 4, 2) := by decide +kernel
theorem dX6_swap_111 : decode cX6_swap 111 = .ok (.iadd, 1) := by decide +kernel
theorem dX6_swap_112 : decode cX6_swap 112 = .ok (.istore_n 2, 1) := by decide +kernel
theorem dX6_swap_113 : decode cX6_swap 113 = .ok (.iinc 4 1, 3) := by decide +kernel
theorem dX6_swap_116 : decode cX6_swap 116 = .ok (.goto (-82), 3) := by decide +kernel
theorem dX6_swap_119 : decode cX6_swap 119 = .ok (.iinc 3 1, 3) := by decide +kernel
theorem dX6_swap_122 : decode cX6_swap 122 = .ok (.goto (-107), 3) := by decide +kernel
theorem dX6_swap_125 : decode cX6_swap 125 = .ok (.iload_n 2, 1) := by decide +kernel
theorem dX6_swap_126 : decode cX6_swap 126 = .ok (.ireturn, 1) := by decide +kernel
theorem dX6_go_0 : decode cX6_go 0 = .ok (.aload_n 0, 1) := by decide +kernel
theorem dX6_go_1 : decode cX6_go 1 = .ok (.iload_n 1, 1) := by decide +kernel
theorem dX6_go_2 : decode cX6_go 2 = .ok (.invokevirtual 80, 3) := by decide +kernel
theorem dX6_go_5 : decode cX6_go 5 = .ok (.ifCond .eq 13, 3) := by decide +kernel
theorem dX6_go_8 : decode cX6_go 8 = .ok (.iload_n 2, 1) := by decide +kernel
theorem dX6_go_9 : decode cX6_go 9 = .ok (.iconst 0, 1) := by decide +kernel
theorem dX6_go_10 : decode cX6_go 10 = .ok (.bipush 20, 2) := by decide +kernel
theorem dX6_go_12 : decode cX6_go 12 = .ok (.invokestatic 62, 3) := by decide +kernel
theorem dX6_go_15 : decode cX6_go 15 = .ok (.ifCond .ne 9, 3) := by decide +kernel
theorem dX6_go_18 : decode cX6_go 18 = .ok (.aload_n 0, 1) := by decide +kernel
theorem dX6_go_19 : decode cX6_go 19 = .ok (.iconst 1, 1) := by decide +kernel
theorem dX6_go_20 : decode cX6_go 20 = .ok (.invokevirtual 66, 3) := by decide +kernel
theorem dX6_go_23 : decode cX6_go 23 = .ok (.ireturn, 1) := by decide +kernel
theorem dX6_go_24 : decode cX6_go 24 = .ok (.iconst (-1), 1) := by decide +kernel
theorem dX6_go_25 : decode cX6_go 25 = .ok (.istore_n 3, 1) := by decide +kernel
theorem dX6_go_26 : decode cX6_go 26 = .ok (.bipush 7, 2) := by decide +kernel
theorem dX6_go_28 : decode cX6_go 28 = .ok (.istore 4, 2) := by decide +kernel
theorem dX6_go_30 : decode cX6_go 30 = .ok (.iconst 0, 1) := by decide +kernel
theorem dX6_go_31 : decode cX6_go 31 = .ok (.istore 5, 2) := by decide +kernel
theorem dX6_go_33 : decode cX6_go 33 = .ok (.iload 5, 2) := by decide +kernel
theorem dX6_go_35 : decode cX6_go 35 = .ok (.aload_n 0, 1) := by decide +kernel
theorem dX6_go_36 : decode cX6_go 36 = .ok (.getfield 10, 3) := by decide +kernel
theorem dX6_go_39 : decode cX6_go 39 = .ok (.getfield 70, 3) := by decide +kernel
theorem dX6_go_42 : decode cX6_go 42 = .ok (.getfield 73, 3) := by decide +kernel
theorem dX6_go_45 : decode cX6_go 45 = .ok (.if_icmp .ge 79, 3) := by decide +kernel
theorem dX6_go_48 : decode cX6_go 48 = .ok (.iload 5, 2) := by decide +kernel
theorem dX6_go_50 : decode cX6_go 50 = .ok (.iload_n 1, 1) := by decide +kernel
theorem dX6_go_51 : decode cX6_go 51 = .ok (.if_icmp .eq 67, 3) := by decide +kernel
theorem dX6_go_54 : decode cX6_go 54 = .ok (.aload_n 0, 1) := by decide +kernel
theorem dX6_go_55 : decode cX6_go 55 = .ok (.getfield 26, 3) := by decide +kernel
theorem dX6_go_58 : decode cX6_go 58 = .ok (.aload_n 0, 1) := by decide +kernel
theorem dX6_go_59 : decode cX6_go 59 = .ok (.getfield 10, 3) := by decide +kernel
theorem dX6_go_62 : decode cX6_go 62 = .ok (.getfield 70, 3) := by decide +kernel
theorem dX6_go_65 : decode cX6_go 65 = .ok (.invokevirtual 179, 3) := by decide +kernel
theorem dX6_go_68 : decode cX6_go 68 = .ok (.aload_n 0, 1) := by decide +kernel
theorem dX6_go_69 : decode cX6_go 69 = .ok (.getfield 26, 3) := by decide +kernel
theorem dX6_go_72 : decode cX6_go 72 = .ok (.getfield 89, 3) := by decide +kernel
theorem dX6_go_75 : decode cX6_go 75 = .ok (.iload 5, 2) := by decide +kernel
theorem dX6_go_77 : decode cX6_go 77 = .ok (.iconst 0, 1) := by decide +kernel
theorem dX6_go_78 : decode cX6_go 78 = .ok (.iastore, 1) := by decide +kernel
theorem dX6_go_79 : decode cX6_go 79 = .ok (.aload_n 0, 1) := by decide +kernel
theorem dX6_go_80 : decode cX6_go 80 = .ok (.getfield 26, 3) := by decide +kernel
theorem dX6_go_83 : decode cX6_go 83 = .ok (.iload_n 2, 1) := by decide +kernel
theorem dX6_go_84 : decode cX6_go 84 = .ok (.aload_n 0, 1) := by decide +kernel
theorem dX6_go_85 : decode cX6_go 85 = .ok (.getfield 10, 3) := by decide +kernel
theorem dX6_go_88 : decode cX6_go 88 = .ok (.getfield 165, 3) := by decide +kernel
theorem dX6_go_91 : decode cX6_go 91 = .ok (.invokevirtual 168, 3) := by decide +kernel
theorem dX6_go_94 : decode cX6_go 94 = .ok (.aload_n 0, 1) := by decide +kernel
theorem dX6_go_95 : decode cX6_go 95 = .ok (.getfield 26, 3) := by decide +kernel
theorem dX6_go_98 : decode cX6_go 98 = .ok (.iload_n 1, 1) := by decide +kernel
theorem dX6_go_99 : decode cX6_go 99 = .ok (.invokevirtual 98, 3) := by decide +kernel
theorem dX6_go_102 : decode cX6_go 102 = .ok (.istore 6, 2) := by decide +kernel
theorem dX6_go_104 : decode cX6_go 104 = .ok (.iload 6, 2) := by decide +kernel
theorem dX6_go_106 : decode cX6_go 106 = .ok (.iload 4, 2) := by decide +kernel
theorem dX6_go_108 : decode cX6_go 108 = .ok (.if_icmp .ge 10, 3) := by decide +kernel
theorem dX6_go_111 : decode cX6_go 111 = .ok (.iload 6, 2) := by decide +kernel
theorem dX6_go_113 : decode cX6_go 113 = .ok (.istore 4, 2) := by decide +kernel
theorem dX6_go_115 : decode cX6_go 115 = .ok (.iload 5, 2) := by decide +kernel
theorem dX6_go_117 : decode cX6_go 117 = .ok (.istore_n 3, 1) := by decide +kernel
theorem dX6_go_118 : decode cX6_go 118 = .ok (.iinc 5 1, 3) := by decide +kernel
theorem dX6_go_121 : decode cX6_go 121 = .ok (.goto (-88), 3) := by decide +kernel
theorem dX6_go_124 : decode cX6_go 124 = .ok (.iload_n 3, 1) := by decide +kernel
theorem dX6_go_125 : decode cX6_go 125 = .ok (.iconst (-1), 1) := by decide +kernel
theorem dX6_go_126 : decode cX6_go 126 = .ok (.if_icmp .ne 11, 3) := by decide +kernel
theorem dX6_go_129 : decode cX6_go 129 = .ok (.aload_n 0, 1) := by decide +kernel
theorem dX6_go_130 : decode cX6_go 130 = .ok (.iconst 2, 1) := by decide +kernel
theorem dX6_go_131 : decode cX6_go 131 = .ok (.invokevirtual 66, 3) := by decide +kernel
theorem dX6_go_134 : decode cX6_go 134 = .ok (.goto 4, 3) := by decide +kernel
theorem dX6_go_137 : decode cX6_go 137 = .ok (.iload_n 3, 1) := by decide +kernel
theorem dX6_go_138 : decode cX6_go 138 = .ok (.ireturn, 1) := by decide +kernel
theorem dX6_allRue_0 : decode cX6_allRue 0 = .ok (.iload_n 1, 1) := by decide +kernel
theorem dX6_allRue_1 : decode cX6_allRue 1 = .ok (.iconst 0, 1) := by decide +kernel
theorem dX6_allRue_2 : decode cX6_allRue 2 = .ok (.bipush 60, 2) := by decide +kernel
theorem dX6_allRue_4 : decode cX6_allRue 4 = .ok (.invokestatic 62, 3) := by decide +kernel
theorem dX6_allRue_7 : decode cX6_allRue 7 = .ok (.ifCond .ne 9, 3) := by decide +kernel
theorem dX6_allRue_10 : decode cX6_allRue 10 = .ok (.aload_n 0, 1) := by decide +kernel
theorem dX6_allRue_11 : decode cX6_allRue 11 = .ok (.iconst 1, 1) := by decide +kernel
theorem dX6_allRue_12 : decode cX6_allRue 12 = .ok (.invokevirtual 66, 3) := by decide +kernel
theorem dX6_allRue_15 : decode cX6_allRue 15 = .ok (.ireturn, 1) := by decide +kernel
theorem dX6_allRue_16 : decode cX6_allRue 16 = .ok (.aload_n 0, 1) := by decide +kernel
theorem dX6_allRue_17 : decode cX6_allRue 17 = .ok (.getfield 26, 3) := by decide +kernel
theorem dX6_allRue_20 : decode cX6_allRue 20 = .ok (.aload_n 0, 1) := by decide +kernel
theorem dX6_allRue_21 : decode cX6_allRue 21 = .ok (.getfield 10, 3) := by decide +kernel
theorem dX6_allRue_24 : decode cX6_allRue 24 = .ok (.getfield 70, 3) := by decide +kernel
theorem dX6_allRue_27 : decode cX6_allRue 27 = .ok (.invokevirtual 179, 3) := by decide +kernel
theorem dX6_allRue_30 : decode cX6_allRue 30 = .ok (.aload_n 0, 1) := by decide +kernel
theorem dX6_allRue_31 : decode cX6_allRue 31 = .ok (.getfield 26, 3) := by decide +kernel
theorem dX6_allRue_34 : decode cX6_allRue 34 = .ok (.iload_n 1, 1) := by decide +kernel
theorem dX6_allRue_35 : decode cX6_allRue 35 = .ok (.aload_n 0, 1) := by decide +kernel
theorem dX6_allRue_36 : decode cX6_allRue 36 = .ok (.getfield 10, 3) := by decide +kernel
theorem dX6_allRue_39 : decode cX6_allRue 39 = .ok (.getfield 165, 3) := by decide +kernel
theorem dX6_allRue_42 : decode cX6_allRue 42 = .ok (.invokevirtual 168, 3) := by decide +kernel
theorem dX6_allRue_45 : decode cX6_allRue 45 = .ok (.aload_n 0, 1) := by decide +kernel
theorem dX6_allRue_46 : decode cX6_allRue 46 = .ok (.getfield 26, 3) := by decide +kernel
theorem dX6_allRue_49 : decode cX6_allRue 49 = .ok (.invokevirtual 172, 3) := by decide +kernel
theorem dX6_allRue_52 : decode cX6_allRue 52 = .ok (.ireturn, 1) := by decide +kernel
theorem dX6_sorriest_0 : decode cX6_sorriest 0 = .ok (.iload_n 1, 1) := by decide +kernel
theorem dX6_sorriest_1 : decode cX6_sorriest 1 = .ok (.iconst 0, 1) := by decide +kernel
theorem dX6_sorriest_2 : decode cX6_sorriest 2 = .ok (.bipush 60, 2) := by decide +kernel
theorem dX6_sorriest_4 : decode cX6_sorriest 4 = .ok (.invokestatic 62, 3) := by decide +kernel
theorem dX6_sorriest_7 : decode cX6_sorriest 7 = .ok (.ifCond .eq 12, 3) := by decide +kernel
theorem dX6_sorriest_10 : decode cX6_sorriest 10 = .ok (.iload_n 2, 1) := by decide +kernel
theorem dX6_sorriest_11 : decode cX6_sorriest 11 = .ok (.iconst 0, 1) := by decide +kernel
theorem dX6_sorriest_12 : decode cX6_sorriest 12 = .ok (.iconst 1, 1) := by decide +kernel
theorem dX6_sorriest_13 : decode cX6_sorriest 13 = .ok (.invokestatic 62, 3) := by decide +kernel
theorem dX6_sorriest_16 : decode cX6_sorriest 16 = .ok (.ifCond .ne 9, 3) := by decide +kernel
theorem dX6_sorriest_19 : decode cX6_sorriest 19 = .ok (.aload_n 0, 1) := by decide +kernel
theorem dX6_sorriest_20 : decode cX6_sorriest 20 = .ok (.iconst 1, 1) := by decide +kernel
theorem dX6_sorriest_21 : decode cX6_sorriest 21 = .ok (.invokevirtual 66, 3) := by decide +kernel
theorem dX6_sorriest_24 : decode cX6_sorriest 24 = .ok (.ireturn, 1) := by decide +kernel
theorem dX6_sorriest_25 : decode cX6_sorriest 25 = .ok (.aload_n 0, 1) := by decide +kernel
theorem dX6_sorriest_26 : decode cX6_sorriest 26 = .ok (.getfield 10, 3) := by decide +kernel
theorem dX6_sorriest_29 : decode cX6_sorriest 29 = .ok (.getfield 70, 3) := by decide +kernel
theorem dX6_sorriest_32 : decode cX6_sorriest 32 = .ok (.getfield 73, 3) := by decide +kernel
theorem dX6_sorriest_35 : decode cX6_sorriest 35 = .ok (.ifCond .ne 9, 3) := by decide +kernel
theorem dX6_sorriest_38 : decode cX6_sorriest 38 = .ok (.aload_n 0, 1) := by decide +kernel
theorem dX6_sorriest_39 : decode cX6_sorriest 39 = .ok (.iconst 2, 1) := by decide +kernel
theorem dX6_sorriest_40 : decode cX6_sorriest 40 = .ok (.invokevirtual 66, 3) := by decide +kernel
theorem dX6_sorriest_43 : decode cX6_sorriest 43 = .ok (.ireturn, 1) := by decide +kernel
theorem dX6_sorriest_44 : decode cX6_sorriest 44 = .ok (.aload_n 0, 1) := by decide +kernel
theorem dX6_sorriest_45 : decode cX6_sorriest 45 = .ok (.getfield 26, 3) := by decide +kernel
theorem dX6_sorriest_48 : decode cX6_sorriest 48 = .ok (.aload_n 0, 1) := by decide +kernel
theorem dX6_sorriest_49 : decode cX6_sorriest 49 = .ok (.getfield 10, 3) := by decide +kernel
theorem dX6_sorriest_52 : decode cX6_sorriest 52 = .ok (.getfield 70, 3) := by decide +kernel
theorem dX6_sorriest_55 : decode cX6_sorriest 55 = .ok (.invokevirtual 179, 3) := by decide +kernel
theorem dX6_sorriest_58 : decode cX6_sorriest 58 = .ok (.aload_n 0, 1) := by decide +kernel
theorem dX6_sorriest_59 : decode cX6_sorriest 59 = .ok (.getfield 26, 3) := by decide +kernel
theorem dX6_sorriest_62 : decode cX6_sorriest 62 = .ok (.iload_n 1, 1) := by decide +kernel
theorem dX6_sorriest_63 : decode cX6_sorriest 63 = .ok (.aload_n 0, 1) := by decide +kernel
theorem dX6_sorriest_64 : decode cX6_sorriest 64 = .ok (.getfield 10, 3) := by decide +kernel
theorem dX6_sorriest_67 : decode cX6_sorriest 67 = .ok (.getfield 165, 3) := by decide +kernel
theorem dX6_sorriest_70 : decode cX6_sorriest 70 = .ok (.invokevirtual 168, 3) := by decide +kernel
theorem dX6_sorriest_73 : decode cX6_sorriest 73 = .ok (.iconst 0, 1) := by decide +kernel
theorem dX6_sorriest_74 : decode cX6_sorriest 74 = .ok (.istore_n 3, 1) := by decide +kernel
theorem dX6_sorriest_75 : decode cX6_sorriest 75 = .ok (.iconst 1, 1) := by decide +kernel
theorem dX6_sorriest_76 : decode cX6_sorriest 76 = .ok (.istore 4, 2) := by decide +kernel
theorem dX6_sorriest_78 : decode cX6_sorriest 78 = .ok (.iload 4, 2) := by decide +kernel
theorem dX6_sorriest_80 : decode cX6_sorriest 80 = .ok (.aload_n 0, 1) := by decide +kernel
theorem dX6_sorriest_81 : decode cX6_sorriest 81 = .ok (.getfield 26, 3) := by decide +kernel
theorem dX6_sorriest_84 : decode cX6_sorriest 84 = .ok (.getfield 73, 3) := by decide +kernel
theorem dX6_sorriest_87 : decode cX6_sorriest 87 = .ok (.if_icmp .ge 34, 3) := by decide +kernel
theorem dX6_sorriest_90 : decode cX6_sorriest 90 = .ok (.aload_n 0, 1) := by decide +kernel
theorem dX6_sorriest_91 : decode cX6_sorriest 91 = .ok (.getfield 26, 3) := by decide +kernel
theorem dX6_sorriest_94 : decode cX6_sorriest 94 = .ok (.getfield 89, 3) := by decide +kernel
theorem dX6_sorriest_97 : decode cX6_sorriest 97 = .ok (.iload 4, 2) := by decide +kernel
theorem dX6_sorriest_99 : decode cX6_sorriest 99 = .ok (.iaload, 1) := by decide +kernel
theorem dX6_sorriest_100 : decode cX6_sorriest 100 = .ok (.aload_n 0, 1) := by decide +kernel
theorem dX6_sorriest_101 : decode cX6_sorriest 101 = .ok (.getfield 26, 3) := by decide +kernel
theorem dX6_sorriest_104 : decode cX6_sorriest 104 = .ok (.getfield 89, 3) := by decide +kernel
theorem dX6_sorriest_107 : decode cX6_sorriest 107 = .ok (.iload_n 3, 1) := by decide +kernel
theorem dX6_sorriest_108 : decode cX6_sorriest 108 = .ok (.iaload, 1) := by decide +kernel
theorem dX6_sorriest_109 : decode cX6_sorriest 109 = .ok (.if_icmp .le 6, 3) := by decide +kernel
theorem dX6_sorriest_112 : decode cX6_sorriest 112 = .ok (.iload 4, 2) := by decide +kernel
theorem dX6_sorriest_114 : decode cX6_sorriest 114 = .ok (.istore_n 3, 1) := by decide +kernel
theorem dX6_sorriest_115 : decode cX6_sorriest 115 = .ok (.iinc 4 1, 3) := by decide +kernel
theorem dX6_sorriest_118 : decode cX6_sorriest 118 = .ok (.goto (-40), 3) := by decide +kernel
theorem dX6_sorriest_121 : decode cX6_sorriest 121 = .ok (.iload_n 2, 1) := by decide +kernel
theorem dX6_sorriest_122 : decode cX6_sorriest 122 = .ok (.ifCond .ne 7, 3) := by decide +kernel
theorem dX6_sorriest_125 : decode cX6_sorriest 125 = .ok (.iload_n 3, 1) := by decide +kernel
theorem dX6_sorriest_126 : decode cX6_sorriest 126 = .ok (.goto 12, 3) := by decide +kernel
theorem dX6_sorriest_129 : decode cX6_sorriest 129 = .ok (.aload_n 0, 1) := by decide +kernel
theorem dX6_sorriest_130 : decode cX6_sorriest 130 = .ok (.getfield 26, 3) := by decide +kernel
theorem dX6_sorriest_133 : decode cX6_sorriest 133 = .ok (.getfield 89, 3) := by decide +kernel
theorem dX6_sorriest_136 : decode cX6_sorriest 136 = .ok (.iload_n 3, 1) := by decide +kernel
theorem dX6_sorriest_137 : decode cX6_sorriest 137 = .ok (.iaload, 1) := by decide +kernel
theorem dX6_sorriest_138 : decode cX6_sorriest 138 = .ok (.ireturn, 1) := by decide +kernel
theorem dX6_odds_0 : decode cX6_odds 0 = .ok (.aload_n 0, 1) := by decide +kernel
theorem dX6_odds_1 : decode cX6_odds 1 = .ok (.iload_n 1, 1) := by decide +kernel
theorem dX6_odds_2 : decode cX6_odds 2 = .ok (.invokevirtual 80, 3) := by decide +kernel
theorem dX6_odds_5 : decode cX6_odds 5 = .ok (.ifCond .eq 31, 3) := by decide +kernel
theorem dX6_odds_8 : decode cX6_odds 8 = .ok (.aload_n 0, 1) := by decide +kernel
theorem dX6_odds_9 : decode cX6_odds 9 = .ok (.iload_n 2, 1) := by decide +kernel
theorem dX6_odds_10 : decode cX6_odds 10 = .ok (.invokevirtual 108, 3) := by decide +kernel
theorem dX6_odds_13 : decode cX6_odds 13 = .ok (.ifCond .eq 23, 3) := by decide +kernel
theorem dX6_odds_16 : decode cX6_odds 16 = .ok (.iload_n 3, 1) := by decide +kernel
theorem dX6_odds_17 : decode cX6_odds 17 = .ok (.iconst 0, 1) := by decide +kernel
theorem dX6_odds_18 : decode cX6_odds 18 = .ok (.bipush 60, 2) := by decide +kernel
theorem dX6_odds_20 : decode cX6_odds 20 = .ok (.invokestatic 62, 3) := by decide +kernel
theorem dX6_odds_23 : decode cX6_odds 23 = .ok (.ifCond .eq 13, 3) := by decide +kernel
theorem dX6_odds_26 : decode cX6_odds 26 = .ok (.iload 4, 2) := by decide +kernel
theorem dX6_odds_28 : decode cX6_odds 28 = .ok (.iconst 0, 1) := by decide +kernel
theorem dX6_odds_29 : decode cX6_odds 29 = .ok (.iconst 1, 1) := by decide +kernel
theorem dX6_odds_30 : decode cX6_odds 30 = .ok (.invokestatic 62, 3) := by decide +kernel
theorem dX6_odds_33 : decode cX6_odds 33 = .ok (.ifCond .ne 9, 3) := by decide +kernel
theorem dX6_odds_36 : decode cX6_odds 36 = .ok (.aload_n 0, 1) := by decide +kernel
theorem dX6_odds_37 : decode cX6_odds 37 = .ok (.iconst 1, 1) := by decide +kernel
theorem dX6_odds_38 : decode cX6_odds 38 = .ok (.invokevirtual 66, 3) := by decide +kernel
theorem dX6_odds_41 : decode cX6_odds 41 = .ok (.ireturn, 1) := by decide +kernel
theorem dX6_odds_42 : decode cX6_odds 42 = .ok (.aload_n 0, 1) := by decide +kernel
theorem dX6_odds_43 : decode cX6_odds 43 = .ok (.getfield 10, 3) := by decide +kernel
theorem dX6_odds_46 : decode cX6_odds 46 = .ok (.getfield 70, 3) := by decide +kernel
theorem dX6_odds_49 : decode cX6_odds 49 = .ok (.getfield 73, 3) := by decide +kernel
theorem dX6_odds_52 : decode cX6_odds 52 = .ok (.iconst 1, 1) := by decide +kernel
theorem dX6_odds_53 : decode cX6_odds 53 = .ok (.isub, 1) := by decide +kernel
theorem dX6_odds_54 : decode cX6_odds 54 = .ok (.istore 5, 2) := by decide +kernel
theorem dX6_odds_56 : decode cX6_odds 56 = .ok (.iload 5, 2) := by decide +kernel
theorem dX6_odds_58 : decode cX6_odds 58 = .ok (.ifCond .ne 9, 3) := by decide +kernel
theorem dX6_odds_61 : decode cX6_odds 61 = .ok (.aload_n 0, 1) := by decide +kernel
theorem dX6_odds_62 : decode cX6_odds 62 = .ok (.iconst 2, 1) := by decide +kernel
theorem dX6_odds_63 : decode cX6_odds 63 = .ok (.invokevirtual 66, 3) := by decide +kernel
theorem dX6_odds_66 : decode cX6_odds 66 = .ok (.ireturn, 1) := by decide +kernel
theorem dX6_odds_67 : decode cX6_odds 67 = .ok (.iconst 0, 1) := by decide +kernel
theorem dX6_odds_68 : decode cX6_odds 68 = .ok (.istore 6, 2) := by decide +kernel
theorem dX6_odds_70 : decode cX6_odds 70 = .ok (.iconst 0, 1) := by decide +kernel
theorem dX6_odds_71 : decode cX6_odds 71 = .ok (.istore 7, 2) := by decide +kernel
theorem dX6_odds_73 : decode cX6_odds 73 = .ok (.iload 7, 2) := by decide +kernel
theorem dX6_odds_75 : decode cX6_odds 75 = .ok (.iload 5, 2) := by decide +kernel
theorem dX6_odds_77 : decode cX6_odds 77 = .ok (.if_icmp .gt 30, 3) := by decide +kernel
theorem dX6_odds_80 : decode cX6_odds 80 = .ok (.iload 7, 2) := by decide +kernel
theorem dX6_odds_82 : decode cX6_odds 82 = .ok (.iload_n 1, 1) := by decide +kernel
theorem dX6_odds_83 : decode cX6_odds 83 = .ok (.if_icmp .eq 18, 3) := by decide +kernel
theorem dX6_odds_86 : decode cX6_odds 86 = .ok (.aload_n 0, 1) := by decide +kernel
theorem dX6_odds_87 : decode cX6_odds 87 = .ok (.iload_n 1, 1) := by decide +kernel
theorem dX6_odds_88 : decode cX6_odds 88 = .ok (.iload 7, 2) := by decide +kernel
theorem dX6_odds_90 : decode cX6_odds 90 = .ok (.iload_n 3, 1) := by decide +kernel
theorem dX6_odds_91 : decode cX6_odds 91 = .ok (.invokevirtual 186, 3) := by decide +kernel
theorem dX6_odds_94 : decode cX6_odds 94 = .ok (.iload_n 2, 1) := by decide +kernel
theorem dX6_odds_95 : decode cX6_odds 95 = .ok (.if_icmp .gt 6, 3) := by decide +kernel
theorem dX6_odds_98 : decode cX6_odds 98 = .ok (.iinc 6 1, 3) := by decide +kernel
theorem dX6_odds_101 : decode cX6_odds 101 = .ok (.iinc 7 1, 3) := by decide +kernel
theorem dX6_odds_104 : decode cX6_odds 104 = .ok (.goto (-31), 3) := by decide +kernel
theorem dX6_odds_107 : decode cX6_odds 107 = .ok (.iload 6, 2) := by decide +kernel
theorem dX6_odds_109 : decode cX6_odds 109 = .ok (.iload 5, 2) := by decide +kernel
theorem dX6_odds_111 : decode cX6_odds 111 = .ok (.invokestatic 210, 3) := by decide +kernel
theorem dX6_odds_114 : decode cX6_odds 114 = .ok (.istore 7, 2) := by decide +kernel
theorem dX6_odds_116 : decode cX6_odds 116 = .ok (.iload 4, 2) := by decide +kernel
theorem dX6_odds_118 : decode cX6_odds 118 = .ok (.ifCond .ne 11, 3) := by decide +kernel
theorem dX6_odds_121 : decode cX6_odds 121 = .ok (.iload 6, 2) := by decide +kernel
theorem dX6_odds_123 : decode cX6_odds 123 = .ok (.iload 7, 2) := by decide +kernel
theorem dX6_odds_125 : decode cX6_odds 125 = .ok (.idiv, 1) := by decide +kernel
theorem dX6_odds_126 : decode cX6_odds 126 = .ok (.goto 8, 3) := by decide +kernel
theorem dX6_odds_129 : decode cX6_odds 129 = .ok (.iload 5, 2) := by decide +kernel
theorem dX6_odds_131 : decode cX6_odds 131 = .ok (.iload 7, 2) := by decide +kernel
theorem dX6_odds_133 : decode cX6_odds 133 = .ok (.idiv, 1) := by decide +kernel
theorem dX6_odds_134 : decode cX6_odds 134 = .ok (.ireturn, 1) := by decide +kernel
theorem dX6_seed_0 : decode cX6_seed 0 = .ok (.aload_n 0, 1) := by decide +kernel
theorem dX6_seed_1 : decode cX6_seed 1 = .ok (.getfield 10, 3) := by decide +kernel
theorem dX6_seed_4 : decode cX6_seed 4 = .ok (.getfield 213, 3) := by decide +kernel
theorem dX6_seed_7 : decode cX6_seed 7 = .ok (.istore_n 2, 1) := by decide +kernel
theorem dX6_seed_8 : decode cX6_seed 8 = .ok (.aload_n 0, 1) := by decide +kernel
theorem dX6_seed_9 : decode cX6_seed 9 = .ok (.getfield 10, 3) := by decide +kernel
theorem dX6_seed_12 : decode cX6_seed 12 = .ok (.iload_n 1, 1) := by decide +kernel
theorem dX6_seed_13 : decode cX6_seed 13 = .ok (.putfield 213, 3) := by decide +kernel
theorem dX6_seed_16 : decode cX6_seed 16 = .ok (.iload_n 2, 1) := by decide +kernel
theorem dX6_seed_17 : decode cX6_seed 17 = .ok (.ireturn, 1) := by decide +kernel
theorem dX6_voice_0 : decode cX6_voice 0 = .ok (.aload_n 0, 1) := by decide +kernel
theorem dX6_voice_1 : decode cX6_voice 1 = .ok (.iload_n 1, 1) := by decide +kernel
theorem dX6_voice_2 : decode cX6_voice 2 = .ok (.invokevirtual 80, 3) := by decide +kernel
theorem dX6_voice_5 : decode cX6_voice 5 = .ok (.ifCond .eq 12, 3) := by decide +kernel
theorem dX6_voice_8 : decode cX6_voice 8 = .ok (.iload_n 2, 1) := by decide +kernel
theorem dX6_voice_9 : decode cX6_voice 9 = .ok (.iconst 0, 1) := by decide +kernel
theorem dX6_voice_10 : decode cX6_voice 10 = .ok (.iconst 3, 1) := by decide +kernel
theorem dX6_voice_11 : decode cX6_voice 11 = .ok (.invokestatic 62, 3) := by decide +kernel
theorem dX6_voice_14 : decode cX6_voice 14 = .ok (.ifCond .ne 9, 3) := by decide +kernel
theorem dX6_voice_17 : decode cX6_voice 17 = .ok (.aload_n 0, 1) := by decide +kernel
theorem dX6_voice_18 : decode cX6_voice 18 = .ok (.iconst 1, 1) := by decide +kernel
theorem dX6_voice_19 : decode cX6_voice 19 = .ok (.invokevirtual 66, 3) := by decide +kernel
theorem dX6_voice_22 : decode cX6_voice 22 = .ok (.ireturn, 1) := by decide +kernel
theorem dX6_voice_23 : decode cX6_voice 23 = .ok (.aload_n 0, 1) := by decide +kernel
theorem dX6_voice_24 : decode cX6_voice 24 = .ok (.getfield 43, 3) := by decide +kernel
theorem dX6_voice_27 : decode cX6_voice 27 = .ok (.iload_n 1, 1) := by decide +kernel
theorem dX6_voice_28 : decode cX6_voice 28 = .ok (.aload_n 0, 1) := by decide +kernel
theorem dX6_voice_29 : decode cX6_voice 29 = .ok (.getfield 10, 3) := by decide +kernel
theorem dX6_voice_32 : decode cX6_voice 32 = .ok (.getfield 70, 3) := by decide +kernel
theorem dX6_voice_35 : decode cX6_voice 35 = .ok (.getfield 83, 3) := by decide +kernel
theorem dX6_voice_38 : decode cX6_voice 38 = .ok (.iload_n 1, 1) := by decide +kernel
theorem dX6_voice_39 : decode cX6_voice 39 = .ok (.iaload, 1) := by decide +kernel
theorem dX6_voice_40 : decode cX6_voice 40 = .ok (.aload_n 0, 1) := by decide +kernel
theorem dX6_voice_41 : decode cX6_voice 41 = .ok (.getfield 10, 3) := by decide +kernel
theorem dX6_voice_44 : decode cX6_voice 44 = .ok (.getfield 70, 3) := by decide +kernel
theorem dX6_voice_47 : decode cX6_voice 47 = .ok (.getfield 86, 3) := by decide +kernel
theorem dX6_voice_50 : decode cX6_voice 50 = .ok (.iload_n 1, 1) := by decide +kernel
theorem dX6_voice_51 : decode cX6_voice 51 = .ok (.iaload, 1) := by decide +kernel
theorem dX6_voice_52 : decode cX6_voice 52 = .ok (.iload_n 2, 1) := by decide +kernel
theorem dX6_voice_53 : decode cX6_voice 53 = .ok (.iload_n 3, 1) := by decide +kernel
theorem dX6_voice_54 : decode cX6_voice 54 = .ok (.invokevirtual 216, 3) := by decide +kernel
theorem dX6_voice_57 : decode cX6_voice 57 = .ok (.ireturn, 1) := by decide +kernel
theorem dX6_trace_0 : decode cX6_trace 0 = .ok (.iload_n 1, 1) := by decide +kernel
theorem dX6_trace_1 : decode cX6_trace 1 = .ok (.iconst 0, 1) := by decide +kernel
theorem dX6_trace_2 : decode cX6_trace 2 = .ok (.aload_n 0, 1) := by decide +kernel
theorem dX6_trace_3 : decode cX6_trace 3 = .ok (.getfield 43, 3) := by decide +kernel
theorem dX6_trace_6 : decode cX6_trace 6 = .ok (.getfield 220, 3) := by decide +kernel
theorem dX6_trace_9 : decode cX6_trace 9 = .ok (.iconst 1, 1) := by decide +kernel
theorem dX6_trace_10 : decode cX6_trace 10 = .ok (.isub, 1) := by decide +kernel
theorem dX6_trace_11 : decode cX6_trace 11 = .ok (.invokestatic 62, 3) := by decide +kernel
theorem dX6_trace_14 : decode cX6_trace 14 = .ok (.ifCond .eq 15, 3) := by decide +kernel
theorem dX6_trace_17 : decode cX6_trace 17 = .ok (.aload_n 0, 1) := by decide +kernel
theorem dX6_trace_18 : decode cX6_trace 18 = .ok (.getfield 43, 3) := by decide +kernel
theorem dX6_trace_21 : decode cX6_trace 21 = .ok (.getfield 223, 3) := by decide +kernel
theorem dX6_trace_24 : decode cX6_trace 24 = .ok (.iload_n 1, 1) := by decide +kernel
theorem dX6_trace_25 : decode cX6_trace 25 = .ok (.iaload, 1) := by decide +kernel
theorem dX6_trace_26 : decode cX6_trace 26 = .ok (.goto 8, 3) := by decide +kernel
theorem dX6_trace_29 : decode cX6_trace 29 = .ok (.aload_n 0, 1) := by decide +kernel
theorem dX6_trace_30 : decode cX6_trace 30 = .ok (.iconst 2, 1) := by decide +kernel
theorem dX6_trace_31 : decode cX6_trace 31 = .ok (.invokevirtual 66, 3) := by decide +kernel
theorem dX6_trace_34 : decode cX6_trace 34 = .ok (.ireturn, 1) := by decide +kernel
theorem dX6_sheet_0 : decode cX6_sheet 0 = .ok (.iload_n 1, 1) := by decide +kernel
theorem dX6_sheet_1 : decode cX6_sheet 1 = .ok (.invokestatic 196, 3) := by decide +kernel
theorem dX6_sheet_4 : decode cX6_sheet 4 = .ok (.ifCond .eq 25, 3) := by decide +kernel
theorem dX6_sheet_7 : decode cX6_sheet 7 = .ok (.iload_n 2, 1) := by decide +kernel
theorem dX6_sheet_8 : decode cX6_sheet 8 = .ok (.ifCond .eq 27, 3) := by decide +kernel
theorem dX6_sheet_11 : decode cX6_sheet 11 = .ok (.iload_n 2, 1) := by decide +kernel
theorem dX6_sheet_12 : decode cX6_sheet 12 = .ok (.bipush 8, 2) := by decide +kernel
theorem dX6_sheet_14 : decode cX6_sheet 14 = .ok (.if_icmp .eq 21, 3) := by decide +kernel
theorem dX6_sheet_17 : decode cX6_sheet 17 = .ok (.iload_n 2, 1) := by decide +kernel
theorem dX6_sheet_18 : decode cX6_sheet 18 = .ok (.bipush 16, 2) := by decide +kernel
theorem dX6_sheet_20 : decode cX6_sheet 20 = .ok (.if_icmp .eq 15, 3) := by decide +kernel
theorem dX6_sheet_23 : decode cX6_sheet 23 = .ok (.iload_n 2, 1) := by decide +kernel
theorem dX6_sheet_24 : decode cX6_sheet 24 = .ok (.bipush 32, 2) := by decide +kernel
theorem dX6_sheet_26 : decode cX6_sheet 26 = .ok (.if_icmp .eq 9, 3) := by decide +kernel
theorem dX6_sheet_29 : decode cX6_sheet 29 = .ok (.aload_n 0, 1) := by decide +kernel
theorem dX6_sheet_30 : decode cX6_sheet 30 = .ok (.iconst 1, 1) := by decide +kernel
theorem dX6_sheet_31 : decode cX6_sheet 31 = .ok (.invokevirtual 66, 3) := by decide +kernel
theorem dX6_sheet_34 : decode cX6_sheet 34 = .ok (.ireturn, 1) := by decide +kernel
theorem dX6_sheet_35 : decode cX6_sheet 35 = .ok (.iload_n 2, 1) := by decide +kernel
theorem dX6_sheet_36 : decode cX6_sheet 36 = .ok (.ifCond .ne 16, 3) := by decide +kernel
theorem dX6_sheet_39 : decode cX6_sheet 39 = .ok (.aload_n 0, 1) := by decide +kernel
theorem dX6_sheet_40 : decode cX6_sheet 40 = .ok (.getfield 50, 3) := by decide +kernel
theorem dX6_sheet_43 : decode cX6_sheet 43 = .ok (.iload_n 1, 1) := by decide +kernel
theorem dX6_sheet_44 : decode cX6_sheet 44 = .ok (.aaload, 1) := by decide +kernel
theorem dX6_sheet_45 : decode cX6_sheet 45 = .ok (.iconst 0, 1) := by decide +kernel
theorem dX6_sheet_46 : decode cX6_sheet 46 = .ok (.iconst 0, 1) := by decide +kernel
theorem dX6_sheet_47 : decode cX6_sheet 47 = .ok (.invokevirtual 226, 3) := by decide +kernel
theorem dX6_sheet_50 : decode cX6_sheet 50 = .ok (.iconst 1, 1) := by decide +kernel
theorem dX6_sheet_51 : decode cX6_sheet 51 = .ok (.ireturn, 1) := by decide +kernel
theorem dX6_sheet_52 : decode cX6_sheet 52 = .ok (.iload_n 3, 1) := by decide +kernel
theorem dX6_sheet_53 : decode cX6_sheet 53 = .ok (.ifCond .ge 9, 3) := by decide +kernel
theorem dX6_sheet_56 : decode cX6_sheet 56 = .ok (.aload_n 0, 1) := by decide +kernel
theorem dX6_sheet_57 : decode cX6_sheet 57 = .ok (.iconst 3, 1) := by decide +kernel
theorem dX6_sheet_58 : decode cX6_sheet 58 = .ok (.invokevirtual 66, 3) := by decide +kernel
theorem dX6_sheet_61 : decode cX6_sheet 61 = .ok (.ireturn, 1) := by decide +kernel
theorem dX6_sheet_62 : decode cX6_sheet 62 = .ok (.iload_n 3, 1) := by decide +kernel
theorem dX6_sheet_63 : decode cX6_sheet 63 = .ok (.bipush 40, 2) := by decide +kernel
theorem dX6_sheet_65 : decode cX6_sheet 65 = .ok (.if_icmp .le 9, 3) := by decide +kernel
theorem dX6_sheet_68 : decode cX6_sheet 68 = .ok (.aload_n 0, 1) := by decide +kernel
theorem dX6_sheet_69 : decode cX6_sheet 69 = .ok (.iconst 1, 1) := by decide +kernel
theorem dX6_sheet_70 : decode cX6_sheet 70 = .ok (.invokevirtual 66, 3) := by decide +kernel
theorem dX6_sheet_73 : decode cX6_sheet 73 = .ok (.ireturn, 1) := by decide +kernel
theorem dX6_sheet_74 : decode cX6_sheet 74 = .ok (.aload_n 0, 1) := by decide +kernel
theorem dX6_sheet_75 : decode cX6_sheet 75 = .ok (.getfield 50, 3) := by decide +kernel
theorem dX6_sheet_78 : decode cX6_sheet 78 = .ok (.iload_n 1, 1) := by decide +kernel
theorem dX6_sheet_79 : decode cX6_sheet 79 = .ok (.aaload, 1) := by decide +kernel
theorem dX6_sheet_80 : decode cX6_sheet 80 = .ok (.iload_n 2, 1) := by decide +kernel
theorem dX6_sheet_81 : decode cX6_sheet 81 = .ok (.iload_n 3, 1) := by decide +kernel
theorem dX6_sheet_82 : decode cX6_sheet 82 = .ok (.invokevirtual 226, 3) := by decide +kernel
theorem dX6_sheet_85 : decode cX6_sheet 85 = .ok (.iconst 1, 1) := by decide +kernel
theorem dX6_sheet_86 : decode cX6_sheet 86 = .ok (.ireturn, 1) := by decide +kernel
theorem dX6_put_0 : decode cX6_put 0 = .ok (.iload_n 1, 1) := by decide +kernel
theorem dX6_put_1 : decode cX6_put 1 = .ok (.invokestatic 196, 3) := by decide +kernel
theorem dX6_put_4 : decode cX6_put 4 = .ok (.ifCond .ne 9, 3) := by decide +kernel
theorem dX6_put_7 : decode cX6_put 7 = .ok (.aload_n 0, 1) := by decide +kernel
theorem dX6_put_8 : decode cX6_put 8 = .ok (.iconst 1, 1) := by decide +kernel
theorem dX6_put_9 : decode cX6_put 9 = .ok (.invokevirtual 66, 3) := by decide +kernel
theorem dX6_put_12 : decode cX6_put 12 = .ok (.ireturn, 1) := by decide +kernel
theorem dX6_put_13 : decode cX6_put 13 = .ok (.aload_n 0, 1) := by decide +kernel
theorem dX6_put_14 : decode cX6_put 14 = .ok (.getfield 50, 3) := by decide +kernel
theorem dX6_put_17 : decode cX6_put 17 = .ok (.iload_n 1, 1) := by decide +kernel
theorem dX6_put_18 : decode cX6_put 18 = .ok (.aaload, 1) := by decide +kernel
theorem dX6_put_19 : decode cX6_put 19 = .ok (.getfield 199, 3) := by decide +kernel
theorem dX6_put_22 : decode cX6_put 22 = .ok (.ifCond .ne 9, 3) := by decide +kernel
theorem dX6_put_25 : decode cX6_put 25 = .ok (.aload_n 0, 1) := by decide +kernel
theorem dX6_put_26 : decode cX6_put 26 = .ok (.iconst 2, 1) := by decide +kernel
theorem dX6_put_27 : decode cX6_put 27 = .ok (.invokevirtual 66, 3) := by decide +kernel
theorem dX6_put_30 : decode cX6_put 30 = .ok (.ireturn, 1) := by decide +kernel
theorem dX6_put_31 : decode cX6_put 31 = .ok (.iload_n 2, 1) := by decide +kernel
theorem dX6_put_32 : decode cX6_put 32 = .ok (.iconst 0, 1) := by decide +kernel
theorem dX6_put_33 : decode cX6_put 33 = .ok (.aload_n 0, 1) := by decide +kernel
theorem dX6_put_34 : decode cX6_put 34 = .ok (.getfield 50, 3) := by decide +kernel
theorem dX6_put_37 : decode cX6_put 37 = .ok (.iload_n 1, 1) := by decide +kernel
theorem dX6_put_38 : decode cX6_put 38 = .ok (.aaload, 1) := by decide +kernel
theorem dX6_put_39 : decode cX6_put 39 = .ok (.getfield 202, 3) := by decide +kernel
theorem dX6_put_42 : decode cX6_put 42 = .ok (.iconst 1, 1) := by decide +kernel
theorem dX6_put_43 : decode cX6_put 43 = .ok (.isub, 1) := by decide +kernel
theorem dX6_put_44 : decode cX6_put 44 = .ok (.invokestatic 62, 3) := by decide +kernel
theorem dX6_put_47 : decode cX6_put 47 = .ok (.ifCond .ne 9, 3) := by decide +kernel
theorem dX6_put_50 : decode cX6_put 50 = .ok (.aload_n 0, 1) := by decide +kernel
theorem dX6_put_51 : decode cX6_put 51 = .ok (.iconst 1, 1) := by decide +kernel
theorem dX6_put_52 : decode cX6_put 52 = .ok (.invokevirtual 66, 3) := by decide +kernel
theorem dX6_put_55 : decode cX6_put 55 = .ok (.ireturn, 1) := by decide +kernel
theorem dX6_put_56 : decode cX6_put 56 = .ok (.aload_n 0, 1) := by decide +kernel
theorem dX6_put_57 : decode cX6_put 57 = .ok (.getfield 50, 3) := by decide +kernel
theorem dX6_put_60 : decode cX6_put 60 = .ok (.iload_n 1, 1) := by decide +kernel
theorem dX6_put_61 : decode cX6_put 61 = .ok (.aaload, 1) := by decide +kernel
theorem dX6_put_62 : decode cX6_put 62 = .ok (.iload_n 2, 1) := by decide +kernel
theorem dX6_put_63 : decode cX6_put 63 = .ok (.iload_n 3, 1) := by decide +kernel
theorem dX6_put_64 : decode cX6_put 64 = .ok (.invokevirtual 229, 3) := by decide +kernel
theorem dX6_put_67 : decode cX6_put 67 = .ok (.iconst 1, 1) := by decide +kernel
theorem dX6_put_68 : decode cX6_put 68 = .ok (.ireturn, 1) := by decide +kernel
theorem dX6_move_0 : decode cX6_move 0 = .ok (.iload_n 1, 1) := by decide +kernel
theorem dX6_move_1 : decode cX6_move 1 = .ok (.invokestatic 196, 3) := by decide +kernel
theorem dX6_move_4 : decode cX6_move 4 = .ok (.ifCond .eq 10, 3) := by decide +kernel
theorem dX6_move_7 : decode cX6_move 7 = .ok (.iload_n 3, 1) := by decide +kernel
theorem dX6_move_8 : decode cX6_move 8 = .ok (.invokestatic 196, 3) := by decide +kernel
theorem dX6_move_11 : decode cX6_move 11 = .ok (.ifCond .ne 9, 3) := by decide +kernel
theorem dX6_move_14 : decode cX6_move 14 = .ok (.aload_n 0, 1) := by decide +kernel
theorem dX6_move_15 : decode cX6_move 15 = .ok (.iconst 1, 1) := by decide +kernel
theorem dX6_move_16 : decode cX6_move 16 = .ok (.invokevirtual 66, 3) := by decide +kernel
theorem dX6_move_19 : decode cX6_move 19 = .ok (.ireturn, 1) := by decide +kernel
theorem dX6_move_20 : decode cX6_move 20 = .ok (.aload_n 0, 1) := by decide +kernel
theorem dX6_move_21 : decode cX6_move 21 = .ok (.getfield 50, 3) := by decide +kernel
theorem dX6_move_24 : decode cX6_move 24 = .ok (.iload_n 1, 1) := by decide +kernel
theorem dX6_move_25 : decode cX6_move 25 = .ok (.aaload, 1) := by decide +kernel
theorem dX6_move_26 : decode cX6_move 26 = .ok (.astore 6, 2) := by decide +kernel
theorem dX6_move_28 : decode cX6_move 28 = .ok (.aload_n 0, 1) := by decide +kernel
theorem dX6_move_29 : decode cX6_move 29 = .ok (.getfield 50, 3) := by decide +kernel
theorem dX6_move_32 : decode cX6_move 32 = .ok (.iload_n 3, 1) := by decide +kernel
theorem dX6_move_33 : decode cX6_move 33 = .ok (.aaload, 1) := by decide +kernel
theorem dX6_move_34 : decode cX6_move 34 = .ok (.astore 7, 2) := by decide +kernel
theorem dX6_move_36 : decode cX6_move 36 = .ok (.aload 6, 2) := by decide +kernel
theorem dX6_move_38 : decode cX6_move 38 = .ok (.getfield 199, 3) := by decide +kernel
theorem dX6_move_41 : decode cX6_move 41 = .ok (.ifCond .eq 11, 3) := by decide +kernel
theorem dX6_move_44 : decode cX6_move 44 = .ok (.aload 7, 2) := by decide +kernel
theorem dX6_move_46 : decode cX6_move 46 = .ok (.getfield 199, 3) := by decide +kernel
theorem dX6_move_49 : decode cX6_move 49 = .ok (.ifCond .ne 9, 3) := by decide +kernel
theorem dX6_move_52 : decode cX6_move 52 = .ok (.aload_n 0, 1) := by decide +kernel
theorem dX6_move_53 : decode cX6_move 53 = .ok (.iconst 2, 1) := by decide +kernel
theorem dX6_move_54 : decode cX6_move 54 = .ok (.invokevirtual 66, 3) := by decide +kernel
theorem dX6_move_57 : decode cX6_move 57 = .ok (.ireturn, 1) := by decide +kernel
theorem dX6_move_58 : decode cX6_move 58 = .ok (.aload 6, 2) := by decide +kernel
theorem dX6_move_60 : decode cX6_move 60 = .ok (.getfield 199, 3) := by decide +kernel
theorem dX6_move_63 : decode cX6_move 63 = .ok (.aload 7, 2) := by decide +kernel
theorem dX6_move_65 : decode cX6_move 65 = .ok (.getfield 199, 3) := by decide +kernel
theorem dX6_move_68 : decode cX6_move 68 = .ok (.if_icmp .eq 9, 3) := by decide +kernel
theorem dX6_move_71 : decode cX6_move 71 = .ok (.aload_n 0, 1) := by decide +kernel
theorem dX6_move_72 : decode cX6_move 72 = .ok (.iconst 5, 1) := by decide +kernel
theorem dX6_move_73 : decode cX6_move 73 = .ok (.invokevirtual 66, 3) := by decide +kernel
theorem dX6_move_76 : decode cX6_move 76 = .ok (.ireturn, 1) := by decide +kernel
theorem dX6_move_77 : decode cX6_move 77 = .ok (.aload 6, 2) := by decide +kernel
theorem dX6_move_79 : decode cX6_move 79 = .ok (.iload_n 2, 1) := by decide +kernel
theorem dX6_move_80 : decode cX6_move 80 = .ok (.iload 5, 2) := by decide +kernel
theorem dX6_move_82 : decode cX6_move 82 = .ok (.invokevirtual 232, 3) := by decide +kernel
theorem dX6_move_85 : decode cX6_move 85 = .ok (.ifCond .eq 15, 3) := by decide +kernel
theorem dX6_move_88 : decode cX6_move 88 = .ok (.aload 7, 2) := by decide +kernel
theorem dX6_move_90 : decode cX6_move 90 = .ok (.iload 4, 2) := by decide +kernel
theorem dX6_move_92 : decode cX6_move 92 = .ok (.iload 5, 2) := by decide +kernel
theorem dX6_move_94 : decode cX6_move 94 = .ok (.invokevirtual 232, 3) := by decide +kernel
theorem dX6_move_97 : decode cX6_move 97 = .ok (.ifCond .ne 9, 3) := by decide +kernel
theorem dX6_move_100 : decode cX6_move 100 = .ok (.aload_n 0, 1) := by decide +kernel
theorem dX6_move_101 : decode cX6_move 101 = .ok (.iconst 1, 1) := by decide +kernel
theorem dX6_move_102 : decode cX6_move 102 = .ok (.invokevirtual 66, 3) := by decide +kernel
theorem dX6_move_105 : decode cX6_move 105 = .ok (.ireturn, 1) := by decide +kernel
theorem dX6_move_106 : decode cX6_move 106 = .ok (.aload 6, 2) := by decide +kernel
theorem dX6_move_108 : decode cX6_move 108 = .ok (.getfield 235, 3) := by decide +kernel
theorem dX6_move_111 : decode cX6_move 111 = .ok (.iload_n 2, 1) := by decide +kernel
theorem dX6_move_112 : decode cX6_move 112 = .ok (.aload 7, 2) := by decide +kernel
theorem dX6_move_114 : decode cX6_move 114 = .ok (.getfield 235, 3) := by decide +kernel
theorem dX6_move_117 : decode cX6_move 117 = .ok (.iload 4, 2) := by decide +kernel
theorem dX6_move_119 : decode cX6_move 119 = .ok (.iload 5, 2) := by decide +kernel
theorem dX6_move_121 : decode cX6_move 121 = .ok (.invokestatic 238, 3) := by decide +kernel
theorem dX6_move_124 : decode cX6_move 124 = .ok (.iload 5, 2) := by decide +kernel
theorem dX6_move_126 : decode cX6_move 126 = .ok (.ireturn, 1) := by decide +kernel
theorem dX6_rues_0 : decode cX6_rues 0 = .ok (.iload_n 1, 1) := by decide +kernel
theorem dX6_rues_1 : decode cX6_rues 1 = .ok (.invokestatic 196, 3) := by decide +kernel
theorem dX6_rues_4 : decode cX6_rues 4 = .ok (.ifCond .ne 9, 3) := by decide +kernel
theorem dX6_rues_7 : decode cX6_rues 7 = .ok (.aload_n 0, 1) := by decide +kernel
theorem dX6_rues_8 : decode cX6_rues 8 = .ok (.iconst 1, 1) := by decide +kernel
theorem dX6_rues_9 : decode cX6_rues 9 = .ok (.invokevirtual 66, 3) := by decide +kernel
theorem dX6_rues_12 : decode cX6_rues 12 = .ok (.ireturn, 1) := by decide +kernel
theorem dX6_rues_13 : decode cX6_rues 13 = .ok (.aload_n 0, 1) := by decide +kernel
theorem dX6_rues_14 : decode cX6_rues 14 = .ok (.getfield 50, 3) := by decide +kernel
theorem dX6_rues_17 : decode cX6_rues 17 = .ok (.iload_n 1, 1) := by decide +kernel
theorem dX6_rues_18 : decode cX6_rues 18 = .ok (.aaload, 1) := by decide +kernel
theorem dX6_rues_19 : decode cX6_rues 19 = .ok (.astore_n 2, 1) := by decide +kernel
theorem dX6_rues_20 : decode cX6_rues 20 = .ok (.aload_n 2, 1) := by decide +kernel
theorem dX6_rues_21 : decode cX6_rues 21 = .ok (.getfield 199, 3) := by decide +kernel
theorem dX6_rues_24 : decode cX6_rues 24 = .ok (.ifCond .ne 9, 3) := by decide +kernel
theorem dX6_rues_27 : decode cX6_rues 27 = .ok (.aload_n 0, 1) := by decide +kernel
theorem dX6_rues_28 : decode cX6_rues 28 = .ok (.iconst 2, 1) := by decide +kernel
theorem dX6_rues_29 : decode cX6_rues 29 = .ok (.invokevirtual 66, 3) := by decide +kernel
theorem dX6_rues_32 : decode cX6_rues 32 = .ok (.ireturn, 1) := by decide +kernel
theorem dX6_rues_33 : decode cX6_rues 33 = .ok (.aload_n 2, 1) := by decide +kernel
theorem dX6_rues_34 : decode cX6_rues 34 = .ok (.getfield 202, 3) := by decide +kernel
theorem dX6_rues_37 : decode cX6_rues 37 = .ok (.aload_n 0, 1) := by decide +kernel
theorem dX6_rues_38 : decode cX6_rues 38 = .ok (.getfield 10, 3) := by decide +kernel
theorem dX6_rues_41 : decode cX6_rues 41 = .ok (.getfield 70, 3) := by decide +kernel
theorem dX6_rues_44 : decode cX6_rues 44 = .ok (.getfield 73, 3) := by decide +kernel
theorem dX6_rues_47 : decode cX6_rues 47 = .ok (.invokestatic 244, 3) := by decide +kernel
theorem dX6_rues_50 : decode cX6_rues 50 = .ok (.istore_n 3, 1) := by decide +kernel
theorem dX6_rues_51 : decode cX6_rues 51 = .ok (.iconst 0, 1) := by decide +kernel
theorem dX6_rues_52 : decode cX6_rues 52 = .ok (.istore 4, 2) := by decide +kernel
theorem dX6_rues_54 : decode cX6_rues 54 = .ok (.iload 4, 2) := by decide +kernel
theorem dX6_rues_56 : decode cX6_rues 56 = .ok (.iload_n 3, 1) := by decide +kernel
theorem dX6_rues_57 : decode cX6_rues 57 = .ok (.if_icmp .ge 49, 3) := by decide +kernel
theorem dX6_rues_60 : decode cX6_rues 60 = .ok (.aload_n 2, 1) := by decide +kernel
theorem dX6_rues_61 : decode cX6_rues 61 = .ok (.getfield 235, 3) := by decide +kernel
theorem dX6_rues_64 : decode cX6_rues 64 = .ok (.iload 4, 2) := by decide +kernel
theorem dX6_rues_66 : decode cX6_rues 66 = .ok (.iaload, 1) := by decide +kernel
theorem dX6_rues_67 : decode cX6_rues 67 = .ok (.iconst 0, 1) := by decide +kernel
theorem dX6_rues_68 : decode cX6_rues 68 = .ok (.sipush 999, 3) := by decide +kernel
theorem dX6_rues_71 : decode cX6_rues 71 = .ok (.invokestatic 62, 3) := by decide +kernel
theorem dX6_rues_74 : decode cX6_rues 74 = .ok (.ifCond .ne 6, 3) := by decide +kernel
theorem dX6_rues_77 : decode cX6_rues 77 = .ok (.iload 4, 2) := by decide +kernel
theorem dX6_rues_79 : decode cX6_rues 79 = .ok (.ireturn, 1) := by decide +kernel
theorem dX6_rues_80 : decode cX6_rues 80 = .ok (.aload_n 0, 1) := by decide +kernel
theorem dX6_rues_81 : decode cX6_rues 81 = .ok (.getfield 10, 3) := by decide +kernel
theorem dX6_rues_84 : decode cX6_rues 84 = .ok (.getfield 70, 3) := by decide +kernel
theorem dX6_rues_87 : decode cX6_rues 87 = .ok (.getfield 89, 3) := by decide +kernel
theorem dX6_rues_90 : decode cX6_rues 90 = .ok (.iload 4, 2) := by decide +kernel
theorem dX6_rues_92 : decode cX6_rues 92 = .ok (.aload_n 2, 1) := by decide +kernel
theorem dX6_rues_93 : decode cX6_rues 93 = .ok (.getfield 235, 3) := by decide +kernel
theorem dX6_rues_96 : decode cX6_rues 96 = .ok (.iload 4, 2) := by decide +kernel
theorem dX6_rues_98 : decode cX6_rues 98 = .ok (.iaload, 1) := by decide +kernel
theorem dX6_rues_99 : decode cX6_rues 99 = .ok (.iastore, 1) := by decide +kernel
theorem dX6_rues_100 : decode cX6_rues 100 = .ok (.iinc 4 1, 3) := by decide +kernel
theorem dX6_rues_103 : decode cX6_rues 103 = .ok (.goto (-49), 3) := by decide +kernel
theorem dX6_rues_106 : decode cX6_rues 106 = .ok (.iload_n 3, 1) := by decide +kernel
theorem dX6_rues_107 : decode cX6_rues 107 = .ok (.ireturn, 1) := by decide +kernel
theorem dX6_judge_0 : decode cX6_judge 0 = .ok (.iload_n 1, 1) := by decide +kernel
theorem dX6_judge_1 : decode cX6_judge 1 = .ok (.invokestatic 196, 3) := by decide +kernel
theorem dX6_judge_4 : decode cX6_judge 4 = .ok (.ifCond .ne 9, 3) := by decide +kernel
theorem dX6_judge_7 : decode cX6_judge 7 = .ok (.aload_n 0, 1) := by decide +kernel
theorem dX6_judge_8 : decode cX6_judge 8 = .ok (.iconst 1, 1) := by decide +kernel
theorem dX6_judge_9 : decode cX6_judge 9 = .ok (.invokevirtual 66, 3) := by decide +kernel
theorem dX6_judge_12 : decode cX6_judge 12 = .ok (.ireturn, 1) := by decide +kernel
theorem dX6_judge_13 : decode cX6_judge 13 = .ok (.aload_n 0, 1) := by decide +kernel
theorem dX6_judge_14 : decode cX6_judge 14 = .ok (.getfield 50, 3) := by decide +kernel
theorem dX6_judge_17 : decode cX6_judge 17 = .ok (.iload_n 1, 1) := by decide +kernel
theorem dX6_judge_18 : decode cX6_judge 18 = .ok (.aaload, 1) := by decide +kernel
theorem dX6_judge_19 : decode cX6_judge 19 = .ok (.astore_n 2, 1) := by decide +kernel
theorem dX6_judge_20 : decode cX6_judge 20 = .ok (.aload_n 2, 1) := by decide +kernel
theorem dX6_judge_21 : decode cX6_judge 21 = .ok (.getfield 199, 3) := by decide +kernel
theorem dX6_judge_24 : decode cX6_judge 24 = .ok (.ifCond .ne 9, 3) := by decide +kernel
theorem dX6_judge_27 : decode cX6_judge 27 = .ok (.aload_n 0, 1) := by decide +kernel
theorem dX6_judge_28 : decode cX6_judge 28 = .ok (.iconst 2, 1) := by decide +kernel
theorem dX6_judge_29 : decode cX6_judge 29 = .ok (.invokevirtual 66, 3) := by decide +kernel
theorem dX6_judge_32 : decode cX6_judge 32 = .ok (.ireturn, 1) := by decide +kernel
theorem dX6_judge_33 : decode cX6_judge 33 = .ok (.aload_n 2, 1) := by decide +kernel
theorem dX6_judge_34 : decode cX6_judge 34 = .ok (.getfield 202, 3) := by decide +kernel
theorem dX6_judge_37 : decode cX6_judge 37 = .ok (.aload_n 0, 1) := by decide +kernel
theorem dX6_judge_38 : decode cX6_judge 38 = .ok (.getfield 10, 3) := by decide +kernel
theorem dX6_judge_41 : decode cX6_judge 41 = .ok (.getfield 70, 3) := by decide +kernel
theorem dX6_judge_44 : decode cX6_judge 44 = .ok (.getfield 73, 3) := by decide +kernel
theorem dX6_judge_47 : decode cX6_judge 47 = .ok (.invokestatic 244, 3) := by decide +kernel
theorem dX6_judge_50 : decode cX6_judge 50 = .ok (.istore_n 3, 1) := by decide +kernel
theorem dX6_judge_51 : decode cX6_judge 51 = .ok (.iconst 0, 1) := by decide +kernel
theorem dX6_judge_52 : decode cX6_judge 52 = .ok (.istore 4, 2) := by decide +kernel
theorem dX6_judge_54 : decode cX6_judge 54 = .ok (.iload 4, 2) := by decide +kernel
theorem dX6_judge_56 : decode cX6_judge 56 = .ok (.iload_n 3, 1) := by decide +kernel
theorem dX6_judge_57 : decode cX6_judge 57 = .ok (.if_icmp .ge 35, 3) := by decide +kernel
theorem dX6_judge_60 : decode cX6_judge 60 = .ok (.aload_n 2, 1) := by decide +kernel
theorem dX6_judge_61 : decode cX6_judge 61 = .ok (.getfield 235, 3) := by decide +kernel
theorem dX6_judge_64 : decode cX6_judge 64 = .ok (.iload 4, 2) := by decide +kernel
theorem dX6_judge_66 : decode cX6_judge 66 = .ok (.iaload, 1) := by decide +kernel
theorem dX6_judge_67 : decode cX6_judge 67 = .ok (.aload_n 0, 1) := by decide +kernel
theorem dX6_judge_68 : decode cX6_judge 68 = .ok (.getfield 10, 3) := by decide +kernel
theorem dX6_judge_71 : decode cX6_judge 71 = .ok (.getfield 70, 3) := by decide +kernel
theorem dX6_judge_74 : decode cX6_judge 74 = .ok (.getfield 111, 3) := by decide +kernel
theorem dX6_judge_77 : decode cX6_judge 77 = .ok (.iload 4, 2) := by decide +kernel
theorem dX6_judge_79 : decode cX6_judge 79 = .ok (.iaload, 1) := by decide +kernel
theorem dX6_judge_80 : decode cX6_judge 80 = .ok (.if_icmp .eq 6, 3) := by decide +kernel
theorem dX6_judge_83 : decode cX6_judge 83 = .ok (.iload 4, 2) := by decide +kernel
theorem dX6_judge_85 : decode cX6_judge 85 = .ok (.ireturn, 1) := by decide +kernel
theorem dX6_judge_86 : decode cX6_judge 86 = .ok (.iinc 4 1, 3) := by decide +kernel
theorem dX6_judge_89 : decode cX6_judge 89 = .ok (.goto (-35), 3) := by decide +kernel
theorem dX6_judge_92 : decode cX6_judge 92 = .ok (.aload_n 2, 1) := by decide +kernel
theorem dX6_judge_93 : decode cX6_judge 93 = .ok (.getfield 202, 3) := by decide +kernel
theorem dX6_judge_96 : decode cX6_judge 96 = .ok (.aload_n 0, 1) := by decide +kernel
theorem dX6_judge_97 : decode cX6_judge 97 = .ok (.getfield 10, 3) := by decide +kernel
theorem dX6_judge_100 : decode cX6_judge 100 = .ok (.getfield 70, 3) := by decide +kernel
theorem dX6_judge_103 : decode cX6_judge 103 = .ok (.getfield 73, 3) := by decide +kernel
theorem dX6_judge_106 : decode cX6_judge 106 = .ok (.if_icmp .ne 7, 3) := by decide +kernel
theorem dX6_judge_109 : decode cX6_judge 109 = .ok (.iconst (-1), 1) := by decide +kernel
theorem dX6_judge_110 : decode cX6_judge 110 = .ok (.goto 4, 3) := by decide +kernel
theorem dX6_judge_113 : decode cX6_judge 113 = .ok (.iload_n 3, 1) := by decide +kernel
theorem dX6_judge_114 : decode cX6_judge 114 = .ok (.ireturn, 1) := by decide +kernel
theorem dX6_image_0 : decode cX6_image 0 = .ok (.aload_n 0, 1) := by decide +kernel
theorem dX6_image_1 : decode cX6_image 1 = .ok (.getfield 16, 3) := by decide +kernel
theorem dX6_image_4 : decode cX6_image 4 = .ok (.aload_n 0, 1) := by decide +kernel
theorem dX6_image_5 : decode cX6_image 5 = .ok (.getfield 10, 3) := by decide +kernel
theorem dX6_image_8 : decode cX6_image 8 = .ok (.invokevirtual 249, 3) := by decide +kernel
theorem dX6_image_11 : decode cX6_image 11 = .ok (.aload_n 0, 1) := by decide +kernel
theorem dX6_image_12 : decode cX6_image 12 = .ok (.dup, 1) := by decide +kernel
theorem dX6_image_13 : decode cX6_image 13 = .ok (.getfield 19, 3) := by decide +kernel
theorem dX6_image_16 : decode cX6_image 16 = .ok (.iconst 1, 1) := by decide +kernel
theorem dX6_image_17 : decode cX6_image 17 = .ok (.iadd, 1) := by decide +kernel
theorem dX6_image_18 : decode cX6_image 18 = .ok (.putfield 19, 3) := by decide +kernel
theorem dX6_image_21 : decode cX6_image 21 = .ok (.aload_n 0, 1) := by decide +kernel
theorem dX6_image_22 : decode cX6_image 22 = .ok (.getfield 19, 3) := by decide +kernel
theorem dX6_image_25 : decode cX6_image 25 = .ok (.ireturn, 1) := by decide +kernel
theorem dX6_restore_0 : decode cX6_restore 0 = .ok (.aload_n 0, 1) := by decide +kernel
theorem dX6_restore_1 : decode cX6_restore 1 = .ok (.getfield 19, 3) := by decide +kernel
theorem dX6_restore_4 : decode cX6_restore 4 = .ok (.ifCond .ne 9, 3) := by decide +kernel
theorem dX6_restore_7 : decode cX6_restore 7 = .ok (.aload_n 0, 1) := by decide +kernel
theorem dX6_restore_8 : decode cX6_restore 8 = .ok (.iconst 2, 1) := by decide +kernel
theorem dX6_restore_9 : decode cX6_restore 9 = .ok (.invokevirtual 66, 3) := by decide +kernel
theorem dX6_restore_12 : decode cX6_restore 12 = .ok (.ireturn, 1) := by decide +kernel
theorem dX6_restore_13 : decode cX6_restore 13 = .ok (.aload_n 0, 1) := by decide +kernel
theorem dX6_restore_14 : decode cX6_restore 14 = .ok (.getfield 10, 3) := by decide +kernel
theorem dX6_restore_17 : decode cX6_restore 17 = .ok (.aload_n 0, 1) := by decide +kernel
theorem dX6_restore_18 : decode cX6_restore 18 = .ok (.getfield 16, 3) := by decide +kernel
theorem dX6_restore_21 : decode cX6_restore 21 = .ok (.invokevirtual 249, 3) := by decide +kernel
theorem dX6_restore_24 : decode cX6_restore 24 = .ok (.aload_n 0, 1) := by decide +kernel
theorem dX6_restore_25 : decode cX6_restore 25 = .ok (.getfield 10, 3) := by decide +kernel
theorem dX6_restore_28 : decode cX6_restore 28 = .ok (.getfield 162, 3) := by decide +kernel
theorem dX6_restore_31 : decode cX6_restore 31 = .ok (.ireturn, 1) := by decide +kernel
theorem dX6_tell_0 : decode cX6_tell 0 = .ok (.aload_n 0, 1) := by decide +kernel
theorem dX6_tell_1 : decode cX6_tell 1 = .ok (.getfield 10, 3) := by decide +kernel
theorem dX6_tell_4 : decode cX6_tell 4 = .ok (.getfield 252, 3) := by decide +kernel
theorem dX6_tell_7 : decode cX6_tell 7 = .ok (.bipush 20, 2) := by decide +kernel
theorem dX6_tell_9 : decode cX6_tell 9 = .ok (.if_icmp .lt 9, 3) := by decide +kernel
theorem dX6_tell_12 : decode cX6_tell 12 = .ok (.aload_n 0, 1) := by decide +kernel
theorem dX6_tell_13 : decode cX6_tell 13 = .ok (.iconst 4, 1) := by decide +kernel
theorem dX6_tell_14 : decode cX6_tell 14 = .ok (.invokevirtual 66, 3) := by decide +kernel
theorem dX6_tell_17 : decode cX6_tell 17 = .ok (.ireturn, 1) := by decide +kernel
theorem dX6_tell_18 : decode cX6_tell 18 = .ok (.aload_n 0, 1) := by decide +kernel
theorem dX6_tell_19 : decode cX6_tell 19 = .ok (.getfield 10, 3) := by decide +kernel
theorem dX6_tell_22 : decode cX6_tell 22 = .ok (.getfield 255, 3) := by decide +kernel
theorem dX6_tell_25 : decode cX6_tell 25 = .ok (.aload_n 0, 1) := by decide +kernel
theorem dX6_tell_26 : decode cX6_tell 26 = .ok (.getfield 10, 3) := by decide +kernel
theorem dX6_tell_29 : decode cX6_tell 29 = .ok (.getfield 252, 3) := by decide +kernel
theorem dX6_tell_32 : decode cX6_tell 32 = .ok (.iload_n 1, 1) := by decide +kernel
theorem dX6_tell_33 : decode cX6_tell 33 = .ok (.iastore, 1) := by decide +kernel
theorem dX6_tell_34 : decode cX6_tell 34 = .ok (.aload_n 0, 1) := by decide +kernel
theorem dX6_tell_35 : decode cX6_tell 35 = .ok (.getfield 10, 3) := by decide +kernel
theorem dX6_tell_38 : decode cX6_tell 38 = .ok (.dup, 1) := by decide +kernel
theorem dX6_tell_39 : decode cX6_tell 39 = .ok (.getfield 252, 3) := by decide +kernel
theorem dX6_tell_42 : decode cX6_tell 42 = .ok (.iconst 1, 1) := by decide +kernel
theorem dX6_tell_43 : decode cX6_tell 43 = .ok (.iadd, 1) := by decide +kernel
theorem dX6_tell_44 : decode cX6_tell 44 = .ok (.putfield 252, 3) := by decide +kernel
theorem dX6_tell_47 : decode cX6_tell 47 = .ok (.aload_n 0, 1) := by decide +kernel
theorem dX6_tell_48 : decode cX6_tell 48 = .ok (.getfield 10, 3) := by decide +kernel
theorem dX6_tell_51 : decode cX6_tell 51 = .ok (.getfield 252, 3) := by decide +kernel
theorem dX6_tell_54 : decode cX6_tell 54 = .ok (.ireturn, 1) := by decide +kernel
theorem dX6_check_0 : decode cX6_check 0 = .ok (.aload_n 0, 1) := by decide +kernel
theorem dX6_check_1 : decode cX6_check 1 = .ok (.getfield 10, 3) := by decide +kernel
theorem dX6_check_4 : decode cX6_check 4 = .ok (.getfield 252, 3) := by decide +kernel
theorem dX6_check_7 : decode cX6_check 7 = .ok (.istore_n 1, 1) := by decide +kernel
theorem dX6_check_8 : decode cX6_check 8 = .ok (.aload_n 0, 1) := by decide +kernel
theorem dX6_check_9 : decode cX6_check 9 = .ok (.getfield 10, 3) := by decide +kernel
theorem dX6_check_12 : decode cX6_check 12 = .ok (.iconst 0, 1) := by decide +kernel
theorem dX6_check_13 : decode cX6_check 13 = .ok (.putfield 252, 3) := by decide +kernel
theorem dX6_check_16 : decode cX6_check 16 = .ok (.aload_n 0, 1) := by decide +kernel
theorem dX6_check_17 : decode cX6_check 17 = .ok (.getfield 26, 3) := by decide +kernel
theorem dX6_check_20 : decode cX6_check 20 = .ok (.aload_n 0, 1) := by decide +kernel
theorem dX6_check_21 : decode cX6_check 21 = .ok (.getfield 10, 3) := by decide +kernel
theorem dX6_check_24 : decode cX6_check 24 = .ok (.getfield 70, 3) := by decide +kernel
theorem dX6_check_27 : decode cX6_check 27 = .ok (.invokevirtual 179, 3) := by decide +kernel
theorem dX6_check_30 : decode cX6_check 30 = .ok (.iconst 0, 1) := by decide +kernel
theorem dX6_check_31 : decode cX6_check 31 = .ok (.istore_n 2, 1) := by decide +kernel
theorem dX6_check_32 : decode cX6_check 32 = .ok (.iload_n 2, 1) := by decide +kernel
theorem dX6_check_33 : decode cX6_check 33 = .ok (.iload_n 1, 1) := by decide +kernel
theorem dX6_check_34 : decode cX6_check 34 = .ok (.if_icmp .ge 47, 3) := by decide +kernel
theorem dX6_check_37 : decode cX6_check 37 = .ok (.aload_n 0, 1) := by decide +kernel
theorem dX6_check_38 : decode cX6_check 38 = .ok (.getfield 26, 3) := by decide +kernel
theorem dX6_check_41 : decode cX6_check 41 = .ok (.iconst 1, 1) := by decide +kernel
theorem dX6_check_42 : decode cX6_check 42 = .ok (.aload_n 0, 1) := by decide +kernel
theorem dX6_check_43 : decode cX6_check 43 = .ok (.getfield 10, 3) := by decide +kernel
theorem dX6_check_46 : decode cX6_check 46 = .ok (.getfield 165, 3) := by decide +kernel
theorem dX6_check_49 : decode cX6_check 49 = .ok (.invokevirtual 168, 3) := by decide +kernel
theorem dX6_check_52 : decode cX6_check 52 = .ok (.aload_n 0, 1) := by decide +kernel
theorem dX6_check_53 : decode cX6_check 53 = .ok (.getfield 26, 3) := by decide +kernel
theorem dX6_check_56 : decode cX6_check 56 = .ok (.invokevirtual 172, 3) := by decide +kernel
theorem dX6_check_59 : decode cX6_check 59 = .ok (.aload_n 0, 1) := by decide +kernel
theorem dX6_check_60 : decode cX6_check 60 = .ok (.getfield 10, 3) := by decide +kernel
theorem dX6_check_63 : decode cX6_check 63 = .ok (.getfield 255, 3) := by decide +kernel
theorem dX6_check_66 : decode cX6_check 66 = .ok (.iload_n 2, 1) := by decide +kernel
theorem dX6_check_67 : decode cX6_check 67 = .ok (.iaload, 1) := by decide +kernel
theorem dX6_check_68 : decode cX6_check 68 = .ok (.if_icmp .eq 7, 3) := by decide +kernel
theorem dX6_check_71 : decode cX6_check 71 = .ok (.iconst 1, 1) := by decide +kernel
theorem dX6_check_72 : decode cX6_check 72 = .ok (.iload_n 2, 1) := by decide +kernel
theorem dX6_check_73 : decode cX6_check 73 = .ok (.iadd, 1) := by decide +kernel
theorem dX6_check_74 : decode cX6_check 74 = .ok (.ireturn, 1) := by decide +kernel
theorem dX6_check_75 : decode cX6_check 75 = .ok (.iinc 2 1, 3) := by decide +kernel
theorem dX6_check_78 : decode cX6_check 78 = .ok (.goto (-46), 3) := by decide +kernel
theorem dX6_check_81 : decode cX6_check 81 = .ok (.iconst 0, 1) := by decide +kernel
theorem dX6_check_82 : decode cX6_check 82 = .ok (.ireturn, 1) := by decide +kernel
theorem dX6_count_0 : decode cX6_count 0 = .ok (.iload_n 1, 1) := by decide +kernel
theorem dX6_count_1 : decode cX6_count 1 = .ok (.tableswitch 150 0 9 #[55, 66, 74, 85, 96, 107, 118, 126, 134, 142], 55) := by decide +kernel
theorem dX6_count_56 : decode cX6_count 56 = .ok (.aload_n 0, 1) := by decide +kernel
theorem dX6_count_57 : decode cX6_count 57 = .ok (.getfield 10, 3) := by decide +kernel
theorem dX6_count_60 : decode cX6_count 60 = .ok (.getfield 70, 3) := by decide +kernel
theorem dX6_count_63 : decode cX6_count 63 = .ok (.getfield 73, 3) := by decide +kernel
theorem dX6_count_66 : decode cX6_count 66 = .ok (.ireturn, 1) := by decide +kernel
theorem dX6_count_67 : decode cX6_count 67 = .ok (.aload_n 0, 1) := by decide +kernel
theorem dX6_count_68 : decode cX6_count 68 = .ok (.getfield 10, 3) := by decide +kernel
theorem dX6_count_71 : decode cX6_count 71 = .ok (.getfield 162, 3) := by decide +kernel
theorem dX6_count_74 : decode cX6_count 74 = .ok (.ireturn, 1) := by decide +kernel
theorem dX6_count_75 : decode cX6_count 75 = .ok (.aload_n 0, 1) := by decide +kernel
theorem dX6_count_76 : decode cX6_count 76 = .ok (.getfield 10, 3) := by decide +kernel
theorem dX6_count_79 : decode cX6_count 79 = .ok (.getfield 70, 3) := by decide +kernel
theorem dX6_count_82 : decode cX6_count 82 = .ok (.invokevirtual 172, 3) := by decide +kernel
theorem dX6_count_85 : decode cX6_count 85 = .ok (.ireturn, 1) := by decide +kernel
theorem dX6_count_86 : decode cX6_count 86 = .ok (.aload_n 0, 1) := by decide +kernel
theorem dX6_count_87 : decode cX6_count 87 = .ok (.getfield 10, 3) := by decide +kernel
theorem dX6_count_90 : decode cX6_count 90 = .ok (.getfield 70, 3) := by decide +kernel
theorem dX6_count_93 : decode cX6_count 93 = .ok (.invokevirtual 258, 3) := by decide +kernel
theorem dX6_count_96 : decode cX6_count 96 = .ok (.ireturn, 1) := by decide +kernel
theorem dX6_count_97 : decode cX6_count 97 = .ok (.aload_n 0, 1) := by decide +kernel
theorem dX6_count_98 : decode cX6_count 98 = .ok (.getfield 10, 3) := by decide +kernel
theorem dX6_count_101 : decode cX6_count 101 = .ok (.getfield 70, 3) := by decide +kernel
theorem dX6_count_104 : decode cX6_count 104 = .ok (.invokevirtual 261, 3) := by decide +kernel
theorem dX6_count_107 : decode cX6_count 107 = .ok (.ireturn, 1) := by decide +kernel
theorem dX6_count_108 : decode cX6_count 108 = .ok (.aload_n 0, 1) := by decide +kernel
theorem dX6_count_109 : decode cX6_count 109 = .ok (.getfield 10, 3) := by decide +kernel
theorem dX6_count_112 : decode cX6_count 112 = .ok (.getfield 70, 3) := by decide +kernel
theorem dX6_count_115 : decode cX6_count 115 = .ok (.invokevirtual 183, 3) := by decide +kernel
theorem dX6_count_118 : decode cX6_count 118 = .ok (.ireturn, 1) := by decide +kernel
theorem dX6_count_119 : decode cX6_count 119 = .ok (.aload_n 0, 1) := by decide +kernel
theorem dX6_count_120 : decode cX6_count 120 = .ok (.getfield 10, 3) := by decide +kernel
theorem dX6_count_123 : decode cX6_count 123 = .ok (.getfield 122, 3) := by decide +kernel
theorem dX6_count_126 : decode cX6_count 126 = .ok (.ireturn, 1) := by decide +kernel
theorem dX6_count_127 : decode cX6_count 127 = .ok (.aload_n 0, 1) := by decide +kernel
theorem dX6_count_128 : decode cX6_count 128 = .ok (.getfield 10, 3) := by decide +kernel
theorem dX6_count_131 : decode cX6_count 131 = .ok (.getfield 252, 3) := by decide +kernel
theorem dX6_count_134 : decode cX6_count 134 = .ok (.ireturn, 1) := by decide +kernel
theorem dX6_count_135 : decode cX6_count 135 = .ok (.aload_n 0, 1) := by decide +kernel
theorem dX6_count_136 : decode cX6_count 136 = .ok (.getfield 43, 3) := by decide +kernel
theorem dX6_count_139 : decode cX6_count 139 = .ok (.getfield 220, 3) := by decide +kernel
theorem dX6_count_142 : decode cX6_count 142 = .ok (.ireturn, 1) := by decide +kernel
theorem dX6_count_143 : decode cX6_count 143 = .ok (.aload_n 0, 1) := by decide +kernel
theorem dX6_count_144 : decode cX6_count 144 = .ok (.getfield 10, 3) := by decide +kernel
theorem dX6_count_147 : decode cX6_count 147 = .ok (.getfield 213, 3) := by decide +kernel
theorem dX6_count_150 : decode cX6_count 150 = .ok (.ireturn, 1) := by decide +kernel
theorem dX6_count_151 : decode cX6_count 151 = .ok (.aload_n 0, 1) := by decide +kernel
theorem dX6_count_152 : decode cX6_count 152 = .ok (.iconst 1, 1) := by decide +kernel
theorem dX6_count_153 : decode cX6_count 153 = .ok (.invokevirtual 66, 3) := by decide +kernel
theorem dX6_count_156 : decode cX6_count 156 = .ok (.ireturn, 1) := by decide +kernel
theorem dX6_told_0 : decode cX6_told 0 = .ok (.iload_n 1, 1) := by decide +kernel
theorem dX6_told_1 : decode cX6_told 1 = .ok (.iconst 1, 1) := by decide +kernel
theorem dX6_told_2 : decode cX6_told 2 = .ok (.iconst 5, 1) := by decide +kernel
theorem dX6_told_3 : decode cX6_told 3 = .ok (.invokestatic 62, 3) := by decide +kernel
theorem dX6_told_6 : decode cX6_told 6 = .ok (.ifCond .eq 12, 3) := by decide +kernel
theorem dX6_told_9 : decode cX6_told 9 = .ok (.aload_n 0, 1) := by decide +kernel
theorem dX6_told_10 : decode cX6_told 10 = .ok (.getfield 54, 3) := by decide +kernel
theorem dX6_told_13 : decode cX6_told 13 = .ok (.iload_n 1, 1) := by decide +kernel
theorem dX6_told_14 : decode cX6_told 14 = .ok (.iaload, 1) := by decide +kernel
theorem dX6_told_15 : decode cX6_told 15 = .ok (.goto 8, 3) := by decide +kernel
theorem dX6_told_18 : decode cX6_told 18 = .ok (.aload_n 0, 1) := by decide +kernel
theorem dX6_told_19 : decode cX6_told 19 = .ok (.iconst 1, 1) := by decide +kernel
theorem dX6_told_20 : decode cX6_told 20 = .ok (.invokevirtual 66, 3) := by decide +kernel
theorem dX6_told_23 : decode cX6_told 23 = .ok (.ireturn, 1) := by decide +kernel
theorem dX6_refuse_0 : decode cX6_refuse 0 = .ok (.aload_n 0, 1) := by decide +kernel
theorem dX6_refuse_1 : decode cX6_refuse 1 = .ok (.getfield 54, 3) := by decide +kernel
theorem dX6_refuse_4 : decode cX6_refuse 4 = .ok (.iload_n 1, 1) := by decide +kernel
theorem dX6_refuse_5 : decode cX6_refuse 5 = .ok (.dup2, 1) := by decide +kernel
theorem dX6_refuse_6 : decode cX6_refuse 6 = .ok (.iaload, 1) := by decide +kernel
theorem dX6_refuse_7 : decode cX6_refuse 7 = .ok (.iconst 1, 1) := by decide +kernel
theorem dX6_refuse_8 : decode cX6_refuse 8 = .ok (.iadd, 1) := by decide +kernel
theorem dX6_refuse_9 : decode cX6_refuse 9 = .ok (.iastore, 1) := by decide +kernel
theorem dX6_refuse_10 : decode cX6_refuse 10 = .ok (.ldc_w 264, 3) := by decide +kernel
theorem dX6_refuse_13 : decode cX6_refuse 13 = .ok (.iload_n 1, 1) := by decide +kernel
theorem dX6_refuse_14 : decode cX6_refuse 14 = .ok (.isub, 1) := by decide +kernel
theorem dX6_refuse_15 : decode cX6_refuse 15 = .ok (.ireturn, 1) := by decide +kernel
theorem dX6_replace_0 : decode cX6_replace 0 = .ok (.iload_n 3, 1) := by decide +kernel
theorem dX6_replace_1 : decode cX6_replace 1 = .ok (.iconst 0, 1) := by decide +kernel
theorem dX6_replace_2 : decode cX6_replace 2 = .ok (.iload 4, 2) := by decide +kernel
theorem dX6_replace_4 : decode cX6_replace 4 = .ok (.invokestatic 62, 3) := by decide +kernel
theorem dX6_replace_7 : decode cX6_replace 7 = .ok (.ifCond .ne 9, 3) := by decide +kernel
theorem dX6_replace_10 : decode cX6_replace 10 = .ok (.aload_n 0, 1) := by decide +kernel
theorem dX6_replace_11 : decode cX6_replace 11 = .ok (.iconst 1, 1) := by decide +kernel
theorem dX6_replace_12 : decode cX6_replace 12 = .ok (.invokevirtual 66, 3) := by decide +kernel
theorem dX6_replace_15 : decode cX6_replace 15 = .ok (.ireturn, 1) := by decide +kernel
theorem dX6_replace_16 : decode cX6_replace 16 = .ok (.aload_n 1, 1) := by decide +kernel
theorem dX6_replace_17 : decode cX6_replace 17 = .ok (.iload_n 2, 1) := by decide +kernel
theorem dX6_replace_18 : decode cX6_replace 18 = .ok (.iaload, 1) := by decide +kernel
theorem dX6_replace_19 : decode cX6_replace 19 = .ok (.istore 5, 2) := by decide +kernel
theorem dX6_replace_21 : decode cX6_replace 21 = .ok (.aload_n 1, 1) := by decide +kernel
theorem dX6_replace_22 : decode cX6_replace 22 = .ok (.iload_n 2, 1) := by decide +kernel
theorem dX6_replace_23 : decode cX6_replace 23 = .ok (.iload_n 3, 1) := by decide +kernel
theorem dX6_replace_24 : decode cX6_replace 24 = .ok (.iastore, 1) := by decide +kernel
theorem dX6_replace_25 : decode cX6_replace 25 = .ok (.iload 5, 2) := by decide +kernel
theorem dX6_replace_27 : decode cX6_replace 27 = .ok (.ireturn, 1) := by decide +kernel
theorem dX6_isGuest_0 : decode cX6_isGuest 0 = .ok (.iload_n 1, 1) := by decide +kernel
theorem dX6_isGuest_1 : decode cX6_isGuest 1 = .ok (.ifCond .lt 21, 3) := by decide +kernel
theorem dX6_isGuest_4 : decode cX6_isGuest 4 = .ok (.iload_n 1, 1) := by decide +kernel
theorem dX6_isGuest_5 : decode cX6_isGuest 5 = .ok (.aload_n 0, 1) := by decide +kernel
theorem dX6_isGuest_6 : decode cX6_isGuest 6 = .ok (.getfield 10, 3) := by decide +kernel
theorem dX6_isGuest_9 : decode cX6_isGuest 9 = .ok (.getfield 70, 3) := by decide +kernel
theorem dX6_isGuest_12 : decode cX6_isGuest 12 = .ok (.getfield 73, 3) := by decide +kernel
theorem dX6_isGuest_15 : decode cX6_isGuest 15 = .ok (.if_icmp .ge 7, 3) := by decide +kernel
theorem dX6_isGuest_18 : decode cX6_isGuest 18 = .ok (.iconst 1, 1) := by decide +kernel
theorem dX6_isGuest_19 : decode cX6_isGuest 19 = .ok (.goto 4, 3) := by decide +kernel
theorem dX6_isGuest_22 : decode cX6_isGuest 22 = .ok (.iconst 0, 1) := by decide +kernel
theorem dX6_isGuest_23 : decode cX6_isGuest 23 = .ok (.ireturn, 1) := by decide +kernel
theorem dX6_isPeg_0 : decode cX6_isPeg 0 = .ok (.aload_n 0, 1) := by decide +kernel
theorem dX6_isPeg_1 : decode cX6_isPeg 1 = .ok (.iload_n 1, 1) := by decide +kernel
theorem dX6_isPeg_2 : decode cX6_isPeg 2 = .ok (.invokevirtual 80, 3) := by decide +kernel
theorem dX6_isPeg_5 : decode cX6_isPeg 5 = .ok (.ireturn, 1) := by decide +kernel
theorem dX6_isSheet_0 : decode cX6_isSheet 0 = .ok (.iload_n 0, 1) := by decide +kernel
theorem dX6_isSheet_1 : decode cX6_isSheet 1 = .ok (.ifCond .lt 12, 3) := by decide +kernel
theorem dX6_isSheet_4 : decode cX6_isSheet 4 = .ok (.iload_n 0, 1) := by decide +kernel
theorem dX6_isSheet_5 : decode cX6_isSheet 5 = .ok (.iconst 4, 1) := by decide +kernel
theorem dX6_isSheet_6 : decode cX6_isSheet 6 = .ok (.if_icmp .ge 7, 3) := by decide +kernel
theorem dX6_isSheet_9 : decode cX6_isSheet 9 = .ok (.iconst 1, 1) := by decide +kernel
theorem dX6_isSheet_10 : decode cX6_isSheet 10 = .ok (.goto 4, 3) := by decide +kernel
theorem dX6_isSheet_13 : decode cX6_isSheet 13 = .ok (.iconst 0, 1) := by decide +kernel
theorem dX6_isSheet_14 : decode cX6_isSheet 14 = .ok (.ireturn, 1) := by decide +kernel
theorem dX6_isWithin_0 : decode cX6_isWithin 0 = .ok (.iload_n 0, 1) := by decide +kernel
theorem dX6_isWithin_1 : decode cX6_isWithin 1 = .ok (.iload_n 1, 1) := by decide +kernel
theorem dX6_isWithin_2 : decode cX6_isWithin 2 = .ok (.if_icmp .lt 12, 3) := by decide +kernel
theorem dX6_isWithin_5 : decode cX6_isWithin 5 = .ok (.iload_n 0, 1) := by decide +kernel
theorem dX6_isWithin_6 : decode cX6_isWithin 6 = .ok (.iload_n 2, 1) := by decide +kernel
theorem dX6_isWithin_7 : decode cX6_isWithin 7 = .ok (.if_icmp .gt 7, 3) := by decide +kernel
theorem dX6_isWithin_10 : decode cX6_isWithin 10 = .ok (.iconst 1, 1) := by decide +kernel
theorem dX6_isWithin_11 : decode cX6_isWithin 11 = .ok (.goto 4, 3) := by decide +kernel
theorem dX6_isWithin_14 : decode cX6_isWithin 14 = .ok (.iconst 0, 1) := by decide +kernel
theorem dX6_isWithin_15 : decode cX6_isWithin 15 = .ok (.ireturn, 1) := by decide +kernel
theorem dX6_isKindAndNumber_0 : decode cX6_isKindAndNumber 0 = .ok (.iload_n 0, 1) := by decide +kernel
theorem dX6_isKindAndNumber_1 : decode cX6_isKindAndNumber 1 = .ok (.iconst 0, 1) := by decide +kernel
theorem dX6_isKindAndNumber_2 : decode cX6_isKindAndNumber 2 = .ok (.bipush 69, 2) := by decide +kernel
theorem dX6_isKindAndNumber_4 : decode cX6_isKindAndNumber 4 = .ok (.invokestatic 62, 3) := by decide +kernel
theorem dX6_isKindAndNumber_7 : decode cX6_isKindAndNumber 7 = .ok (.ireturn, 1) := by decide +kernel
theorem dX6_isUnder_0 : decode cX6_isUnder 0 = .ok (.iload_n 0, 1) := by decide +kernel
theorem dX6_isUnder_1 : decode cX6_isUnder 1 = .ok (.istore_n 2, 1) := by decide +kernel
theorem dX6_isUnder_2 : decode cX6_isUnder 2 = .ok (.iconst 0, 1) := by decide +kernel
theorem dX6_isUnder_3 : decode cX6_isUnder 3 = .ok (.istore_n 3, 1) := by decide +kernel
theorem dX6_isUnder_4 : decode cX6_isUnder 4 = .ok (.iload_n 3, 1) := by decide +kernel
theorem dX6_isUnder_5 : decode cX6_isUnder 5 = .ok (.bipush 7, 2) := by decide +kernel
theorem dX6_isUnder_7 : decode cX6_isUnder 7 = .ok (.if_icmp .ge 26, 3) := by decide +kernel
theorem dX6_isUnder_10 : decode cX6_isUnder 10 = .ok (.iload_n 2, 1) := by decide +kernel
theorem dX6_isUnder_11 : decode cX6_isUnder 11 = .ok (.ifCond .lt 22, 3) := by decide +kernel
theorem dX6_isUnder_14 : decode cX6_isUnder 14 = .ok (.iload_n 2, 1) := by decide +kernel
theorem dX6_isUnder_15 : decode cX6_isUnder 15 = .ok (.iload_n 1, 1) := by decide +kernel
theorem dX6_isUnder_16 : decode cX6_isUnder 16 = .ok (.if_icmp .ne 5, 3) := by decide +kernel
theorem dX6_isUnder_19 : decode cX6_isUnder 19 = .ok (.iconst 1, 1) := by decide +kernel
theorem dX6_isUnder_20 : decode cX6_isUnder 20 = .ok (.ireturn, 1) := by decide +kernel
theorem dX6_isUnder_21 : decode cX6_isUnder 21 = .ok (.getstatic 265, 3) := by decide +kernel
theorem dX6_isUnder_24 : decode cX6_isUnder 24 = .ok (.iload_n 2, 1) := by decide +kernel
theorem dX6_isUnder_25 : decode cX6_isUnder 25 = .ok (.iaload, 1) := by decide +kernel
theorem dX6_isUnder_26 : decode cX6_isUnder 26 = .ok (.istore_n 2, 1) := by decide +kernel
theorem dX6_isUnder_27 : decode cX6_isUnder 27 = .ok (.iinc 3 1, 3) := by decide +kernel
theorem dX6_isUnder_30 : decode cX6_isUnder 30 = .ok (.goto (-26), 3) := by decide +kernel
theorem dX6_isUnder_33 : decode cX6_isUnder 33 = .ok (.iconst 0, 1) := by decide +kernel
theorem dX6_isUnder_34 : decode cX6_isUnder 34 = .ok (.ireturn, 1) := by decide +kernel
theorem dX6_useLaw_0 : decode cX6_useLaw 0 = .ok (.iload_n 1, 1) := by decide +kernel
theorem dX6_useLaw_1 : decode cX6_useLaw 1 = .ok (.ifCond .ne 13, 3) := by decide +kernel
theorem dX6_useLaw_4 : decode cX6_useLaw 4 = .ok (.aload_n 0, 1) := by decide +kernel
theorem dX6_useLaw_5 : decode cX6_useLaw 5 = .ok (.getfield 10, 3) := by decide +kernel
theorem dX6_useLaw_8 : decode cX6_useLaw 8 = .ok (.getfield 154, 3) := by decide +kernel
theorem dX6_useLaw_11 : decode cX6_useLaw 11 = .ok (.goto 10, 3) := by decide +kernel
theorem dX6_useLaw_14 : decode cX6_useLaw 14 = .ok (.aload_n 0, 1) := by decide +kernel
theorem dX6_useLaw_15 : decode cX6_useLaw 15 = .ok (.getfield 10, 3) := by decide +kernel
theorem dX6_useLaw_18 : decode cX6_useLaw 18 = .ok (.getfield 165, 3) := by decide +kernel
theorem dX6_useLaw_21 : decode cX6_useLaw 21 = .ok (.areturn, 1) := by decide +kernel
theorem dX6_pegHavingDanced_0 : decode cX6_pegHavingDanced 0 = .ok (.aload_n 0, 1) := by decide +kernel
theorem dX6_pegHavingDanced_1 : decode cX6_pegHavingDanced 1 = .ok (.getfield 26, 3) := by decide +kernel
theorem dX6_pegHavingDanced_4 : decode cX6_pegHavingDanced 4 = .ok (.aload_n 0, 1) := by decide +kernel
theorem dX6_pegHavingDanced_5 : decode cX6_pegHavingDanced 5 = .ok (.getfield 10, 3) := by decide +kernel
theorem dX6_pegHavingDanced_8 : decode cX6_pegHavingDanced 8 = .ok (.getfield 70, 3) := by decide +kernel
theorem dX6_pegHavingDanced_11 : decode cX6_pegHavingDanced 11 = .ok (.invokevirtual 179, 3) := by decide +kernel
theorem dX6_pegHavingDanced_14 : decode cX6_pegHavingDanced 14 = .ok (.aload_n 0, 1) := by decide +kernel
theorem dX6_pegHavingDanced_15 : decode cX6_pegHavingDanced 15 = .ok (.getfield 26, 3) := by decide +kernel
theorem dX6_pegHavingDanced_18 : decode cX6_pegHavingDanced 18 = .ok (.iload_n 1, 1) := by decide +kernel
theorem dX6_pegHavingDanced_19 : decode cX6_pegHavingDanced 19 = .ok (.iload_n 2, 1) := by decide +kernel
theorem dX6_pegHavingDanced_20 : decode cX6_pegHavingDanced 20 = .ok (.aload_n 0, 1) := by decide +kernel
theorem dX6_pegHavingDanced_21 : decode cX6_pegHavingDanced 21 = .ok (.getfield 10, 3) := by decide +kernel
theorem dX6_pegHavingDanced_24 : decode cX6_pegHavingDanced 24 = .ok (.getfield 154, 3) := by decide +kernel
theorem dX6_pegHavingDanced_27 : decode cX6_pegHavingDanced 27 = .ok (.invokevirtual 158, 3) := by decide +kernel
theorem dX6_pegHavingDanced_30 : decode cX6_pegHavingDanced 30 = .ok (.aload_n 0, 1) := by decide +kernel
theorem dX6_pegHavingDanced_31 : decode cX6_pegHavingDanced 31 = .ok (.getfield 26, 3) := by decide +kernel
theorem dX6_pegHavingDanced_34 : decode cX6_pegHavingDanced 34 = .ok (.iload_n 3, 1) := by decide +kernel
theorem dX6_pegHavingDanced_35 : decode cX6_pegHavingDanced 35 = .ok (.aload_n 0, 1) := by decide +kernel
theorem dX6_pegHavingDanced_36 : decode cX6_pegHavingDanced 36 = .ok (.getfield 10, 3) := by decide +kernel
theorem dX6_pegHavingDanced_39 : decode cX6_pegHavingDanced 39 = .ok (.getfield 165, 3) := by decide +kernel
theorem dX6_pegHavingDanced_42 : decode cX6_pegHavingDanced 42 = .ok (.invokevirtual 168, 3) := by decide +kernel
theorem dX6_pegHavingDanced_45 : decode cX6_pegHavingDanced 45 = .ok (.aload_n 0, 1) := by decide +kernel
theorem dX6_pegHavingDanced_46 : decode cX6_pegHavingDanced 46 = .ok (.getfield 26, 3) := by decide +kernel
theorem dX6_pegHavingDanced_49 : decode cX6_pegHavingDanced 49 = .ok (.iload_n 1, 1) := by decide +kernel
theorem dX6_pegHavingDanced_50 : decode cX6_pegHavingDanced 50 = .ok (.invokevirtual 98, 3) := by decide +kernel
theorem dX6_pegHavingDanced_53 : decode cX6_pegHavingDanced 53 = .ok (.ireturn, 1) := by decide +kernel
theorem dX6_danceThatHelps_0 : decode cX6_danceThatHelps 0 = .ok (.iconst 0, 1) := by decide +kernel
theorem dX6_danceThatHelps_1 : decode cX6_danceThatHelps 1 = .ok (.istore 5, 2) := by decide +kernel
theorem dX6_danceThatHelps_3 : decode cX6_danceThatHelps 3 = .ok (.iload 5, 2) := by decide +kernel
theorem dX6_danceThatHelps_5 : decode cX6_danceThatHelps 5 = .ok (.aload_n 1, 1) := by decide +kernel
theorem dX6_danceThatHelps_6 : decode cX6_danceThatHelps 6 = .ok (.getfield 73, 3) := by decide +kernel
theorem dX6_danceThatHelps_9 : decode cX6_danceThatHelps 9 = .ok (.if_icmp .ge 93, 3) := by decide +kernel
theorem dX6_danceThatHelps_12 : decode cX6_danceThatHelps 12 = .ok (.iload 5, 2) := by decide +kernel
theorem dX6_danceThatHelps_14 : decode cX6_danceThatHelps 14 = .ok (.iconst 1, 1) := by decide +kernel
theorem dX6_danceThatHelps_15 : decode cX6_danceThatHelps 15 = .ok (.iadd, 1) := by decide +kernel
theorem dX6_danceThatHelps_16 : decode cX6_danceThatHelps 16 = .ok (.istore 6, 2) := by decide +kernel
theorem dX6_danceThatHelps_18 : decode cX6_danceThatHelps 18 = .ok (.iload 6, 2) := by decide +kernel
theorem dX6_danceThatHelps_20 : decode cX6_danceThatHelps 20 = .ok (.aload_n 1, 1) := by decide +kernel
theorem dX6_danceThatHelps_21 : decode cX6_danceThatHelps 21 = .ok (.getfield 73, 3) := by decide +kernel
theorem dX6_danceThatHelps_24 : decode cX6_danceThatHelps 24 = .ok (.if_icmp .ge 72, 3) := by decide +kernel
theorem dX6_danceThatHelps_27 : decode cX6_danceThatHelps 27 = .ok (.aload_n 0, 1) := by decide +kernel
theorem dX6_danceThatHelps_28 : decode cX6_danceThatHelps 28 = .ok (.getfield 26, 3) := by decide +kernel
theorem dX6_danceThatHelps_31 : decode cX6_danceThatHelps 31 = .ok (.aload_n 1, 1) := by decide +kernel
theorem dX6_danceThatHelps_32 : decode cX6_danceThatHelps 32 = .ok (.invokevirtual 179, 3) := by decide +kernel
theorem dX6_danceThatHelps_35 : decode cX6_danceThatHelps 35 = .ok (.aload_n 0, 1) := by decide +kernel
theorem dX6_danceThatHelps_36 : decode cX6_danceThatHelps 36 = .ok (.getfield 26, 3) := by decide +kernel
theorem dX6_danceThatHelps_39 : decode cX6_danceThatHelps 39 = .ok (.iload 5, 2) := by decide +kernel
theorem dX6_danceThatHelps_41 : decode cX6_danceThatHelps 41 = .ok (.iload 6, 2) := by decide +kernel
theorem dX6_danceThatHelps_43 : decode cX6_danceThatHelps 43 = .ok (.aload_n 0, 1) := by decide +kernel
theorem dX6_danceThatHelps_44 : decode cX6_danceThatHelps 44 = .ok (.getfield 10, 3) := by decide +kernel
theorem dX6_danceThatHelps_47 : decode cX6_danceThatHelps 47 = .ok (.getfield 154, 3) := by decide +kernel
theorem dX6_danceThatHelps_50 : decode cX6_danceThatHelps 50 = .ok (.invokevirtual 158, 3) := by decide +kernel
theorem dX6_danceThatHelps_53 : decode cX6_danceThatHelps 53 = .ok (.aload_n 0, 1) := by decide +kernel
theorem dX6_danceThatHelps_54 : decode cX6_danceThatHelps 54 = .ok (.getfield 26, 3) := by decide +kernel
theorem dX6_danceThatHelps_57 : decode cX6_danceThatHelps 57 = .ok (.iload 4, 2) := by decide +kernel
theorem dX6_danceThatHelps_59 : decode cX6_danceThatHelps 59 = .ok (.aload_n 0, 1) := by decide +kernel
theorem dX6_danceThatHelps_60 : decode cX6_danceThatHelps 60 = .ok (.getfield 10, 3) := by decide +kernel
theorem dX6_danceThatHelps_63 : decode cX6_danceThatHelps 63 = .ok (.getfield 165, 3) := by decide +kernel
theorem dX6_danceThatHelps_66 : decode cX6_danceThatHelps 66 = .ok (.invokevirtual 168, 3) := by decide +kernel
theorem dX6_danceThatHelps_69 : decode cX6_danceThatHelps 69 = .ok (.aload_n 0, 1) := by decide +kernel
theorem dX6_danceThatHelps_70 : decode cX6_danceThatHelps 70 = .ok (.getfield 26, 3) := by decide +kernel
theorem dX6_danceThatHelps_73 : decode cX6_danceThatHelps 73 = .ok (.iload_n 2, 1) := by decide +kernel
theorem dX6_danceThatHelps_74 : decode cX6_danceThatHelps 74 = .ok (.invokevirtual 98, 3) := by decide +kernel
theorem dX6_danceThatHelps_77 : decode cX6_danceThatHelps 77 = .ok (.iload_n 3, 1) := by decide +kernel
theorem dX6_danceThatHelps_78 : decode cX6_danceThatHelps 78 = .ok (.if_icmp .gt 12, 3) := by decide +kernel
theorem dX6_danceThatHelps_81 : decode cX6_danceThatHelps 81 = .ok (.bipush 10, 2) := by decide +kernel
theorem dX6_danceThatHelps_83 : decode cX6_danceThatHelps 83 = .ok (.iload 5, 2) := by decide +kernel
theorem dX6_danceThatHelps_85 : decode cX6_danceThatHelps 85 = .ok (.imul, 1) := by decide +kernel
theorem dX6_danceThatHelps_86 : decode cX6_danceThatHelps 86 = .ok (.iload 6, 2) := by decide +kernel
theorem dX6_danceThatHelps_88 : decode cX6_danceThatHelps 88 = .ok (.iadd, 1) := by decide +kernel
theorem dX6_danceThatHelps_89 : decode cX6_danceThatHelps 89 = .ok (.ireturn, 1) := by decide +kernel
theorem dX6_danceThatHelps_90 : decode cX6_danceThatHelps 90 = .ok (.iinc 6 1, 3) := by decide +kernel
theorem dX6_danceThatHelps_93 : decode cX6_danceThatHelps 93 = .ok (.goto (-75), 3) := by decide +kernel
theorem dX6_danceThatHelps_96 : decode cX6_danceThatHelps 96 = .ok (.iinc 5 1, 3) := by decide +kernel
theorem dX6_danceThatHelps_99 : decode cX6_danceThatHelps 99 = .ok (.goto (-96), 3) := by decide +kernel
theorem dX6_danceThatHelps_102 : decode cX6_danceThatHelps 102 = .ok (.iconst (-1), 1) := by decide +kernel
theorem dX6_danceThatHelps_103 : decode cX6_danceThatHelps 103 = .ok (.ireturn, 1) := by decide +kernel
theorem dX6_firstOfTwoThatHelp_0 : decode cX6_firstOfTwoThatHelp 0 = .ok (.iconst 0, 1) := by decide +kernel
theorem dX6_firstOfTwoThatHelp_1 : decode cX6_firstOfTwoThatHelp 1 = .ok (.istore 4, 2) := by decide +kernel
theorem dX6_firstOfTwoThatHelp_3 : decode cX6_firstOfTwoThatHelp 3 = .ok (.iload 4, 2) := by decide +kernel
theorem dX6_firstOfTwoThatHelp_5 : decode cX6_firstOfTwoThatHelp 5 = .ok (.aload_n 0, 1) := by decide +kernel
theorem dX6_firstOfTwoThatHelp_6 : decode cX6_firstOfTwoThatHelp 6 = .ok (.getfield 10, 3) := by decide +kernel
theorem dX6_firstOfTwoThatHelp_9 : decode cX6_firstOfTwoThatHelp 9 = .ok (.getfield 70, 3) := by decide +kernel
theorem dX6_firstOfTwoThatHelp_12 : decode cX6_firstOfTwoThatHelp 12 = .ok (.getfield 73, 3) := by decide +kernel
theorem dX6_firstOfTwoThatHelp_15 : decode cX6_firstOfTwoThatHelp 15 = .ok (.if_icmp .ge 91, 3) := by decide +kernel
theorem dX6_firstOfTwoThatHelp_18 : decode cX6_firstOfTwoThatHelp 18 = .ok (.iload 4, 2) := by decide +kernel
theorem dX6_firstOfTwoThatHelp_20 : decode cX6_firstOfTwoThatHelp 20 = .ok (.iconst 1, 1) := by decide +kernel
theorem dX6_firstOfTwoThatHelp_21 : decode cX6_firstOfTwoThatHelp 21 = .ok (.iadd, 1) := by decide +kernel
theorem dX6_firstOfTwoThatHelp_22 : decode cX6_firstOfTwoThatHelp 22 = .ok (.istore 5, 2) := by decide +kernel
theorem dX6_firstOfTwoThatHelp_24 : decode cX6_firstOfTwoThatHelp 24 = .ok (.iload 5, 2) := by decide +kernel
theorem dX6_firstOfTwoThatHelp_26 : decode cX6_firstOfTwoThatHelp 26 = .ok (.aload_n 0, 1) := by decide +kernel
theorem dX6_firstOfTwoThatHelp_27 : decode cX6_firstOfTwoThatHelp 27 = .ok (.getfield 10, 3) := by decide +kernel
theorem dX6_firstOfTwoThatHelp_30 : decode cX6_firstOfTwoThatHelp 30 = .ok (.getfield 70, 3) := by decide +kernel
theorem dX6_firstOfTwoThatHelp_33 : decode cX6_firstOfTwoThatHelp 33 = .ok (.getfield 73, 3) := by decide +kernel
theorem dX6_firstOfTwoThatHelp_36 : decode cX6_firstOfTwoThatHelp 36 = .ok (.if_icmp .ge 64, 3) := by decide +kernel
theorem dX6_firstOfTwoThatHelp_39 : decode cX6_firstOfTwoThatHelp 39 = .ok (.aload_n 0, 1) := by decide +kernel
theorem dX6_firstOfTwoThatHelp_40 : decode cX6_firstOfTwoThatHelp 40 = .ok (.getfield 30, 3) := by decide +kernel
theorem dX6_firstOfTwoThatHelp_43 : decode cX6_firstOfTwoThatHelp 43 = .ok (.aload_n 0, 1) := by decide +kernel
theorem dX6_firstOfTwoThatHelp_44 : decode cX6_firstOfTwoThatHelp 44 = .ok (.getfield 10, 3) := by decide +kernel
theorem dX6_firstOfTwoThatHelp_47 : decode cX6_firstOfTwoThatHelp 47 = .ok (.getfield 70, 3) := by decide +kernel
theorem dX6_firstOfTwoThatHelp_50 : decode cX6_firstOfTwoThatHelp 50 = .ok (.invokevirtual 179, 3) := by decide +kernel
theorem dX6_firstOfTwoThatHelp_53 : decode cX6_firstOfTwoThatHelp 53 = .ok (.aload_n 0, 1) := by decide +kernel
theorem dX6_firstOfTwoThatHelp_54 : decode cX6_firstOfTwoThatHelp 54 = .ok (.getfield 30, 3) := by decide +kernel
theorem dX6_firstOfTwoThatHelp_57 : decode cX6_firstOfTwoThatHelp 57 = .ok (.iload 4, 2) := by decide +kernel
theorem dX6_firstOfTwoThatHelp_59 : decode cX6_firstOfTwoThatHelp 59 = .ok (.iload 5, 2) := by decide +kernel
theorem dX6_firstOfTwoThatHelp_61 : decode cX6_firstOfTwoThatHelp 61 = .ok (.aload_n 0, 1) := by decide +kernel
theorem dX6_firstOfTwoThatHelp_62 : decode cX6_firstOfTwoThatHelp 62 = .ok (.getfield 10, 3) := by decide +kernel
theorem dX6_firstOfTwoThatHelp_65 : decode cX6_firstOfTwoThatHelp 65 = .ok (.getfield 154, 3) := by decide +kernel
theorem dX6_firstOfTwoThatHelp_68 : decode cX6_firstOfTwoThatHelp 68 = .ok (.invokevirtual 158, 3) := by decide +kernel
theorem dX6_firstOfTwoThatHelp_71 : decode cX6_firstOfTwoThatHelp 71 = .ok (.aload_n 0, 1) := by decide +kernel
theorem dX6_firstOfTwoThatHelp_72 : decode cX6_firstOfTwoThatHelp 72 = .ok (.aload_n 0, 1) := by decide +kernel
theorem dX6_firstOfTwoThatHelp_73 : decode cX6_firstOfTwoThatHelp 73 = .ok (.getfield 30, 3) := by decide +kernel
theorem dX6_firstOfTwoThatHelp_76 : decode cX6_firstOfTwoThatHelp 76 = .ok (.iload_n 1, 1) := by decide +kernel
theorem dX6_firstOfTwoThatHelp_77 : decode cX6_firstOfTwoThatHelp 77 = .ok (.iload_n 2, 1) := by decide +kernel
theorem dX6_firstOfTwoThatHelp_78 : decode cX6_firstOfTwoThatHelp 78 = .ok (.iload_n 3, 1) := by decide +kernel
theorem dX6_firstOfTwoThatHelp_79 : decode cX6_firstOfTwoThatHelp 79 = .ok (.invokevirtual 189, 3) := by decide +kernel
theorem dX6_firstOfTwoThatHelp_82 : decode cX6_firstOfTwoThatHelp 82 = .ok (.ifCond .lt 12, 3) := by decide +kernel
theorem dX6_firstOfTwoThatHelp_85 : decode cX6_firstOfTwoThatHelp 85 = .ok (.bipush 10, 2) := by decide +kernel
theorem dX6_firstOfTwoThatHelp_87 : decode cX6_firstOfTwoThatHelp 87 = .ok (.iload 4, 2) := by decide +kernel
theorem dX6_firstOfTwoThatHelp_89 : decode cX6_firstOfTwoThatHelp 89 = .ok (.imul, 1) := by decide +kernel
theorem dX6_firstOfTwoThatHelp_90 : decode cX6_firstOfTwoThatHelp 90 = .ok (.iload 5, 2) := by decide +kernel
theorem dX6_firstOfTwoThatHelp_92 : decode cX6_firstOfTwoThatHelp 92 = .ok (.iadd, 1) := by decide +kernel
theorem dX6_firstOfTwoThatHelp_93 : decode cX6_firstOfTwoThatHelp 93 = .ok (.ireturn, 1) := by decide +kernel
theorem dX6_firstOfTwoThatHelp_94 : decode cX6_firstOfTwoThatHelp 94 = .ok (.iinc 5 1, 3) := by decide +kernel
theorem dX6_firstOfTwoThatHelp_97 : decode cX6_firstOfTwoThatHelp 97 = .ok (.goto (-73), 3) := by decide +kernel
theorem dX6_firstOfTwoThatHelp_100 : decode cX6_firstOfTwoThatHelp 100 = .ok (.iinc 4 1, 3) := by decide +kernel
theorem dX6_firstOfTwoThatHelp_103 : decode cX6_firstOfTwoThatHelp 103 = .ok (.goto (-100), 3) := by decide +kernel
theorem dX6_firstOfTwoThatHelp_106 : decode cX6_firstOfTwoThatHelp 106 = .ok (.iconst (-1), 1) := by decide +kernel
theorem dX6_firstOfTwoThatHelp_107 : decode cX6_firstOfTwoThatHelp 107 = .ok (.ireturn, 1) := by decide +kernel
theorem dX6_greatestCommon_0 : decode cX6_greatestCommon 0 = .ok (.iload_n 1, 1) := by decide +kernel
theorem dX6_greatestCommon_1 : decode cX6_greatestCommon 1 = .ok (.istore_n 2, 1) := by decide +kernel
theorem dX6_greatestCommon_2 : decode cX6_greatestCommon 2 = .ok (.iload_n 2, 1) := by decide +kernel
theorem dX6_greatestCommon_3 : decode cX6_greatestCommon 3 = .ok (.iconst 1, 1) := by decide +kernel
theorem dX6_greatestCommon_4 : decode cX6_greatestCommon 4 = .ok (.if_icmp .le 23, 3) := by decide +kernel
theorem dX6_greatestCommon_7 : decode cX6_greatestCommon 7 = .ok (.iload_n 0, 1) := by decide +kernel
theorem dX6_greatestCommon_8 : decode cX6_greatestCommon 8 = .ok (.iload_n 2, 1) := by decide +kernel
theorem dX6_greatestCommon_9 : decode cX6_greatestCommon 9 = .ok (.irem, 1) := by decide +kernel
theorem dX6_greatestCommon_10 : decode cX6_greatestCommon 10 = .ok (.ifCond .ne 11, 3) := by decide +kernel
theorem dX6_greatestCommon_13 : decode cX6_greatestCommon 13 = .ok (.iload_n 1, 1) := by decide +kernel
theorem dX6_greatestCommon_14 : decode cX6_greatestCommon 14 = .ok (.iload_n 2, 1) := by decide +kernel
theorem dX6_greatestCommon_15 : decode cX6_greatestCommon 15 = .ok (.irem, 1) := by decide +kernel
theorem dX6_greatestCommon_16 : decode cX6_greatestCommon 16 = .ok (.ifCond .ne 5, 3) := by decide +kernel
theorem dX6_greatestCommon_19 : decode cX6_greatestCommon 19 = .ok (.iload_n 2, 1) := by decide +kernel
theorem dX6_greatestCommon_20 : decode cX6_greatestCommon 20 = .ok (.ireturn, 1) := by decide +kernel
theorem dX6_greatestCommon_21 : decode cX6_greatestCommon 21 = .ok (.iinc 2 (-1), 3) := by decide +kernel
theorem dX6_greatestCommon_24 : decode cX6_greatestCommon 24 = .ok (.goto (-22), 3) := by decide +kernel
theorem dX6_greatestCommon_27 : decode cX6_greatestCommon 27 = .ok (.iconst 1, 1) := by decide +kernel
theorem dX6_greatestCommon_28 : decode cX6_greatestCommon 28 = .ok (.ireturn, 1) := by decide +kernel
theorem dX6_heldRue_0 : decode cX6_heldRue 0 = .ok (.iconst 0, 1) := by decide +kernel
theorem dX6_heldRue_1 : decode cX6_heldRue 1 = .ok (.iload_n 0, 1) := by decide +kernel
theorem dX6_heldRue_2 : decode cX6_heldRue 2 = .ok (.sipush 999, 3) := by decide +kernel
theorem dX6_heldRue_5 : decode cX6_heldRue 5 = .ok (.invokestatic 244, 3) := by decide +kernel
theorem dX6_heldRue_8 : decode cX6_heldRue 8 = .ok (.invokestatic 268, 3) := by decide +kernel
theorem dX6_heldRue_11 : decode cX6_heldRue 11 = .ok (.ireturn, 1) := by decide +kernel
