theorem dX0_init_0 : decode cX0_init 0 = .ok (.aload_n 0, 1) := by decide +kernel
theorem dX0_init_1 : decode cX0_init 1 = .ok (.invokespecial 3, 3) := by decide +kernel
theorem dX0_init_4 : decode cX0_init 4 = .ok (.aload_n 0, 1) := by decide +kernel
theorem dX0_init_5 : decode cX0_init 5 = .ok (.iconst 3, 1) := by decide +kernel
theorem dX0_init_6 : decode cX0_init 6 = .ok (.anewarray 9, 3) := by decide +kernel
theorem dX0_init_9 : decode cX0_init 9 = .ok (.putfield 11, 3) := by decide +kernel
theorem dX0_init_12 : decode cX0_init 12 = .ok (.aload_n 0, 1) := by decide +kernel
theorem dX0_init_13 : decode cX0_init 13 = .ok (.iconst 3, 1) := by decide +kernel
theorem dX0_init_14 : decode cX0_init 14 = .ok (.newarray .int, 2) := by decide +kernel
theorem dX0_init_16 : decode cX0_init 16 = .ok (.putfield 17, 3) := by decide +kernel
theorem dX0_init_19 : decode cX0_init 19 = .ok (.aload_n 0, 1) := by decide +kernel
theorem dX0_init_20 : decode cX0_init 20 = .ok (.iconst 3, 1) := by decide +kernel
theorem dX0_init_21 : decode cX0_init 21 = .ok (.newarray .int, 2) := by decide +kernel
theorem dX0_init_23 : decode cX0_init 23 = .ok (.putfield 21, 3) := by decide +kernel
theorem dX0_init_26 : decode cX0_init 26 = .ok (.return_, 1) := by decide +kernel
theorem dX0_knows_0 : decode cX0_knows 0 = .ok (.iconst 0, 1) := by decide +kernel
theorem dX0_knows_1 : decode cX0_knows 1 = .ok (.istore_n 3, 1) := by decide +kernel
theorem dX0_knows_2 : decode cX0_knows 2 = .ok (.iload_n 3, 1) := by decide +kernel
theorem dX0_knows_3 : decode cX0_knows 3 = .ok (.aload_n 0, 1) := by decide +kernel
theorem dX0_knows_4 : decode cX0_knows 4 = .ok (.getfield 24, 3) := by decide +kernel
theorem dX0_knows_7 : decode cX0_knows 7 = .ok (.if_icmp .ge 31, 3) := by decide +kernel
theorem dX0_knows_10 : decode cX0_knows 10 = .ok (.aload_n 0, 1) := by decide +kernel
theorem dX0_knows_11 : decode cX0_knows 11 = .ok (.getfield 11, 3) := by decide +kernel
theorem dX0_knows_14 : decode cX0_knows 14 = .ok (.iload_n 3, 1) := by decide +kernel
theorem dX0_knows_15 : decode cX0_knows 15 = .ok (.aaload, 1) := by decide +kernel
theorem dX0_knows_16 : decode cX0_knows 16 = .ok (.aload_n 1, 1) := by decide +kernel
theorem dX0_knows_17 : decode cX0_knows 17 = .ok (.if_acmp .ne 15, 3) := by decide +kernel
theorem dX0_knows_20 : decode cX0_knows 20 = .ok (.aload_n 0, 1) := by decide +kernel
theorem dX0_knows_21 : decode cX0_knows 21 = .ok (.getfield 17, 3) := by decide +kernel
theorem dX0_knows_24 : decode cX0_knows 24 = .ok (.iload_n 3, 1) := by decide +kernel
theorem dX0_knows_25 : decode cX0_knows 25 = .ok (.iaload, 1) := by decide +kernel
theorem dX0_knows_26 : decode cX0_knows 26 = .ok (.iload_n 2, 1) := by decide +kernel
theorem dX0_knows_27 : decode cX0_knows 27 = .ok (.if_icmp .ne 5, 3) := by decide +kernel
theorem dX0_knows_30 : decode cX0_knows 30 = .ok (.iconst 1, 1) := by decide +kernel
theorem dX0_knows_31 : decode cX0_knows 31 = .ok (.ireturn, 1) := by decide +kernel
theorem dX0_knows_32 : decode cX0_knows 32 = .ok (.iinc 3 1, 3) := by decide +kernel
theorem dX0_knows_35 : decode cX0_knows 35 = .ok (.goto (-33), 3) := by decide +kernel
theorem dX0_knows_38 : decode cX0_knows 38 = .ok (.iconst 0, 1) := by decide +kernel
theorem dX0_knows_39 : decode cX0_knows 39 = .ok (.ireturn, 1) := by decide +kernel
theorem dX0_count_0 : decode cX0_count 0 = .ok (.iload_n 1, 1) := by decide +kernel
theorem dX0_count_1 : decode cX0_count 1 = .ok (.ifCond .eq 16, 3) := by decide +kernel
theorem dX0_count_4 : decode cX0_count 4 = .ok (.aload_n 0, 1) := by decide +kernel
theorem dX0_count_5 : decode cX0_count 5 = .ok (.dup, 1) := by decide +kernel
theorem dX0_count_6 : decode cX0_count 6 = .ok (.getfield 28, 3) := by decide +kernel
theorem dX0_count_9 : decode cX0_count 9 = .ok (.iconst 1, 1) := by decide +kernel
theorem dX0_count_10 : decode cX0_count 10 = .ok (.iadd, 1) := by decide +kernel
theorem dX0_count_11 : decode cX0_count 11 = .ok (.putfield 28, 3) := by decide +kernel
theorem dX0_count_14 : decode cX0_count 14 = .ok (.goto 13, 3) := by decide +kernel
theorem dX0_count_17 : decode cX0_count 17 = .ok (.aload_n 0, 1) := by decide +kernel
theorem dX0_count_18 : decode cX0_count 18 = .ok (.dup, 1) := by decide +kernel
theorem dX0_count_19 : decode cX0_count 19 = .ok (.getfield 31, 3) := by decide +kernel
theorem dX0_count_22 : decode cX0_count 22 = .ok (.iconst 1, 1) := by decide +kernel
theorem dX0_count_23 : decode cX0_count 23 = .ok (.iadd, 1) := by decide +kernel
theorem dX0_count_24 : decode cX0_count 24 = .ok (.putfield 31, 3) := by decide +kernel
theorem dX0_count_27 : decode cX0_count 27 = .ok (.aload_n 0, 1) := by decide +kernel
theorem dX0_count_28 : decode cX0_count 28 = .ok (.iload_n 2, 1) := by decide +kernel
theorem dX0_count_29 : decode cX0_count 29 = .ok (.putfield 34, 3) := by decide +kernel
theorem dX0_count_32 : decode cX0_count 32 = .ok (.aload_n 0, 1) := by decide +kernel
theorem dX0_count_33 : decode cX0_count 33 = .ok (.dup, 1) := by decide +kernel
theorem dX0_count_34 : decode cX0_count 34 = .ok (.getfield 37, 3) := by decide +kernel
theorem dX0_count_37 : decode cX0_count 37 = .ok (.iload_n 2, 1) := by decide +kernel
theorem dX0_count_38 : decode cX0_count 38 = .ok (.iadd, 1) := by decide +kernel
theorem dX0_count_39 : decode cX0_count 39 = .ok (.putfield 37, 3) := by decide +kernel
theorem dX0_count_42 : decode cX0_count 42 = .ok (.return_, 1) := by decide +kernel
theorem dX0_addEntry_0 : decode cX0_addEntry 0 = .ok (.aload_n 0, 1) := by decide +kernel
theorem dX0_addEntry_1 : decode cX0_addEntry 1 = .ok (.getfield 24, 3) := by decide +kernel
theorem dX0_addEntry_4 : decode cX0_addEntry 4 = .ok (.iconst 3, 1) := by decide +kernel
theorem dX0_addEntry_5 : decode cX0_addEntry 5 = .ok (.if_icmp .lt 8, 3) := by decide +kernel
theorem dX0_addEntry_8 : decode cX0_addEntry 8 = .ok (.aload_n 0, 1) := by decide +kernel
theorem dX0_addEntry_9 : decode cX0_addEntry 9 = .ok (.iconst 0, 1) := by decide +kernel
theorem dX0_addEntry_10 : decode cX0_addEntry 10 = .ok (.invokevirtual 40, 3) := by decide +kernel
theorem dX0_addEntry_13 : decode cX0_addEntry 13 = .ok (.aload_n 0, 1) := by decide +kernel
theorem dX0_addEntry_14 : decode cX0_addEntry 14 = .ok (.getfield 11, 3) := by decide +kernel
theorem dX0_addEntry_17 : decode cX0_addEntry 17 = .ok (.aload_n 0, 1) := by decide +kernel
theorem dX0_addEntry_18 : decode cX0_addEntry 18 = .ok (.getfield 24, 3) := by decide +kernel
theorem dX0_addEntry_21 : decode cX0_addEntry 21 = .ok (.aload_n 1, 1) := by decide +kernel
theorem dX0_addEntry_22 : decode cX0_addEntry 22 = .ok (.aastore, 1) := by decide +kernel
theorem dX0_addEntry_23 : decode cX0_addEntry 23 = .ok (.aload_n 0, 1) := by decide +kernel
theorem dX0_addEntry_24 : decode cX0_addEntry 24 = .ok (.getfield 17, 3) := by decide +kernel
theorem dX0_addEntry_27 : decode cX0_addEntry 27 = .ok (.aload_n 0, 1) := by decide +kernel
theorem dX0_addEntry_28 : decode cX0_addEntry 28 = .ok (.getfield 24, 3) := by decide +kernel
theorem dX0_addEntry_31 : decode cX0_addEntry 31 = .ok (.iload_n 2, 1) := by decide +kernel
theorem dX0_addEntry_32 : decode cX0_addEntry 32 = .ok (.iastore, 1) := by decide +kernel
theorem dX0_addEntry_33 : decode cX0_addEntry 33 = .ok (.aload_n 0, 1) := by decide +kernel
theorem dX0_addEntry_34 : decode cX0_addEntry 34 = .ok (.getfield 21, 3) := by decide +kernel
theorem dX0_addEntry_37 : decode cX0_addEntry 37 = .ok (.aload_n 0, 1) := by decide +kernel
theorem dX0_addEntry_38 : decode cX0_addEntry 38 = .ok (.getfield 24, 3) := by decide +kernel
theorem dX0_addEntry_41 : decode cX0_addEntry 41 = .ok (.iload_n 3, 1) := by decide +kernel
theorem dX0_addEntry_42 : decode cX0_addEntry 42 = .ok (.iastore, 1) := by decide +kernel
theorem dX0_addEntry_43 : decode cX0_addEntry 43 = .ok (.aload_n 0, 1) := by decide +kernel
theorem dX0_addEntry_44 : decode cX0_addEntry 44 = .ok (.dup, 1) := by decide +kernel
theorem dX0_addEntry_45 : decode cX0_addEntry 45 = .ok (.getfield 24, 3) := by decide +kernel
theorem dX0_addEntry_48 : decode cX0_addEntry 48 = .ok (.iconst 1, 1) := by decide +kernel
theorem dX0_addEntry_49 : decode cX0_addEntry 49 = .ok (.iadd, 1) := by decide +kernel
theorem dX0_addEntry_50 : decode cX0_addEntry 50 = .ok (.putfield 24, 3) := by decide +kernel
theorem dX0_addEntry_53 : decode cX0_addEntry 53 = .ok (.return_, 1) := by decide +kernel
theorem dX0_takeAway_0 : decode cX0_takeAway 0 = .ok (.iload_n 1, 1) := by decide +kernel
theorem dX0_takeAway_1 : decode cX0_takeAway 1 = .ok (.istore_n 2, 1) := by decide +kernel
theorem dX0_takeAway_2 : decode cX0_takeAway 2 = .ok (.iload_n 2, 1) := by decide +kernel
theorem dX0_takeAway_3 : decode cX0_takeAway 3 = .ok (.iconst 1, 1) := by decide +kernel
theorem dX0_takeAway_4 : decode cX0_takeAway 4 = .ok (.iadd, 1) := by decide +kernel
theorem dX0_takeAway_5 : decode cX0_takeAway 5 = .ok (.aload_n 0, 1) := by decide +kernel
theorem dX0_takeAway_6 : decode cX0_takeAway 6 = .ok (.getfield 24, 3) := by decide +kernel
theorem dX0_takeAway_9 : decode cX0_takeAway 9 = .ok (.if_icmp .ge 51, 3) := by decide +kernel
theorem dX0_takeAway_12 : decode cX0_takeAway 12 = .ok (.aload_n 0, 1) := by decide +kernel
theorem dX0_takeAway_13 : decode cX0_takeAway 13 = .ok (.getfield 11, 3) := by decide +kernel
theorem dX0_takeAway_16 : decode cX0_takeAway 16 = .ok (.iload_n 2, 1) := by decide +kernel
theorem dX0_takeAway_17 : decode cX0_takeAway 17 = .ok (.aload_n 0, 1) := by decide +kernel
theorem dX0_takeAway_18 : decode cX0_takeAway 18 = .ok (.getfield 11, 3) := by decide +kernel
theorem dX0_takeAway_21 : decode cX0_takeAway 21 = .ok (.iload_n 2, 1) := by decide +kernel
theorem dX0_takeAway_22 : decode cX0_takeAway 22 = .ok (.iconst 1, 1) := by decide +kernel
theorem dX0_takeAway_23 : decode cX0_takeAway 23 = .ok (.iadd, 1) := by decide +kernel
theorem dX0_takeAway_24 : decode cX0_takeAway 24 = .ok (.aaload, 1) := by decide +kernel
theorem dX0_takeAway_25 : decode cX0_takeAway 25 = .ok (.aastore, 1) := by decide +kernel
theorem dX0_takeAway_26 : decode cX0_takeAway 26 = .ok (.aload_n 0, 1) := by decide +kernel
theorem dX0_takeAway_27 : decode cX0_takeAway 27 = .ok (.getfield 17, 3) := by decide +kernel
theorem dX0_takeAway_30 : decode cX0_takeAway 30 = .ok (.iload_n 2, 1) := by decide +kernel
theorem dX0_takeAway_31 : decode cX0_takeAway 31 = .ok (.aload_n 0, 1) := by decide +kernel
theorem dX0_takeAway_32 : decode cX0_takeAway 32 = .ok (.getfield 17, 3) := by decide +kernel
theorem dX0_takeAway_35 : decode cX0_takeAway 35 = .ok (.iload_n 2, 1) := by decide +kernel
theorem dX0_takeAway_36 : decode cX0_takeAway 36 = .ok (.iconst 1, 1) := by decide +kernel
theorem dX0_takeAway_37 : decode cX0_takeAway 37 = .ok (.iadd, 1) := by decide +kernel
theorem dX0_takeAway_38 : decode cX0_takeAway 38 = .ok (.iaload, 1) := by decide +kernel
theorem dX0_takeAway_39 : decode cX0_takeAway 39 = .ok (.iastore, 1) := by decide +kernel
theorem dX0_takeAway_40 : decode cX0_takeAway 40 = .ok (.aload_n 0, 1) := by decide +kernel
theorem dX0_takeAway_41 : decode cX0_takeAway 41 = .ok (.getfield 21, 3) := by decide +kernel
theorem dX0_takeAway_44 : decode cX0_takeAway 44 = .ok (.iload_n 2, 1) := by decide +kernel
theorem dX0_takeAway_45 : decode cX0_takeAway 45 = .ok (.aload_n 0, 1) := by decide +kernel
theorem dX0_takeAway_46 : decode cX0_takeAway 46 = .ok (.getfield 21, 3) := by decide +kernel
theorem dX0_takeAway_49 : decode cX0_takeAway 49 = .ok (.iload_n 2, 1) := by decide +kernel
theorem dX0_takeAway_50 : decode cX0_takeAway 50 = .ok (.iconst 1, 1) := by decide +kernel
theorem dX0_takeAway_51 : decode cX0_takeAway 51 = .ok (.iadd, 1) := by decide +kernel
theorem dX0_takeAway_52 : decode cX0_takeAway 52 = .ok (.iaload, 1) := by decide +kernel
theorem dX0_takeAway_53 : decode cX0_takeAway 53 = .ok (.iastore, 1) := by decide +kernel
theorem dX0_takeAway_54 : decode cX0_takeAway 54 = .ok (.iinc 2 1, 3) := by decide +kernel
theorem dX0_takeAway_57 : decode cX0_takeAway 57 = .ok (.goto (-55), 3) := by decide +kernel
theorem dX0_takeAway_60 : decode cX0_takeAway 60 = .ok (.aload_n 0, 1) := by decide +kernel
theorem dX0_takeAway_61 : decode cX0_takeAway 61 = .ok (.dup, 1) := by decide +kernel
theorem dX0_takeAway_62 : decode cX0_takeAway 62 = .ok (.getfield 24, 3) := by decide +kernel
theorem dX0_takeAway_65 : decode cX0_takeAway 65 = .ok (.iconst 1, 1) := by decide +kernel
theorem dX0_takeAway_66 : decode cX0_takeAway 66 = .ok (.isub, 1) := by decide +kernel
theorem dX0_takeAway_67 : decode cX0_takeAway 67 = .ok (.putfield 24, 3) := by decide +kernel
theorem dX0_takeAway_70 : decode cX0_takeAway 70 = .ok (.return_, 1) := by decide +kernel
theorem dX0_countOf_0 : decode cX0_countOf 0 = .ok (.iconst 0, 1) := by decide +kernel
theorem dX0_countOf_1 : decode cX0_countOf 1 = .ok (.istore_n 2, 1) := by decide +kernel
theorem dX0_countOf_2 : decode cX0_countOf 2 = .ok (.iconst 0, 1) := by decide +kernel
theorem dX0_countOf_3 : decode cX0_countOf 3 = .ok (.istore_n 3, 1) := by decide +kernel
theorem dX0_countOf_4 : decode cX0_countOf 4 = .ok (.iload_n 3, 1) := by decide +kernel
theorem dX0_countOf_5 : decode cX0_countOf 5 = .ok (.aload_n 0, 1) := by decide +kernel
theorem dX0_countOf_6 : decode cX0_countOf 6 = .ok (.getfield 24, 3) := by decide +kernel
theorem dX0_countOf_9 : decode cX0_countOf 9 = .ok (.if_icmp .ge 22, 3) := by decide +kernel
theorem dX0_countOf_12 : decode cX0_countOf 12 = .ok (.aload_n 0, 1) := by decide +kernel
theorem dX0_countOf_13 : decode cX0_countOf 13 = .ok (.getfield 11, 3) := by decide +kernel
theorem dX0_countOf_16 : decode cX0_countOf 16 = .ok (.iload_n 3, 1) := by decide +kernel
theorem dX0_countOf_17 : decode cX0_countOf 17 = .ok (.aaload, 1) := by decide +kernel
theorem dX0_countOf_18 : decode cX0_countOf 18 = .ok (.aload_n 1, 1) := by decide +kernel
theorem dX0_countOf_19 : decode cX0_countOf 19 = .ok (.if_acmp .ne 6, 3) := by decide +kernel
theorem dX0_countOf_22 : decode cX0_countOf 22 = .ok (.iinc 2 1, 3) := by decide +kernel
theorem dX0_countOf_25 : decode cX0_countOf 25 = .ok (.iinc 3 1, 3) := by decide +kernel
theorem dX0_countOf_28 : decode cX0_countOf 28 = .ok (.goto (-24), 3) := by decide +kernel
theorem dX0_countOf_31 : decode cX0_countOf 31 = .ok (.iload_n 2, 1) := by decide +kernel
theorem dX0_countOf_32 : decode cX0_countOf 32 = .ok (.ireturn, 1) := by decide +kernel
theorem dX0_fact_0 : decode cX0_fact 0 = .ok (.iload_n 1, 1) := by decide +kernel
theorem dX0_fact_1 : decode cX0_fact 1 = .ok (.tableswitch 60 0 4 #[35, 40, 45, 50, 55], 35) := by decide +kernel
theorem dX0_fact_36 : decode cX0_fact 36 = .ok (.aload_n 0, 1) := by decide +kernel
theorem dX0_fact_37 : decode cX0_fact 37 = .ok (.getfield 24, 3) := by decide +kernel
theorem dX0_fact_40 : decode cX0_fact 40 = .ok (.ireturn, 1) := by decide +kernel
theorem dX0_fact_41 : decode cX0_fact 41 = .ok (.aload_n 0, 1) := by decide +kernel
theorem dX0_fact_42 : decode cX0_fact 42 = .ok (.getfield 28, 3) := by decide +kernel
theorem dX0_fact_45 : decode cX0_fact 45 = .ok (.ireturn, 1) := by decide +kernel
theorem dX0_fact_46 : decode cX0_fact 46 = .ok (.aload_n 0, 1) := by decide +kernel
theorem dX0_fact_47 : decode cX0_fact 47 = .ok (.getfield 31, 3) := by decide +kernel
theorem dX0_fact_50 : decode cX0_fact 50 = .ok (.ireturn, 1) := by decide +kernel
theorem dX0_fact_51 : decode cX0_fact 51 = .ok (.aload_n 0, 1) := by decide +kernel
theorem dX0_fact_52 : decode cX0_fact 52 = .ok (.getfield 37, 3) := by decide +kernel
theorem dX0_fact_55 : decode cX0_fact 55 = .ok (.ireturn, 1) := by decide +kernel
theorem dX0_fact_56 : decode cX0_fact 56 = .ok (.aload_n 0, 1) := by decide +kernel
theorem dX0_fact_57 : decode cX0_fact 57 = .ok (.getfield 34, 3) := by decide +kernel
theorem dX0_fact_60 : decode cX0_fact 60 = .ok (.ireturn, 1) := by decide +kernel
theorem dX0_fact_61 : decode cX0_fact 61 = .ok (.aload_n 0, 1) := by decide +kernel
theorem dX0_fact_62 : decode cX0_fact 62 = .ok (.getfield 44, 3) := by decide +kernel
theorem dX0_fact_65 : decode cX0_fact 65 = .ok (.ireturn, 1) := by decide +kernel
theorem dX0_entryFact_0 : decode cX0_entryFact 0 = .ok (.iload_n 2, 1) := by decide +kernel
theorem dX0_entryFact_1 : decode cX0_entryFact 1 = .ok (.lookupswitch 44 #[(0, 27), (1, 37)], 27) := by decide +kernel
theorem dX0_entryFact_28 : decode cX0_entryFact 28 = .ok (.aload_n 0, 1) := by decide +kernel
theorem dX0_entryFact_29 : decode cX0_entryFact 29 = .ok (.getfield 11, 3) := by decide +kernel
theorem dX0_entryFact_32 : decode cX0_entryFact 32 = .ok (.iload_n 1, 1) := by decide +kernel
theorem dX0_entryFact_33 : decode cX0_entryFact 33 = .ok (.aaload, 1) := by decide +kernel
theorem dX0_entryFact_34 : decode cX0_entryFact 34 = .ok (.getfield 47, 3) := by decide +kernel
theorem dX0_entryFact_37 : decode cX0_entryFact 37 = .ok (.ireturn, 1) := by decide +kernel
theorem dX0_entryFact_38 : decode cX0_entryFact 38 = .ok (.aload_n 0, 1) := by decide +kernel
theorem dX0_entryFact_39 : decode cX0_entryFact 39 = .ok (.getfield 17, 3) := by decide +kernel
theorem dX0_entryFact_42 : decode cX0_entryFact 42 = .ok (.iload_n 1, 1) := by decide +kernel
theorem dX0_entryFact_43 : decode cX0_entryFact 43 = .ok (.iaload, 1) := by decide +kernel
theorem dX0_entryFact_44 : decode cX0_entryFact 44 = .ok (.ireturn, 1) := by decide +kernel
theorem dX0_entryFact_45 : decode cX0_entryFact 45 = .ok (.aload_n 0, 1) := by decide +kernel
theorem dX0_entryFact_46 : decode cX0_entryFact 46 = .ok (.getfield 21, 3) := by decide +kernel
theorem dX0_entryFact_49 : decode cX0_entryFact 49 = .ok (.iload_n 1, 1) := by decide +kernel
theorem dX0_entryFact_50 : decode cX0_entryFact 50 = .ok (.iaload, 1) := by decide +kernel
theorem dX0_entryFact_51 : decode cX0_entryFact 51 = .ok (.ireturn, 1) := by decide +kernel
theorem dX1_init_0 : decode cX1_init 0 = .ok (.aload_n 0, 1) := by decide +kernel
theorem dX1_init_1 : decode cX1_init 1 = .ok (.invokespecial 1, 3) := by decide +kernel
theorem dX1_init_4 : decode cX1_init 4 = .ok (.aload_n 0, 1) := by decide +kernel
theorem dX1_init_5 : decode cX1_init 5 = .ok (.iload_n 1, 1) := by decide +kernel
theorem dX1_init_6 : decode cX1_init 6 = .ok (.putfield 7, 3) := by decide +kernel
theorem dX1_init_9 : decode cX1_init 9 = .ok (.aload_n 0, 1) := by decide +kernel
theorem dX1_init_10 : decode cX1_init 10 = .ok (.aload_n 2, 1) := by decide +kernel
theorem dX1_init_11 : decode cX1_init 11 = .ok (.putfield 13, 3) := by decide +kernel
theorem dX1_init_14 : decode cX1_init 14 = .ok (.aload_n 0, 1) := by decide +kernel
theorem dX1_init_15 : decode cX1_init 15 = .ok (.aload_n 3, 1) := by decide +kernel
theorem dX1_init_16 : decode cX1_init 16 = .ok (.putfield 17, 3) := by decide +kernel
theorem dX1_init_19 : decode cX1_init 19 = .ok (.aload_n 0, 1) := by decide +kernel
theorem dX1_init_20 : decode cX1_init 20 = .ok (.iload 4, 2) := by decide +kernel
theorem dX1_init_22 : decode cX1_init 22 = .ok (.putfield 21, 3) := by decide +kernel
theorem dX1_init_25 : decode cX1_init 25 = .ok (.aload_n 0, 1) := by decide +kernel
theorem dX1_init_26 : decode cX1_init 26 = .ok (.iload 5, 2) := by decide +kernel
theorem dX1_init_28 : decode cX1_init 28 = .ok (.putfield 24, 3) := by decide +kernel
theorem dX1_init_31 : decode cX1_init 31 = .ok (.aload_n 0, 1) := by decide +kernel
theorem dX1_init_32 : decode cX1_init 32 = .ok (.aload_n 2, 1) := by decide +kernel
theorem dX1_init_33 : decode cX1_init 33 = .ok (.ifnonnull 7, 3) := by decide +kernel
theorem dX1_init_36 : decode cX1_init 36 = .ok (.iconst 0, 1) := by decide +kernel
theorem dX1_init_37 : decode cX1_init 37 = .ok (.goto 9, 3) := by decide +kernel
theorem dX1_init_40 : decode cX1_init 40 = .ok (.aload_n 2, 1) := by decide +kernel
theorem dX1_init_41 : decode cX1_init 41 = .ok (.getfield 27, 3) := by decide +kernel
theorem dX1_init_44 : decode cX1_init 44 = .ok (.iconst 1, 1) := by decide +kernel
theorem dX1_init_45 : decode cX1_init 45 = .ok (.iadd, 1) := by decide +kernel
theorem dX1_init_46 : decode cX1_init 46 = .ok (.putfield 27, 3) := by decide +kernel
theorem dX1_init_49 : decode cX1_init 49 = .ok (.return_, 1) := by decide +kernel
theorem dX2_init_0 : decode cX2_init 0 = .ok (.aload_n 0, 1) := by decide +kernel
theorem dX2_init_1 : decode cX2_init 1 = .ok (.invokespecial 3, 3) := by decide +kernel
theorem dX2_init_4 : decode cX2_init 4 = .ok (.aload_n 0, 1) := by decide +kernel
theorem dX2_init_5 : decode cX2_init 5 = .ok (.bipush 80, 2) := by decide +kernel
theorem dX2_init_7 : decode cX2_init 7 = .ok (.anewarray 9, 3) := by decide +kernel
theorem dX2_init_10 : decode cX2_init 10 = .ok (.putfield 11, 3) := by decide +kernel
theorem dX2_init_13 : decode cX2_init 13 = .ok (.return_, 1) := by decide +kernel
theorem dX2_findRoot_0 : decode cX2_findRoot 0 = .ok (.iconst 0, 1) := by decide +kernel
theorem dX2_findRoot_1 : decode cX2_findRoot 1 = .ok (.istore_n 2, 1) := by decide +kernel
theorem dX2_findRoot_2 : decode cX2_findRoot 2 = .ok (.iload_n 2, 1) := by decide +kernel
theorem dX2_findRoot_3 : decode cX2_findRoot 3 = .ok (.aload_n 0, 1) := by decide +kernel
theorem dX2_findRoot_4 : decode cX2_findRoot 4 = .ok (.getfield 17, 3) := by decide +kernel
theorem dX2_findRoot_7 : decode cX2_findRoot 7 = .ok (.if_icmp .ge 33, 3) := by decide +kernel
theorem dX2_findRoot_10 : decode cX2_findRoot 10 = .ok (.aload_n 0, 1) := by decide +kernel
theorem dX2_findRoot_11 : decode cX2_findRoot 11 = .ok (.getfield 11, 3) := by decide +kernel
theorem dX2_findRoot_14 : decode cX2_findRoot 14 = .ok (.iload_n 2, 1) := by decide +kernel
theorem dX2_findRoot_15 : decode cX2_findRoot 15 = .ok (.aaload, 1) := by decide +kernel
theorem dX2_findRoot_16 : decode cX2_findRoot 16 = .ok (.astore_n 3, 1) := by decide +kernel
theorem dX2_findRoot_17 : decode cX2_findRoot 17 = .ok (.aload_n 3, 1) := by decide +kernel
theorem dX2_findRoot_18 : decode cX2_findRoot 18 = .ok (.getfield 21, 3) := by decide +kernel
theorem dX2_findRoot_21 : decode cX2_findRoot 21 = .ok (.ifnonnull 13, 3) := by decide +kernel
theorem dX2_findRoot_24 : decode cX2_findRoot 24 = .ok (.aload_n 3, 1) := by decide +kernel
theorem dX2_findRoot_25 : decode cX2_findRoot 25 = .ok (.getfield 25, 3) := by decide +kernel
theorem dX2_findRoot_28 : decode cX2_findRoot 28 = .ok (.aload_n 1, 1) := by decide +kernel
theorem dX2_findRoot_29 : decode cX2_findRoot 29 = .ok (.if_acmp .ne 5, 3) := by decide +kernel
theorem dX2_findRoot_32 : decode cX2_findRoot 32 = .ok (.aload_n 3, 1) := by decide +kernel
theorem dX2_findRoot_33 : decode cX2_findRoot 33 = .ok (.areturn, 1) := by decide +kernel
theorem dX2_findRoot_34 : decode cX2_findRoot 34 = .ok (.iinc 2 1, 3) := by decide +kernel
theorem dX2_findRoot_37 : decode cX2_findRoot 37 = .ok (.goto (-35), 3) := by decide +kernel
theorem dX2_findRoot_40 : decode cX2_findRoot 40 = .ok (.aconst_null, 1) := by decide +kernel
theorem dX2_findRoot_41 : decode cX2_findRoot 41 = .ok (.areturn, 1) := by decide +kernel
theorem dX2_findBeneath_0 : decode cX2_findBeneath 0 = .ok (.aload_n 1, 1) := by decide +kernel
theorem dX2_findBeneath_1 : decode cX2_findBeneath 1 = .ok (.getfield 29, 3) := by decide +kernel
theorem dX2_findBeneath_4 : decode cX2_findBeneath 4 = .ok (.iconst 1, 1) := by decide +kernel
theorem dX2_findBeneath_5 : decode cX2_findBeneath 5 = .ok (.iadd, 1) := by decide +kernel
theorem dX2_findBeneath_6 : decode cX2_findBeneath 6 = .ok (.istore 4, 2) := by decide +kernel
theorem dX2_findBeneath_8 : decode cX2_findBeneath 8 = .ok (.iload 4, 2) := by decide +kernel
theorem dX2_findBeneath_10 : decode cX2_findBeneath 10 = .ok (.aload_n 0, 1) := by decide +kernel
theorem dX2_findBeneath_11 : decode cX2_findBeneath 11 = .ok (.getfield 17, 3) := by decide +kernel
theorem dX2_findBeneath_14 : decode cX2_findBeneath 14 = .ok (.if_icmp .ge 48, 3) := by decide +kernel
theorem dX2_findBeneath_17 : decode cX2_findBeneath 17 = .ok (.aload_n 0, 1) := by decide +kernel
theorem dX2_findBeneath_18 : decode cX2_findBeneath 18 = .ok (.getfield 11, 3) := by decide +kernel
theorem dX2_findBeneath_21 : decode cX2_findBeneath 21 = .ok (.iload 4, 2) := by decide +kernel
theorem dX2_findBeneath_23 : decode cX2_findBeneath 23 = .ok (.aaload, 1) := by decide +kernel
theorem dX2_findBeneath_24 : decode cX2_findBeneath 24 = .ok (.astore 5, 2) := by decide +kernel
theorem dX2_findBeneath_26 : decode cX2_findBeneath 26 = .ok (.aload 5, 2) := by decide +kernel
theorem dX2_findBeneath_28 : decode cX2_findBeneath 28 = .ok (.getfield 21, 3) := by decide +kernel
theorem dX2_findBeneath_31 : decode cX2_findBeneath 31 = .ok (.aload_n 1, 1) := by decide +kernel
theorem dX2_findBeneath_32 : decode cX2_findBeneath 32 = .ok (.if_acmp .ne 24, 3) := by decide +kernel
theorem dX2_findBeneath_35 : decode cX2_findBeneath 35 = .ok (.aload 5, 2) := by decide +kernel
theorem dX2_findBeneath_37 : decode cX2_findBeneath 37 = .ok (.getfield 32, 3) := by decide +kernel
theorem dX2_findBeneath_40 : decode cX2_findBeneath 40 = .ok (.iload_n 2, 1) := by decide +kernel
theorem dX2_findBeneath_41 : decode cX2_findBeneath 41 = .ok (.if_icmp .ne 15, 3) := by decide +kernel
theorem dX2_findBeneath_44 : decode cX2_findBeneath 44 = .ok (.aload 5, 2) := by decide +kernel
theorem dX2_findBeneath_46 : decode cX2_findBeneath 46 = .ok (.getfield 35, 3) := by decide +kernel
theorem dX2_findBeneath_49 : decode cX2_findBeneath 49 = .ok (.iload_n 3, 1) := by decide +kernel
theorem dX2_findBeneath_50 : decode cX2_findBeneath 50 = .ok (.if_icmp .ne 6, 3) := by decide +kernel
theorem dX2_findBeneath_53 : decode cX2_findBeneath 53 = .ok (.aload 5, 2) := by decide +kernel
theorem dX2_findBeneath_55 : decode cX2_findBeneath 55 = .ok (.areturn, 1) := by decide +kernel
theorem dX2_findBeneath_56 : decode cX2_findBeneath 56 = .ok (.iinc 4 1, 3) := by decide +kernel
theorem dX2_findBeneath_59 : decode cX2_findBeneath 59 = .ok (.goto (-51), 3) := by decide +kernel
theorem dX2_findBeneath_62 : decode cX2_findBeneath 62 = .ok (.aconst_null, 1) := by decide +kernel
theorem dX2_findBeneath_63 : decode cX2_findBeneath 63 = .ok (.areturn, 1) := by decide +kernel
theorem dX2_rootOf_0 : decode cX2_rootOf 0 = .ok (.aload_n 0, 1) := by decide +kernel
theorem dX2_rootOf_1 : decode cX2_rootOf 1 = .ok (.aload_n 1, 1) := by decide +kernel
theorem dX2_rootOf_2 : decode cX2_rootOf 2 = .ok (.invokevirtual 38, 3) := by decide +kernel
theorem dX2_rootOf_5 : decode cX2_rootOf 5 = .ok (.astore_n 2, 1) := by decide +kernel
theorem dX2_rootOf_6 : decode cX2_rootOf 6 = .ok (.aload_n 2, 1) := by decide +kernel
theorem dX2_rootOf_7 : decode cX2_rootOf 7 = .ok (.ifnull 7, 3) := by decide +kernel
theorem dX2_rootOf_10 : decode cX2_rootOf 10 = .ok (.aload_n 2, 1) := by decide +kernel
theorem dX2_rootOf_11 : decode cX2_rootOf 11 = .ok (.goto 11, 3) := by decide +kernel
theorem dX2_rootOf_14 : decode cX2_rootOf 14 = .ok (.aload_n 0, 1) := by decide +kernel
theorem dX2_rootOf_15 : decode cX2_rootOf 15 = .ok (.aconst_null, 1) := by decide +kernel
theorem dX2_rootOf_16 : decode cX2_rootOf 16 = .ok (.aload_n 1, 1) := by decide +kernel
theorem dX2_rootOf_17 : decode cX2_rootOf 17 = .ok (.iconst (-1), 1) := by decide +kernel
theorem dX2_rootOf_18 : decode cX2_rootOf 18 = .ok (.iconst 0, 1) := by decide +kernel
theorem dX2_rootOf_19 : decode cX2_rootOf 19 = .ok (.invokevirtual 42, 3) := by decide +kernel
theorem dX2_rootOf_22 : decode cX2_rootOf 22 = .ok (.areturn, 1) := by decide +kernel
theorem dX2_beneath_0 : decode cX2_beneath 0 = .ok (.aload_n 1, 1) := by decide +kernel
theorem dX2_beneath_1 : decode cX2_beneath 1 = .ok (.ifnull 12, 3) := by decide +kernel
theorem dX2_beneath_4 : decode cX2_beneath 4 = .ok (.aload_n 1, 1) := by decide +kernel
theorem dX2_beneath_5 : decode cX2_beneath 5 = .ok (.getfield 46, 3) := by decide +kernel
theorem dX2_beneath_8 : decode cX2_beneath 8 = .ok (.bipush 8, 2) := by decide +kernel
theorem dX2_beneath_10 : decode cX2_beneath 10 = .ok (.if_icmp .lt 5, 3) := by decide +kernel
theorem dX2_beneath_13 : decode cX2_beneath 13 = .ok (.aconst_null, 1) := by decide +kernel
theorem dX2_beneath_14 : decode cX2_beneath 14 = .ok (.areturn, 1) := by decide +kernel
theorem dX2_beneath_15 : decode cX2_beneath 15 = .ok (.aload_n 0, 1) := by decide +kernel
theorem dX2_beneath_16 : decode cX2_beneath 16 = .ok (.aload_n 1, 1) := by decide +kernel
theorem dX2_beneath_17 : decode cX2_beneath 17 = .ok (.iload_n 2, 1) := by decide +kernel
theorem dX2_beneath_18 : decode cX2_beneath 18 = .ok (.iload_n 3, 1) := by decide +kernel
theorem dX2_beneath_19 : decode cX2_beneath 19 = .ok (.invokevirtual 47, 3) := by decide +kernel
theorem dX2_beneath_22 : decode cX2_beneath 22 = .ok (.astore 4, 2) := by decide +kernel
theorem dX2_beneath_24 : decode cX2_beneath 24 = .ok (.aload 4, 2) := by decide +kernel
theorem dX2_beneath_26 : decode cX2_beneath 26 = .ok (.ifnull 8, 3) := by decide +kernel
theorem dX2_beneath_29 : decode cX2_beneath 29 = .ok (.aload 4, 2) := by decide +kernel
theorem dX2_beneath_31 : decode cX2_beneath 31 = .ok (.goto 14, 3) := by decide +kernel
theorem dX2_beneath_34 : decode cX2_beneath 34 = .ok (.aload_n 0, 1) := by decide +kernel
theorem dX2_beneath_35 : decode cX2_beneath 35 = .ok (.aload_n 1, 1) := by decide +kernel
theorem dX2_beneath_36 : decode cX2_beneath 36 = .ok (.aload_n 1, 1) := by decide +kernel
theorem dX2_beneath_37 : decode cX2_beneath 37 = .ok (.getfield 25, 3) := by decide +kernel
theorem dX2_beneath_40 : decode cX2_beneath 40 = .ok (.iload_n 2, 1) := by decide +kernel
theorem dX2_beneath_41 : decode cX2_beneath 41 = .ok (.iload_n 3, 1) := by decide +kernel
theorem dX2_beneath_42 : decode cX2_beneath 42 = .ok (.invokevirtual 42, 3) := by decide +kernel
theorem dX2_beneath_45 : decode cX2_beneath 45 = .ok (.areturn, 1) := by decide +kernel
theorem dX2_countBeneath_0 : decode cX2_countBeneath 0 = .ok (.iconst 0, 1) := by decide +kernel
theorem dX2_countBeneath_1 : decode cX2_countBeneath 1 = .ok (.istore_n 2, 1) := by decide +kernel
theorem dX2_countBeneath_2 : decode cX2_countBeneath 2 = .ok (.aload_n 1, 1) := by decide +kernel
theorem dX2_countBeneath_3 : decode cX2_countBeneath 3 = .ok (.getfield 29, 3) := by decide +kernel
theorem dX2_countBeneath_6 : decode cX2_countBeneath 6 = .ok (.iconst 1, 1) := by decide +kernel
theorem dX2_countBeneath_7 : decode cX2_countBeneath 7 = .ok (.iadd, 1) := by decide +kernel
theorem dX2_countBeneath_8 : decode cX2_countBeneath 8 = .ok (.istore_n 3, 1) := by decide +kernel
theorem dX2_countBeneath_9 : decode cX2_countBeneath 9 = .ok (.iload_n 3, 1) := by decide +kernel
theorem dX2_countBeneath_10 : decode cX2_countBeneath 10 = .ok (.aload_n 0, 1) := by decide +kernel
theorem dX2_countBeneath_11 : decode cX2_countBeneath 11 = .ok (.getfield 17, 3) := by decide +kernel
theorem dX2_countBeneath_14 : decode cX2_countBeneath 14 = .ok (.if_icmp .ge 25, 3) := by decide +kernel
theorem dX2_countBeneath_17 : decode cX2_countBeneath 17 = .ok (.aload_n 0, 1) := by decide +kernel
theorem dX2_countBeneath_18 : decode cX2_countBeneath 18 = .ok (.getfield 11, 3) := by decide +kernel
theorem dX2_countBeneath_21 : decode cX2_countBeneath 21 = .ok (.iload_n 3, 1) := by decide +kernel
theorem dX2_countBeneath_22 : decode cX2_countBeneath 22 = .ok (.aaload, 1) := by decide +kernel
theorem dX2_countBeneath_23 : decode cX2_countBeneath 23 = .ok (.getfield 21, 3) := by decide +kernel
theorem dX2_countBeneath_26 : decode cX2_countBeneath 26 = .ok (.aload_n 1, 1) := by decide +kernel
theorem dX2_countBeneath_27 : decode cX2_countBeneath 27 = .ok (.if_acmp .ne 6, 3) := by decide +kernel
theorem dX2_countBeneath_30 : decode cX2_countBeneath 30 = .ok (.iinc 2 1, 3) := by decide +kernel
theorem dX2_countBeneath_33 : decode cX2_countBeneath 33 = .ok (.iinc 3 1, 3) := by decide +kernel
theorem dX2_countBeneath_36 : decode cX2_countBeneath 36 = .ok (.goto (-27), 3) := by decide +kernel
theorem dX2_countBeneath_39 : decode cX2_countBeneath 39 = .ok (.iload_n 2, 1) := by decide +kernel
theorem dX2_countBeneath_40 : decode cX2_countBeneath 40 = .ok (.ireturn, 1) := by decide +kernel
theorem dX2_newShape_0 : decode cX2_newShape 0 = .ok (.aload_n 0, 1) := by decide +kernel
theorem dX2_newShape_1 : decode cX2_newShape 1 = .ok (.getfield 17, 3) := by decide +kernel
theorem dX2_newShape_4 : decode cX2_newShape 4 = .ok (.bipush 80, 2) := by decide +kernel
theorem dX2_newShape_6 : decode cX2_newShape 6 = .ok (.if_icmp .lt 5, 3) := by decide +kernel
theorem dX2_newShape_9 : decode cX2_newShape 9 = .ok (.aconst_null, 1) := by decide +kernel
theorem dX2_newShape_10 : decode cX2_newShape 10 = .ok (.areturn, 1) := by decide +kernel
theorem dX2_newShape_11 : decode cX2_newShape 11 = .ok (.new 9, 3) := by decide +kernel
theorem dX2_newShape_14 : decode cX2_newShape 14 = .ok (.dup, 1) := by decide +kernel
theorem dX2_newShape_15 : decode cX2_newShape 15 = .ok (.aload_n 0, 1) := by decide +kernel
theorem dX2_newShape_16 : decode cX2_newShape 16 = .ok (.getfield 17, 3) := by decide +kernel
theorem dX2_newShape_19 : decode cX2_newShape 19 = .ok (.aload_n 1, 1) := by decide +kernel
theorem dX2_newShape_20 : decode cX2_newShape 20 = .ok (.aload_n 2, 1) := by decide +kernel
theorem dX2_newShape_21 : decode cX2_newShape 21 = .ok (.iload_n 3, 1) := by decide +kernel
theorem dX2_newShape_22 : decode cX2_newShape 22 = .ok (.iload 4, 2) := by decide +kernel
theorem dX2_newShape_24 : decode cX2_newShape 24 = .ok (.invokespecial 51, 3) := by decide +kernel
theorem dX2_newShape_27 : decode cX2_newShape 27 = .ok (.astore 5, 2) := by decide +kernel
theorem dX2_newShape_29 : decode cX2_newShape 29 = .ok (.aload_n 0, 1) := by decide +kernel
theorem dX2_newShape_30 : decode cX2_newShape 30 = .ok (.getfield 11, 3) := by decide +kernel
theorem dX2_newShape_33 : decode cX2_newShape 33 = .ok (.aload_n 0, 1) := by decide +kernel
theorem dX2_newShape_34 : decode cX2_newShape 34 = .ok (.getfield 17, 3) := by decide +kernel
theorem dX2_newShape_37 : decode cX2_newShape 37 = .ok (.aload 5, 2) := by decide +kernel
theorem dX2_newShape_39 : decode cX2_newShape 39 = .ok (.aastore, 1) := by decide +kernel
theorem dX2_newShape_40 : decode cX2_newShape 40 = .ok (.aload_n 0, 1) := by decide +kernel
theorem dX2_newShape_41 : decode cX2_newShape 41 = .ok (.dup, 1) := by decide +kernel
theorem dX2_newShape_42 : decode cX2_newShape 42 = .ok (.getfield 17, 3) := by decide +kernel
theorem dX2_newShape_45 : decode cX2_newShape 45 = .ok (.iconst 1, 1) := by decide +kernel
theorem dX2_newShape_46 : decode cX2_newShape 46 = .ok (.iadd, 1) := by decide +kernel
theorem dX2_newShape_47 : decode cX2_newShape 47 = .ok (.putfield 17, 3) := by decide +kernel
theorem dX2_newShape_50 : decode cX2_newShape 50 = .ok (.aload 5, 2) := by decide +kernel
theorem dX2_newShape_52 : decode cX2_newShape 52 = .ok (.areturn, 1) := by decide +kernel
theorem dX3_init_0 : decode cX3_init 0 = .ok (.aload_n 0, 1) := by decide +kernel
theorem dX3_init_1 : decode cX3_init 1 = .ok (.invokespecial 3, 3) := by decide +kernel
theorem dX3_init_4 : decode cX3_init 4 = .ok (.aload_n 0, 1) := by decide +kernel
theorem dX3_init_5 : decode cX3_init 5 = .ok (.bipush 12, 2) := by decide +kernel
theorem dX3_init_7 : decode cX3_init 7 = .ok (.newarray .int, 2) := by decide +kernel
theorem dX3_init_9 : decode cX3_init 9 = .ok (.putfield 9, 3) := by decide +kernel
theorem dX3_init_12 : decode cX3_init 12 = .ok (.aload_n 0, 1) := by decide +kernel
theorem dX3_init_13 : decode cX3_init 13 = .ok (.bipush 12, 2) := by decide +kernel
theorem dX3_init_15 : decode cX3_init 15 = .ok (.newarray .int, 2) := by decide +kernel
theorem dX3_init_17 : decode cX3_init 17 = .ok (.putfield 15, 3) := by decide +kernel
theorem dX3_init_20 : decode cX3_init 20 = .ok (.aload_n 0, 1) := by decide +kernel
theorem dX3_init_21 : decode cX3_init 21 = .ok (.bipush 12, 2) := by decide +kernel
theorem dX3_init_23 : decode cX3_init 23 = .ok (.newarray .int, 2) := by decide +kernel
theorem dX3_init_25 : decode cX3_init 25 = .ok (.putfield 18, 3) := by decide +kernel
theorem dX3_init_28 : decode cX3_init 28 = .ok (.aload_n 0, 1) := by decide +kernel
theorem dX3_init_29 : decode cX3_init 29 = .ok (.bipush 12, 2) := by decide +kernel
theorem dX3_init_31 : decode cX3_init 31 = .ok (.newarray .int, 2) := by decide +kernel
theorem dX3_init_33 : decode cX3_init 33 = .ok (.putfield 21, 3) := by decide +kernel
theorem dX3_init_36 : decode cX3_init 36 = .ok (.aload_n 0, 1) := by decide +kernel
theorem dX3_init_37 : decode cX3_init 37 = .ok (.bipush 12, 2) := by decide +kernel
theorem dX3_init_39 : decode cX3_init 39 = .ok (.newarray .int, 2) := by decide +kernel
theorem dX3_init_41 : decode cX3_init 41 = .ok (.putfield 24, 3) := by decide +kernel
theorem dX3_init_44 : decode cX3_init 44 = .ok (.aload_n 0, 1) := by decide +kernel
theorem dX3_init_45 : decode cX3_init 45 = .ok (.bipush 12, 2) := by decide +kernel
theorem dX3_init_47 : decode cX3_init 47 = .ok (.newarray .int, 2) := by decide +kernel
theorem dX3_init_49 : decode cX3_init 49 = .ok (.putfield 27, 3) := by decide +kernel
theorem dX3_init_52 : decode cX3_init 52 = .ok (.aload_n 0, 1) := by decide +kernel
theorem dX3_init_53 : decode cX3_init 53 = .ok (.iload_n 1, 1) := by decide +kernel
theorem dX3_init_54 : decode cX3_init 54 = .ok (.putfield 30, 3) := by decide +kernel
theorem dX3_init_57 : decode cX3_init 57 = .ok (.iconst 0, 1) := by decide +kernel
theorem dX3_init_58 : decode cX3_init 58 = .ok (.istore_n 2, 1) := by decide +kernel
theorem dX3_init_59 : decode cX3_init 59 = .ok (.iload_n 2, 1) := by decide +kernel
theorem dX3_init_60 : decode cX3_init 60 = .ok (.bipush 12, 2) := by decide +kernel
theorem dX3_init_62 : decode cX3_init 62 = .ok (.if_icmp .ge 20, 3) := by decide +kernel
theorem dX3_init_65 : decode cX3_init 65 = .ok (.aload_n 0, 1) := by decide +kernel
theorem dX3_init_66 : decode cX3_init 66 = .ok (.iload_n 2, 1) := by decide +kernel
theorem dX3_init_67 : decode cX3_init 67 = .ok (.sipush (-1000), 3) := by decide +kernel
theorem dX3_init_70 : decode cX3_init 70 = .ok (.iconst (-1), 1) := by decide +kernel
theorem dX3_init_71 : decode cX3_init 71 = .ok (.iconst (-1), 1) := by decide +kernel
theorem dX3_init_72 : decode cX3_init 72 = .ok (.iconst 0, 1) := by decide +kernel
theorem dX3_init_73 : decode cX3_init 73 = .ok (.invokevirtual 34, 3) := by decide +kernel
theorem dX3_init_76 : decode cX3_init 76 = .ok (.iinc 2 1, 3) := by decide +kernel
theorem dX3_init_79 : decode cX3_init 79 = .ok (.goto (-20), 3) := by decide +kernel
theorem dX3_init_82 : decode cX3_init 82 = .ok (.return_, 1) := by decide +kernel
theorem dX3_has_0 : decode cX3_has 0 = .ok (.aload_n 0, 1) := by decide +kernel
theorem dX3_has_1 : decode cX3_has 1 = .ok (.getfield 15, 3) := by decide +kernel
theorem dX3_has_4 : decode cX3_has 4 = .ok (.iload_n 1, 1) := by decide +kernel
theorem dX3_has_5 : decode cX3_has 5 = .ok (.iaload, 1) := by decide +kernel
theorem dX3_has_6 : decode cX3_has 6 = .ok (.ifCond .eq 7, 3) := by decide +kernel
theorem dX3_has_9 : decode cX3_has 9 = .ok (.iconst 1, 1) := by decide +kernel
theorem dX3_has_10 : decode cX3_has 10 = .ok (.goto 4, 3) := by decide +kernel
theorem dX3_has_13 : decode cX3_has 13 = .ok (.iconst 0, 1) := by decide +kernel
theorem dX3_has_14 : decode cX3_has 14 = .ok (.ireturn, 1) := by decide +kernel
theorem dX3_is_0 : decode cX3_is 0 = .ok (.aload_n 0, 1) := by decide +kernel
theorem dX3_is_1 : decode cX3_is 1 = .ok (.getfield 15, 3) := by decide +kernel
theorem dX3_is_4 : decode cX3_is 4 = .ok (.iload_n 1, 1) := by decide +kernel
theorem dX3_is_5 : decode cX3_is 5 = .ok (.iaload, 1) := by decide +kernel
theorem dX3_is_6 : decode cX3_is 6 = .ok (.iload_n 2, 1) := by decide +kernel
theorem dX3_is_7 : decode cX3_is 7 = .ok (.iand, 1) := by decide +kernel
theorem dX3_is_8 : decode cX3_is 8 = .ok (.ifCond .eq 7, 3) := by decide +kernel
theorem dX3_is_11 : decode cX3_is 11 = .ok (.iconst 1, 1) := by decide +kernel
theorem dX3_is_12 : decode cX3_is 12 = .ok (.goto 4, 3) := by decide +kernel
theorem dX3_is_15 : decode cX3_is 15 = .ok (.iconst 0, 1) := by decide +kernel
theorem dX3_is_16 : decode cX3_is 16 = .ok (.ireturn, 1) := by decide +kernel
theorem dX3_fill_0 : decode cX3_fill 0 = .ok (.aload_n 0, 1) := by decide +kernel
theorem dX3_fill_1 : decode cX3_fill 1 = .ok (.getfield 18, 3) := by decide +kernel
theorem dX3_fill_4 : decode cX3_fill 4 = .ok (.iload_n 1, 1) := by decide +kernel
theorem dX3_fill_5 : decode cX3_fill 5 = .ok (.iload_n 2, 1) := by decide +kernel
theorem dX3_fill_6 : decode cX3_fill 6 = .ok (.iastore, 1) := by decide +kernel
theorem dX3_fill_7 : decode cX3_fill 7 = .ok (.aload_n 0, 1) := by decide +kernel
theorem dX3_fill_8 : decode cX3_fill 8 = .ok (.getfield 21, 3) := by decide +kernel
theorem dX3_fill_11 : decode cX3_fill 11 = .ok (.iload_n 1, 1) := by decide +kernel
theorem dX3_fill_12 : decode cX3_fill 12 = .ok (.iload_n 3, 1) := by decide +kernel
theorem dX3_fill_13 : decode cX3_fill 13 = .ok (.iastore, 1) := by decide +kernel
theorem dX3_fill_14 : decode cX3_fill 14 = .ok (.aload_n 0, 1) := by decide +kernel
theorem dX3_fill_15 : decode cX3_fill 15 = .ok (.getfield 24, 3) := by decide +kernel
theorem dX3_fill_18 : decode cX3_fill 18 = .ok (.iload_n 1, 1) := by decide +kernel
theorem dX3_fill_19 : decode cX3_fill 19 = .ok (.iload 4, 2) := by decide +kernel
theorem dX3_fill_21 : decode cX3_fill 21 = .ok (.iastore, 1) := by decide +kernel
theorem dX3_fill_22 : decode cX3_fill 22 = .ok (.aload_n 0, 1) := by decide +kernel
theorem dX3_fill_23 : decode cX3_fill 23 = .ok (.getfield 27, 3) := by decide +kernel
theorem dX3_fill_26 : decode cX3_fill 26 = .ok (.iload_n 1, 1) := by decide +kernel
theorem dX3_fill_27 : decode cX3_fill 27 = .ok (.iload 5, 2) := by decide +kernel
theorem dX3_fill_29 : decode cX3_fill 29 = .ok (.iastore, 1) := by decide +kernel
theorem dX3_fill_30 : decode cX3_fill 30 = .ok (.return_, 1) := by decide +kernel
theorem dX3_append_0 : decode cX3_append 0 = .ok (.aload_n 0, 1) := by decide +kernel
theorem dX3_append_1 : decode cX3_append 1 = .ok (.getfield 38, 3) := by decide +kernel
theorem dX3_append_4 : decode cX3_append 4 = .ok (.bipush 12, 2) := by decide +kernel
theorem dX3_append_6 : decode cX3_append 6 = .ok (.if_icmp .ge 23, 3) := by decide +kernel
theorem dX3_append_9 : decode cX3_append 9 = .ok (.aload_n 0, 1) := by decide +kernel
theorem dX3_append_10 : decode cX3_append 10 = .ok (.getfield 9, 3) := by decide +kernel
theorem dX3_append_13 : decode cX3_append 13 = .ok (.aload_n 0, 1) := by decide +kernel
theorem dX3_append_14 : decode cX3_append 14 = .ok (.getfield 38, 3) := by decide +kernel
theorem dX3_append_17 : decode cX3_append 17 = .ok (.iload_n 1, 1) := by decide +kernel
theorem dX3_append_18 : decode cX3_append 18 = .ok (.iastore, 1) := by decide +kernel
theorem dX3_append_19 : decode cX3_append 19 = .ok (.aload_n 0, 1) := by decide +kernel
theorem dX3_append_20 : decode cX3_append 20 = .ok (.dup, 1) := by decide +kernel
theorem dX3_append_21 : decode cX3_append 21 = .ok (.getfield 38, 3) := by decide +kernel
theorem dX3_append_24 : decode cX3_append 24 = .ok (.iconst 1, 1) := by decide +kernel
theorem dX3_append_25 : decode cX3_append 25 = .ok (.iadd, 1) := by decide +kernel
theorem dX3_append_26 : decode cX3_append 26 = .ok (.putfield 38, 3) := by decide +kernel
theorem dX3_append_29 : decode cX3_append 29 = .ok (.return_, 1) := by decide +kernel
theorem dX3_takeAway_0 : decode cX3_takeAway 0 = .ok (.iconst 0, 1) := by decide +kernel
theorem dX3_takeAway_1 : decode cX3_takeAway 1 = .ok (.istore_n 2, 1) := by decide +kernel
theorem dX3_takeAway_2 : decode cX3_takeAway 2 = .ok (.iconst 0, 1) := by decide +kernel
theorem dX3_takeAway_3 : decode cX3_takeAway 3 = .ok (.istore_n 3, 1) := by decide +kernel
theorem dX3_takeAway_4 : decode cX3_takeAway 4 = .ok (.iload_n 3, 1) := by decide +kernel
theorem dX3_takeAway_5 : decode cX3_takeAway 5 = .ok (.aload_n 0, 1) := by decide +kernel
theorem dX3_takeAway_6 : decode cX3_takeAway 6 = .ok (.getfield 38, 3) := by decide +kernel
theorem dX3_takeAway_9 : decode cX3_takeAway 9 = .ok (.if_icmp .ge 34, 3) := by decide +kernel
theorem dX3_takeAway_12 : decode cX3_takeAway 12 = .ok (.aload_n 0, 1) := by decide +kernel
theorem dX3_takeAway_13 : decode cX3_takeAway 13 = .ok (.getfield 9, 3) := by decide +kernel
theorem dX3_takeAway_16 : decode cX3_takeAway 16 = .ok (.iload_n 3, 1) := by decide +kernel
theorem dX3_takeAway_17 : decode cX3_takeAway 17 = .ok (.iaload, 1) := by decide +kernel
theorem dX3_takeAway_18 : decode cX3_takeAway 18 = .ok (.iload_n 1, 1) := by decide +kernel
theorem dX3_takeAway_19 : decode cX3_takeAway 19 = .ok (.if_icmp .eq 18, 3) := by decide +kernel
theorem dX3_takeAway_22 : decode cX3_takeAway 22 = .ok (.aload_n 0, 1) := by decide +kernel
theorem dX3_takeAway_23 : decode cX3_takeAway 23 = .ok (.getfield 9, 3) := by decide +kernel
theorem dX3_takeAway_26 : decode cX3_takeAway 26 = .ok (.iload_n 2, 1) := by decide +kernel
theorem dX3_takeAway_27 : decode cX3_takeAway 27 = .ok (.aload_n 0, 1) := by decide +kernel
theorem dX3_takeAway_28 : decode cX3_takeAway 28 = .ok (.getfield 9, 3) := by decide +kernel
theorem dX3_takeAway_31 : decode cX3_takeAway 31 = .ok (.iload_n 3, 1) := by decide +kernel
theorem dX3_takeAway_32 : decode cX3_takeAway 32 = .ok (.iaload, 1) := by decide +kernel
theorem dX3_takeAway_33 : decode cX3_takeAway 33 = .ok (.iastore, 1) := by decide +kernel
theorem dX3_takeAway_34 : decode cX3_takeAway 34 = .ok (.iinc 2 1, 3) := by decide +kernel
theorem dX3_takeAway_37 : decode cX3_takeAway 37 = .ok (.iinc 3 1, 3) := by decide +kernel
theorem dX3_takeAway_40 : decode cX3_takeAway 40 = .ok (.goto (-36), 3) := by decide +kernel
theorem dX3_takeAway_43 : decode cX3_takeAway 43 = .ok (.aload_n 0, 1) := by decide +kernel
theorem dX3_takeAway_44 : decode cX3_takeAway 44 = .ok (.iload_n 2, 1) := by decide +kernel
theorem dX3_takeAway_45 : decode cX3_takeAway 45 = .ok (.putfield 38, 3) := by decide +kernel
theorem dX3_takeAway_48 : decode cX3_takeAway 48 = .ok (.aload_n 0, 1) := by decide +kernel
theorem dX3_takeAway_49 : decode cX3_takeAway 49 = .ok (.getfield 15, 3) := by decide +kernel
theorem dX3_takeAway_52 : decode cX3_takeAway 52 = .ok (.iload_n 1, 1) := by decide +kernel
theorem dX3_takeAway_53 : decode cX3_takeAway 53 = .ok (.iconst 0, 1) := by decide +kernel
theorem dX3_takeAway_54 : decode cX3_takeAway 54 = .ok (.iastore, 1) := by decide +kernel
theorem dX3_takeAway_55 : decode cX3_takeAway 55 = .ok (.aload_n 0, 1) := by decide +kernel
theorem dX3_takeAway_56 : decode cX3_takeAway 56 = .ok (.iload_n 1, 1) := by decide +kernel
theorem dX3_takeAway_57 : decode cX3_takeAway 57 = .ok (.sipush (-1000), 3) := by decide +kernel
theorem dX3_takeAway_60 : decode cX3_takeAway 60 = .ok (.iconst (-1), 1) := by decide +kernel
theorem dX3_takeAway_61 : decode cX3_takeAway 61 = .ok (.iconst (-1), 1) := by decide +kernel
theorem dX3_takeAway_62 : decode cX3_takeAway 62 = .ok (.iconst 0, 1) := by decide +kernel
theorem dX3_takeAway_63 : decode cX3_takeAway 63 = .ok (.invokevirtual 34, 3) := by decide +kernel
theorem dX3_takeAway_66 : decode cX3_takeAway 66 = .ok (.return_, 1) := by decide +kernel
theorem dX3_pairs_0 : decode cX3_pairs 0 = .ok (.iconst 0, 1) := by decide +kernel
theorem dX3_pairs_1 : decode cX3_pairs 1 = .ok (.istore_n 1, 1) := by decide +kernel
theorem dX3_pairs_2 : decode cX3_pairs 2 = .ok (.iconst 0, 1) := by decide +kernel
theorem dX3_pairs_3 : decode cX3_pairs 3 = .ok (.istore_n 2, 1) := by decide +kernel
theorem dX3_pairs_4 : decode cX3_pairs 4 = .ok (.iload_n 2, 1) := by decide +kernel
theorem dX3_pairs_5 : decode cX3_pairs 5 = .ok (.bipush 12, 2) := by decide +kernel
theorem dX3_pairs_7 : decode cX3_pairs 7 = .ok (.if_icmp .ge 21, 3) := by decide +kernel
theorem dX3_pairs_10 : decode cX3_pairs 10 = .ok (.aload_n 0, 1) := by decide +kernel
theorem dX3_pairs_11 : decode cX3_pairs 11 = .ok (.iload_n 2, 1) := by decide +kernel
theorem dX3_pairs_12 : decode cX3_pairs 12 = .ok (.iconst 2, 1) := by decide +kernel
theorem dX3_pairs_13 : decode cX3_pairs 13 = .ok (.invokevirtual 41, 3) := by decide +kernel
theorem dX3_pairs_16 : decode cX3_pairs 16 = .ok (.ifCond .eq 6, 3) := by decide +kernel
theorem dX3_pairs_19 : decode cX3_pairs 19 = .ok (.iinc 1 1, 3) := by decide +kernel
theorem dX3_pairs_22 : decode cX3_pairs 22 = .ok (.iinc 2 1, 3) := by decide +kernel
theorem dX3_pairs_25 : decode cX3_pairs 25 = .ok (.goto (-21), 3) := by decide +kernel
theorem dX3_pairs_28 : decode cX3_pairs 28 = .ok (.iload_n 1, 1) := by decide +kernel
theorem dX3_pairs_29 : decode cX3_pairs 29 = .ok (.ireturn, 1) := by decide +kernel
theorem dX3_nameBits_0 : decode cX3_nameBits 0 = .ok (.iconst 0, 1) := by decide +kernel
theorem dX3_nameBits_1 : decode cX3_nameBits 1 = .ok (.istore_n 1, 1) := by decide +kernel
theorem dX3_nameBits_2 : decode cX3_nameBits 2 = .ok (.iconst 0, 1) := by decide +kernel
theorem dX3_nameBits_3 : decode cX3_nameBits 3 = .ok (.istore_n 2, 1) := by decide +kernel
theorem dX3_nameBits_4 : decode cX3_nameBits 4 = .ok (.iload_n 2, 1) := by decide +kernel
theorem dX3_nameBits_5 : decode cX3_nameBits 5 = .ok (.aload_n 0, 1) := by decide +kernel
theorem dX3_nameBits_6 : decode cX3_nameBits 6 = .ok (.getfield 38, 3) := by decide +kernel
theorem dX3_nameBits_9 : decode cX3_nameBits 9 = .ok (.if_icmp .ge 20, 3) := by decide +kernel
theorem dX3_nameBits_12 : decode cX3_nameBits 12 = .ok (.iload_n 1, 1) := by decide +kernel
theorem dX3_nameBits_13 : decode cX3_nameBits 13 = .ok (.iconst 1, 1) := by decide +kernel
theorem dX3_nameBits_14 : decode cX3_nameBits 14 = .ok (.aload_n 0, 1) := by decide +kernel
theorem dX3_nameBits_15 : decode cX3_nameBits 15 = .ok (.getfield 9, 3) := by decide +kernel
theorem dX3_nameBits_18 : decode cX3_nameBits 18 = .ok (.iload_n 2, 1) := by decide +kernel
theorem dX3_nameBits_19 : decode cX3_nameBits 19 = .ok (.iaload, 1) := by decide +kernel
theorem dX3_nameBits_20 : decode cX3_nameBits 20 = .ok (.ishl, 1) := by decide +kernel
theorem dX3_nameBits_21 : decode cX3_nameBits 21 = .ok (.ior, 1) := by decide +kernel
theorem dX3_nameBits_22 : decode cX3_nameBits 22 = .ok (.istore_n 1, 1) := by decide +kernel
theorem dX3_nameBits_23 : decode cX3_nameBits 23 = .ok (.iinc 2 1, 3) := by decide +kernel
theorem dX3_nameBits_26 : decode cX3_nameBits 26 = .ok (.goto (-22), 3) := by decide +kernel
theorem dX3_nameBits_29 : decode cX3_nameBits 29 = .ok (.iload_n 1, 1) := by decide +kernel
theorem dX3_nameBits_30 : decode cX3_nameBits 30 = .ok (.ireturn, 1) := by decide +kernel
theorem dX3_fieldFact_0 : decode cX3_fieldFact 0 = .ok (.iload_n 2, 1) := by decide +kernel
theorem dX3_fieldFact_1 : decode cX3_fieldFact 1 = .ok (.tableswitch 97 0 5 #[39, 45, 52, 67, 83, 90], 39) := by decide +kernel
theorem dX3_fieldFact_40 : decode cX3_fieldFact 40 = .ok (.aload_n 0, 1) := by decide +kernel
theorem dX3_fieldFact_41 : decode cX3_fieldFact 41 = .ok (.iload_n 1, 1) := by decide +kernel
theorem dX3_fieldFact_42 : decode cX3_fieldFact 42 = .ok (.invokevirtual 45, 3) := by decide +kernel
theorem dX3_fieldFact_45 : decode cX3_fieldFact 45 = .ok (.ireturn, 1) := by decide +kernel
theorem dX3_fieldFact_46 : decode cX3_fieldFact 46 = .ok (.aload_n 0, 1) := by decide +kernel
theorem dX3_fieldFact_47 : decode cX3_fieldFact 47 = .ok (.getfield 18, 3) := by decide +kernel
theorem dX3_fieldFact_50 : decode cX3_fieldFact 50 = .ok (.iload_n 1, 1) := by decide +kernel
theorem dX3_fieldFact_51 : decode cX3_fieldFact 51 = .ok (.iaload, 1) := by decide +kernel
theorem dX3_fieldFact_52 : decode cX3_fieldFact 52 = .ok (.ireturn, 1) := by decide +kernel
theorem dX3_fieldFact_53 : decode cX3_fieldFact 53 = .ok (.aload_n 0, 1) := by decide +kernel
theorem dX3_fieldFact_54 : decode cX3_fieldFact 54 = .ok (.iload_n 1, 1) := by decide +kernel
theorem dX3_fieldFact_55 : decode cX3_fieldFact 55 = .ok (.iconst 4, 1) := by decide +kernel
theorem dX3_fieldFact_56 : decode cX3_fieldFact 56 = .ok (.invokevirtual 41, 3) := by decide +kernel
theorem dX3_fieldFact_59 : decode cX3_fieldFact 59 = .ok (.ifCond .eq 7, 3) := by decide +kernel
theorem dX3_fieldFact_62 : decode cX3_fieldFact 62 = .ok (.iconst 1, 1) := by decide +kernel
theorem dX3_fieldFact_63 : decode cX3_fieldFact 63 = .ok (.goto 4, 3) := by decide +kernel
theorem dX3_fieldFact_66 : decode cX3_fieldFact 66 = .ok (.iconst 0, 1) := by decide +kernel
theorem dX3_fieldFact_67 : decode cX3_fieldFact 67 = .ok (.ireturn, 1) := by decide +kernel
theorem dX3_fieldFact_68 : decode cX3_fieldFact 68 = .ok (.aload_n 0, 1) := by decide +kernel
theorem dX3_fieldFact_69 : decode cX3_fieldFact 69 = .ok (.iload_n 1, 1) := by decide +kernel
theorem dX3_fieldFact_70 : decode cX3_fieldFact 70 = .ok (.bipush 8, 2) := by decide +kernel
theorem dX3_fieldFact_72 : decode cX3_fieldFact 72 = .ok (.invokevirtual 41, 3) := by decide +kernel
theorem dX3_fieldFact_75 : decode cX3_fieldFact 75 = .ok (.ifCond .eq 7, 3) := by decide +kernel
theorem dX3_fieldFact_78 : decode cX3_fieldFact 78 = .ok (.iconst 1, 1) := by decide +kernel
theorem dX3_fieldFact_79 : decode cX3_fieldFact 79 = .ok (.goto 4, 3) := by decide +kernel
theorem dX3_fieldFact_82 : decode cX3_fieldFact 82 = .ok (.iconst 0, 1) := by decide +kernel
theorem dX3_fieldFact_83 : decode cX3_fieldFact 83 = .ok (.ireturn, 1) := by decide +kernel
theorem dX3_fieldFact_84 : decode cX3_fieldFact 84 = .ok (.aload_n 0, 1) := by decide +kernel
theorem dX3_fieldFact_85 : decode cX3_fieldFact 85 = .ok (.getfield 21, 3) := by decide +kernel
theorem dX3_fieldFact_88 : decode cX3_fieldFact 88 = .ok (.iload_n 1, 1) := by decide +kernel
theorem dX3_fieldFact_89 : decode cX3_fieldFact 89 = .ok (.iaload, 1) := by decide +kernel
theorem dX3_fieldFact_90 : decode cX3_fieldFact 90 = .ok (.ireturn, 1) := by decide +kernel
theorem dX3_fieldFact_91 : decode cX3_fieldFact 91 = .ok (.aload_n 0, 1) := by decide +kernel
theorem dX3_fieldFact_92 : decode cX3_fieldFact 92 = .ok (.getfield 24, 3) := by decide +kernel
theorem dX3_fieldFact_95 : decode cX3_fieldFact 95 = .ok (.iload_n 1, 1) := by decide +kernel
theorem dX3_fieldFact_96 : decode cX3_fieldFact 96 = .ok (.iaload, 1) := by decide +kernel
theorem dX3_fieldFact_97 : decode cX3_fieldFact 97 = .ok (.ireturn, 1) := by decide +kernel
theorem dX3_fieldFact_98 : decode cX3_fieldFact 98 = .ok (.aload_n 0, 1) := by decide +kernel
theorem dX3_fieldFact_99 : decode cX3_fieldFact 99 = .ok (.iload_n 1, 1) := by decide +kernel
theorem dX3_fieldFact_100 : decode cX3_fieldFact 100 = .ok (.invokevirtual 49, 3) := by decide +kernel
theorem dX3_fieldFact_103 : decode cX3_fieldFact 103 = .ok (.ireturn, 1) := by decide +kernel
theorem dX3_kind_0 : decode cX3_kind 0 = .ok (.aload_n 0, 1) := by decide +kernel
theorem dX3_kind_1 : decode cX3_kind 1 = .ok (.iload_n 1, 1) := by decide +kernel
theorem dX3_kind_2 : decode cX3_kind 2 = .ok (.invokevirtual 52, 3) := by decide +kernel
theorem dX3_kind_5 : decode cX3_kind 5 = .ok (.ifCond .ne 5, 3) := by decide +kernel
theorem dX3_kind_8 : decode cX3_kind 8 = .ok (.iconst 0, 1) := by decide +kernel
theorem dX3_kind_9 : decode cX3_kind 9 = .ok (.ireturn, 1) := by decide +kernel
theorem dX3_kind_10 : decode cX3_kind 10 = .ok (.aload_n 0, 1) := by decide +kernel
theorem dX3_kind_11 : decode cX3_kind 11 = .ok (.iload_n 1, 1) := by decide +kernel
theorem dX3_kind_12 : decode cX3_kind 12 = .ok (.iconst 2, 1) := by decide +kernel
theorem dX3_kind_13 : decode cX3_kind 13 = .ok (.invokevirtual 41, 3) := by decide +kernel
theorem dX3_kind_16 : decode cX3_kind 16 = .ok (.ifCond .eq 7, 3) := by decide +kernel
theorem dX3_kind_19 : decode cX3_kind 19 = .ok (.iconst 2, 1) := by decide +kernel
theorem dX3_kind_20 : decode cX3_kind 20 = .ok (.goto 4, 3) := by decide +kernel
theorem dX3_kind_23 : decode cX3_kind 23 = .ok (.iconst 1, 1) := by decide +kernel
theorem dX3_kind_24 : decode cX3_kind 24 = .ok (.ireturn, 1) := by decide +kernel
theorem dX3_placeInOrder_0 : decode cX3_placeInOrder 0 = .ok (.iconst 0, 1) := by decide +kernel
theorem dX3_placeInOrder_1 : decode cX3_placeInOrder 1 = .ok (.istore_n 2, 1) := by decide +kernel
theorem dX3_placeInOrder_2 : decode cX3_placeInOrder 2 = .ok (.iload_n 2, 1) := by decide +kernel
theorem dX3_placeInOrder_3 : decode cX3_placeInOrder 3 = .ok (.aload_n 0, 1) := by decide +kernel
theorem dX3_placeInOrder_4 : decode cX3_placeInOrder 4 = .ok (.getfield 38, 3) := by decide +kernel
theorem dX3_placeInOrder_7 : decode cX3_placeInOrder 7 = .ok (.if_icmp .ge 21, 3) := by decide +kernel
theorem dX3_placeInOrder_10 : decode cX3_placeInOrder 10 = .ok (.aload_n 0, 1) := by decide +kernel
theorem dX3_placeInOrder_11 : decode cX3_placeInOrder 11 = .ok (.getfield 9, 3) := by decide +kernel
theorem dX3_placeInOrder_14 : decode cX3_placeInOrder 14 = .ok (.iload_n 2, 1) := by decide +kernel
theorem dX3_placeInOrder_15 : decode cX3_placeInOrder 15 = .ok (.iaload, 1) := by decide +kernel
theorem dX3_placeInOrder_16 : decode cX3_placeInOrder 16 = .ok (.iload_n 1, 1) := by decide +kernel
theorem dX3_placeInOrder_17 : decode cX3_placeInOrder 17 = .ok (.if_icmp .ne 5, 3) := by decide +kernel
theorem dX3_placeInOrder_20 : decode cX3_placeInOrder 20 = .ok (.iload_n 2, 1) := by decide +kernel
theorem dX3_placeInOrder_21 : decode cX3_placeInOrder 21 = .ok (.ireturn, 1) := by decide +kernel
theorem dX3_placeInOrder_22 : decode cX3_placeInOrder 22 = .ok (.iinc 2 1, 3) := by decide +kernel
theorem dX3_placeInOrder_25 : decode cX3_placeInOrder 25 = .ok (.goto (-23), 3) := by decide +kernel
theorem dX3_placeInOrder_28 : decode cX3_placeInOrder 28 = .ok (.iconst (-1), 1) := by decide +kernel
theorem dX3_placeInOrder_29 : decode cX3_placeInOrder 29 = .ok (.ireturn, 1) := by decide +kernel
theorem dX4_init_0 : decode cX4_init 0 = .ok (.aload_n 0, 1) := by decide +kernel
theorem dX4_init_1 : decode cX4_init 1 = .ok (.invokespecial 1, 3) := by decide +kernel
theorem dX4_init_4 : decode cX4_init 4 = .ok (.aload_n 0, 1) := by decide +kernel
theorem dX4_init_5 : decode cX4_init 5 = .ok (.bipush 24, 2) := by decide +kernel
theorem dX4_init_7 : decode cX4_init 7 = .ok (.anewarray 9, 3) := by decide +kernel
theorem dX4_init_10 : decode cX4_init 10 = .ok (.putfield 11, 3) := by decide +kernel
theorem dX4_init_13 : decode cX4_init 13 = .ok (.aload_n 0, 1) := by decide +kernel
theorem dX4_init_14 : decode cX4_init 14 = .ok (.new 15, 3) := by decide +kernel
theorem dX4_init_17 : decode cX4_init 17 = .ok (.dup, 1) := by decide +kernel
theorem dX4_init_18 : decode cX4_init 18 = .ok (.invokespecial 17, 3) := by decide +kernel
theorem dX4_init_21 : decode cX4_init 21 = .ok (.putfield 18, 3) := by decide +kernel
theorem dX4_init_24 : decode cX4_init 24 = .ok (.aload_n 0, 1) := by decide +kernel
theorem dX4_init_25 : decode cX4_init 25 = .ok (.bipush 6, 2) := by decide +kernel
theorem dX4_init_27 : decode cX4_init 27 = .ok (.anewarray 22, 3) := by decide +kernel
theorem dX4_init_30 : decode cX4_init 30 = .ok (.putfield 24, 3) := by decide +kernel
theorem dX4_init_33 : decode cX4_init 33 = .ok (.aload_n 0, 1) := by decide +kernel
theorem dX4_init_34 : decode cX4_init 34 = .ok (.bipush 6, 2) := by decide +kernel
theorem dX4_init_36 : decode cX4_init 36 = .ok (.newarray .int, 2) := by decide +kernel
theorem dX4_init_38 : decode cX4_init 38 = .ok (.putfield 28, 3) := by decide +kernel
theorem dX4_init_41 : decode cX4_init 41 = .ok (.aload_n 0, 1) := by decide +kernel
theorem dX4_init_42 : decode cX4_init 42 = .ok (.bipush 12, 2) := by decide +kernel
theorem dX4_init_44 : decode cX4_init 44 = .ok (.newarray .int, 2) := by decide +kernel
theorem dX4_init_46 : decode cX4_init 46 = .ok (.putfield 32, 3) := by decide +kernel
theorem dX4_init_49 : decode cX4_init 49 = .ok (.iconst 0, 1) := by decide +kernel
theorem dX4_init_50 : decode cX4_init 50 = .ok (.istore_n 1, 1) := by decide +kernel
theorem dX4_init_51 : decode cX4_init 51 = .ok (.iload_n 1, 1) := by decide +kernel
theorem dX4_init_52 : decode cX4_init 52 = .ok (.bipush 6, 2) := by decide +kernel
theorem dX4_init_54 : decode cX4_init 54 = .ok (.if_icmp .ge 22, 3) := by decide +kernel
theorem dX4_init_57 : decode cX4_init 57 = .ok (.aload_n 0, 1) := by decide +kernel
theorem dX4_init_58 : decode cX4_init 58 = .ok (.getfield 24, 3) := by decide +kernel
theorem dX4_init_61 : decode cX4_init 61 = .ok (.iload_n 1, 1) := by decide +kernel
theorem dX4_init_62 : decode cX4_init 62 = .ok (.new 22, 3) := by decide +kernel
theorem dX4_init_65 : decode cX4_init 65 = .ok (.dup, 1) := by decide +kernel
theorem dX4_init_66 : decode cX4_init 66 = .ok (.invokespecial 35, 3) := by decide +kernel
theorem dX4_init_69 : decode cX4_init 69 = .ok (.aastore, 1) := by decide +kernel
theorem dX4_init_70 : decode cX4_init 70 = .ok (.iinc 1 1, 3) := by decide +kernel
theorem dX4_init_73 : decode cX4_init 73 = .ok (.goto (-22), 3) := by decide +kernel
theorem dX4_init_76 : decode cX4_init 76 = .ok (.return_, 1) := by decide +kernel
theorem dX4_make_0 : decode cX4_make 0 = .ok (.aload_n 0, 1) := by decide +kernel
theorem dX4_make_1 : decode cX4_make 1 = .ok (.iload_n 1, 1) := by decide +kernel
theorem dX4_make_2 : decode cX4_make 2 = .ok (.invokevirtual 36, 3) := by decide +kernel
theorem dX4_make_5 : decode cX4_make 5 = .ok (.astore_n 2, 1) := by decide +kernel
theorem dX4_make_6 : decode cX4_make 6 = .ok (.aload_n 0, 1) := by decide +kernel
theorem dX4_make_7 : decode cX4_make 7 = .ok (.getfield 40, 3) := by decide +kernel
theorem dX4_make_10 : decode cX4_make 10 = .ok (.bipush 24, 2) := by decide +kernel
theorem dX4_make_12 : decode cX4_make 12 = .ok (.if_icmp .lt 13, 3) := by decide +kernel
theorem dX4_make_15 : decode cX4_make 15 = .ok (.new 44, 3) := by decide +kernel
theorem dX4_make_18 : decode cX4_make 18 = .ok (.dup, 1) := by decide +kernel
theorem dX4_make_19 : decode cX4_make 19 = .ok (.ldc 46, 2) := by decide +kernel
theorem dX4_make_21 : decode cX4_make 21 = .ok (.invokespecial 48, 3) := by decide +kernel
theorem dX4_make_24 : decode cX4_make 24 = .ok (.athrow, 1) := by decide +kernel
theorem dX4_make_25 : decode cX4_make 25 = .ok (.new 9, 3) := by decide +kernel
theorem dX4_make_28 : decode cX4_make 28 = .ok (.dup, 1) := by decide +kernel
theorem dX4_make_29 : decode cX4_make 29 = .ok (.aload_n 0, 1) := by decide +kernel
theorem dX4_make_30 : decode cX4_make 30 = .ok (.getfield 40, 3) := by decide +kernel
theorem dX4_make_33 : decode cX4_make 33 = .ok (.invokespecial 51, 3) := by decide +kernel
theorem dX4_make_36 : decode cX4_make 36 = .ok (.astore_n 3, 1) := by decide +kernel
theorem dX4_make_37 : decode cX4_make 37 = .ok (.aload_n 0, 1) := by decide +kernel
theorem dX4_make_38 : decode cX4_make 38 = .ok (.getfield 11, 3) := by decide +kernel
theorem dX4_make_41 : decode cX4_make 41 = .ok (.aload_n 0, 1) := by decide +kernel
theorem dX4_make_42 : decode cX4_make 42 = .ok (.getfield 40, 3) := by decide +kernel
theorem dX4_make_45 : decode cX4_make 45 = .ok (.aload_n 3, 1) := by decide +kernel
theorem dX4_make_46 : decode cX4_make 46 = .ok (.aastore, 1) := by decide +kernel
theorem dX4_make_47 : decode cX4_make 47 = .ok (.aload_n 0, 1) := by decide +kernel
theorem dX4_make_48 : decode cX4_make 48 = .ok (.dup, 1) := by decide +kernel
theorem dX4_make_49 : decode cX4_make 49 = .ok (.getfield 40, 3) := by decide +kernel
theorem dX4_make_52 : decode cX4_make 52 = .ok (.iconst 1, 1) := by decide +kernel
theorem dX4_make_53 : decode cX4_make 53 = .ok (.iadd, 1) := by decide +kernel
theorem dX4_make_54 : decode cX4_make 54 = .ok (.putfield 40, 3) := by decide +kernel
theorem dX4_make_57 : decode cX4_make 57 = .ok (.aload_n 3, 1) := by decide +kernel
theorem dX4_make_58 : decode cX4_make 58 = .ok (.aload_n 2, 1) := by decide +kernel
theorem dX4_make_59 : decode cX4_make 59 = .ok (.invokestatic 54, 3) := by decide +kernel
theorem dX4_make_62 : decode cX4_make 62 = .ok (.aload_n 3, 1) := by decide +kernel
theorem dX4_make_63 : decode cX4_make 63 = .ok (.aload_n 0, 1) := by decide +kernel
theorem dX4_make_64 : decode cX4_make 64 = .ok (.getfield 18, 3) := by decide +kernel
theorem dX4_make_67 : decode cX4_make 67 = .ok (.aload_n 2, 1) := by decide +kernel
theorem dX4_make_68 : decode cX4_make 68 = .ok (.invokevirtual 58, 3) := by decide +kernel
theorem dX4_make_71 : decode cX4_make 71 = .ok (.putfield 62, 3) := by decide +kernel
theorem dX4_make_74 : decode cX4_make 74 = .ok (.aload_n 3, 1) := by decide +kernel
theorem dX4_make_75 : decode cX4_make 75 = .ok (.getfield 66, 3) := by decide +kernel
theorem dX4_make_78 : decode cX4_make 78 = .ok (.ireturn, 1) := by decide +kernel
theorem dX4_read_0 : decode cX4_read 0 = .ok (.aload_n 0, 1) := by decide +kernel
theorem dX4_read_1 : decode cX4_read 1 = .ok (.iload_n 1, 1) := by decide +kernel
theorem dX4_read_2 : decode cX4_read 2 = .ok (.invokevirtual 69, 3) := by decide +kernel
theorem dX4_read_5 : decode cX4_read 5 = .ok (.astore_n 3, 1) := by decide +kernel
theorem dX4_read_6 : decode cX4_read 6 = .ok (.iload_n 2, 1) := by decide +kernel
theorem dX4_read_7 : decode cX4_read 7 = .ok (.invokestatic 72, 3) := by decide +kernel
theorem dX4_read_10 : decode cX4_read 10 = .ok (.aload_n 0, 1) := by decide +kernel
theorem dX4_read_11 : decode cX4_read 11 = .ok (.aload_n 3, 1) := by decide +kernel
theorem dX4_read_12 : decode cX4_read 12 = .ok (.iload_n 2, 1) := by decide +kernel
theorem dX4_read_13 : decode cX4_read 13 = .ok (.invokevirtual 75, 3) := by decide +kernel
theorem dX4_read_16 : decode cX4_read 16 = .ok (.ireturn, 1) := by decide +kernel
theorem dX4_write_0 : decode cX4_write 0 = .ok (.aload_n 0, 1) := by decide +kernel
theorem dX4_write_1 : decode cX4_write 1 = .ok (.iload_n 1, 1) := by decide +kernel
theorem dX4_write_2 : decode cX4_write 2 = .ok (.invokevirtual 69, 3) := by decide +kernel
theorem dX4_write_5 : decode cX4_write 5 = .ok (.astore 4, 2) := by decide +kernel
theorem dX4_write_7 : decode cX4_write 7 = .ok (.iload_n 2, 1) := by decide +kernel
theorem dX4_write_8 : decode cX4_write 8 = .ok (.invokestatic 72, 3) := by decide +kernel
theorem dX4_write_11 : decode cX4_write 11 = .ok (.aload_n 0, 1) := by decide +kernel
theorem dX4_write_12 : decode cX4_write 12 = .ok (.iload_n 3, 1) := by decide +kernel
theorem dX4_write_13 : decode cX4_write 13 = .ok (.invokevirtual 79, 3) := by decide +kernel
theorem dX4_write_16 : decode cX4_write 16 = .ok (.iload_n 2, 1) := by decide +kernel
theorem dX4_write_17 : decode cX4_write 17 = .ok (.istore 5, 2) := by decide +kernel
theorem dX4_write_19 : decode cX4_write 19 = .ok (.iload_n 3, 1) := by decide +kernel
theorem dX4_write_20 : decode cX4_write 20 = .ok (.istore 6, 2) := by decide +kernel
theorem dX4_write_22 : decode cX4_write 22 = .ok (.iconst 0, 1) := by decide +kernel
theorem dX4_write_23 : decode cX4_write 23 = .ok (.istore 7, 2) := by decide +kernel
theorem dX4_write_25 : decode cX4_write 25 = .ok (.iload 7, 2) := by decide +kernel
theorem dX4_write_27 : decode cX4_write 27 = .ok (.bipush 6, 2) := by decide +kernel
theorem dX4_write_29 : decode cX4_write 29 = .ok (.if_icmp .gt 80, 3) := by decide +kernel
theorem dX4_write_32 : decode cX4_write 32 = .ok (.aload 4, 2) := by decide +kernel
theorem dX4_write_34 : decode cX4_write 34 = .ok (.iload 5, 2) := by decide +kernel
theorem dX4_write_36 : decode cX4_write 36 = .ok (.invokestatic 82, 3) := by decide +kernel
theorem dX4_write_39 : decode cX4_write 39 = .ok (.astore 8, 2) := by decide +kernel
theorem dX4_write_41 : decode cX4_write 41 = .ok (.aload 8, 2) := by decide +kernel
theorem dX4_write_43 : decode cX4_write 43 = .ok (.ifnull 14, 3) := by decide +kernel
theorem dX4_write_46 : decode cX4_write 46 = .ok (.aload 8, 2) := by decide +kernel
theorem dX4_write_48 : decode cX4_write 48 = .ok (.iload 5, 2) := by decide +kernel
theorem dX4_write_50 : decode cX4_write 50 = .ok (.iconst 2, 1) := by decide +kernel
theorem dX4_write_51 : decode cX4_write 51 = .ok (.invokevirtual 86, 3) := by decide +kernel
theorem dX4_write_54 : decode cX4_write 54 = .ok (.ifCond .ne 16, 3) := by decide +kernel
theorem dX4_write_57 : decode cX4_write 57 = .ok (.aload_n 0, 1) := by decide +kernel
theorem dX4_write_58 : decode cX4_write 58 = .ok (.aload 4, 2) := by decide +kernel
theorem dX4_write_60 : decode cX4_write 60 = .ok (.aload 8, 2) := by decide +kernel
theorem dX4_write_62 : decode cX4_write 62 = .ok (.iload 5, 2) := by decide +kernel
theorem dX4_write_64 : decode cX4_write 64 = .ok (.iload 6, 2) := by decide +kernel
theorem dX4_write_66 : decode cX4_write 66 = .ok (.invokevirtual 90, 3) := by decide +kernel
theorem dX4_write_69 : decode cX4_write 69 = .ok (.ireturn, 1) := by decide +kernel
theorem dX4_write_70 : decode cX4_write 70 = .ok (.iload 6, 2) := by decide +kernel
theorem dX4_write_72 : decode cX4_write 72 = .ok (.aload 8, 2) := by decide +kernel
theorem dX4_write_74 : decode cX4_write 74 = .ok (.getfield 94, 3) := by decide +kernel
theorem dX4_write_77 : decode cX4_write 77 = .ok (.iload 5, 2) := by decide +kernel
theorem dX4_write_79 : decode cX4_write 79 = .ok (.iaload, 1) := by decide +kernel
theorem dX4_write_80 : decode cX4_write 80 = .ok (.invokestatic 95, 3) := by decide +kernel
theorem dX4_write_83 : decode cX4_write 83 = .ok (.istore 6, 2) := by decide +kernel
theorem dX4_write_85 : decode cX4_write 85 = .ok (.aload 8, 2) := by decide +kernel
theorem dX4_write_87 : decode cX4_write 87 = .ok (.getfield 99, 3) := by decide +kernel
theorem dX4_write_90 : decode cX4_write 90 = .ok (.iload 5, 2) := by decide +kernel
theorem dX4_write_92 : decode cX4_write 92 = .ok (.iaload, 1) := by decide +kernel
theorem dX4_write_93 : decode cX4_write 93 = .ok (.istore 5, 2) := by decide +kernel
theorem dX4_write_95 : decode cX4_write 95 = .ok (.iload 5, 2) := by decide +kernel
theorem dX4_write_97 : decode cX4_write 97 = .ok (.iconst (-1), 1) := by decide +kernel
theorem dX4_write_98 : decode cX4_write 98 = .ok (.if_icmp .ne 5, 3) := by decide +kernel
theorem dX4_write_101 : decode cX4_write 101 = .ok (.iconst 0, 1) := by decide +kernel
theorem dX4_write_102 : decode cX4_write 102 = .ok (.ireturn, 1) := by decide +kernel
theorem dX4_write_103 : decode cX4_write 103 = .ok (.iinc 7 1, 3) := by decide +kernel
theorem dX4_write_106 : decode cX4_write 106 = .ok (.goto (-81), 3) := by decide +kernel
theorem dX4_write_109 : decode cX4_write 109 = .ok (.iconst 0, 1) := by decide +kernel
theorem dX4_write_110 : decode cX4_write 110 = .ok (.ireturn, 1) := by decide +kernel
theorem dX4_define_0 : decode cX4_define 0 = .ok (.aload_n 0, 1) := by decide +kernel
theorem dX4_define_1 : decode cX4_define 1 = .ok (.iload_n 1, 1) := by decide +kernel
theorem dX4_define_2 : decode cX4_define 2 = .ok (.invokevirtual 69, 3) := by decide +kernel
theorem dX4_define_5 : decode cX4_define 5 = .ok (.astore 6, 2) := by decide +kernel
theorem dX4_define_7 : decode cX4_define 7 = .ok (.iload_n 2, 1) := by decide +kernel
theorem dX4_define_8 : decode cX4_define 8 = .ok (.invokestatic 72, 3) := by decide +kernel
theorem dX4_define_11 : decode cX4_define 11 = .ok (.aload_n 0, 1) := by decide +kernel
theorem dX4_define_12 : decode cX4_define 12 = .ok (.iload_n 3, 1) := by decide +kernel
theorem dX4_define_13 : decode cX4_define 13 = .ok (.invokevirtual 79, 3) := by decide +kernel
theorem dX4_define_16 : decode cX4_define 16 = .ok (.aload 6, 2) := by decide +kernel
theorem dX4_define_18 : decode cX4_define 18 = .ok (.iload_n 2, 1) := by decide +kernel
theorem dX4_define_19 : decode cX4_define 19 = .ok (.invokestatic 102, 3) := by decide +kernel
theorem dX4_define_22 : decode cX4_define 22 = .ok (.ifCond .ne 5, 3) := by decide +kernel
theorem dX4_define_25 : decode cX4_define 25 = .ok (.iconst 0, 1) := by decide +kernel
theorem dX4_define_26 : decode cX4_define 26 = .ok (.ireturn, 1) := by decide +kernel
theorem dX4_define_27 : decode cX4_define 27 = .ok (.aload_n 0, 1) := by decide +kernel
theorem dX4_define_28 : decode cX4_define 28 = .ok (.aload 6, 2) := by decide +kernel
theorem dX4_define_30 : decode cX4_define 30 = .ok (.iload_n 2, 1) := by decide +kernel
theorem dX4_define_31 : decode cX4_define 31 = .ok (.iconst 1, 1) := by decide +kernel
theorem dX4_define_32 : decode cX4_define 32 = .ok (.iload 4, 2) := by decide +kernel
theorem dX4_define_34 : decode cX4_define 34 = .ok (.ifCond .eq 7, 3) := by decide +kernel
theorem dX4_define_37 : decode cX4_define 37 = .ok (.iconst 4, 1) := by decide +kernel
theorem dX4_define_38 : decode cX4_define 38 = .ok (.goto 4, 3) := by decide +kernel
theorem dX4_define_41 : decode cX4_define 41 = .ok (.iconst 0, 1) := by decide +kernel
theorem dX4_define_42 : decode cX4_define 42 = .ok (.ior, 1) := by decide +kernel
theorem dX4_define_43 : decode cX4_define 43 = .ok (.iload 5, 2) := by decide +kernel
theorem dX4_define_45 : decode cX4_define 45 = .ok (.ifCond .eq 8, 3) := by decide +kernel
theorem dX4_define_48 : decode cX4_define 48 = .ok (.bipush 8, 2) := by decide +kernel
theorem dX4_define_50 : decode cX4_define 50 = .ok (.goto 4, 3) := by decide +kernel
theorem dX4_define_53 : decode cX4_define 53 = .ok (.iconst 0, 1) := by decide +kernel
theorem dX4_define_54 : decode cX4_define 54 = .ok (.ior, 1) := by decide +kernel
theorem dX4_define_55 : decode cX4_define 55 = .ok (.invokevirtual 106, 3) := by decide +kernel
theorem dX4_define_58 : decode cX4_define 58 = .ok (.aload 6, 2) := by decide +kernel
theorem dX4_define_60 : decode cX4_define 60 = .ok (.iload_n 2, 1) := by decide +kernel
theorem dX4_define_61 : decode cX4_define 61 = .ok (.iload_n 3, 1) := by decide +kernel
theorem dX4_define_62 : decode cX4_define 62 = .ok (.iconst (-1), 1) := by decide +kernel
theorem dX4_define_63 : decode cX4_define 63 = .ok (.iconst (-1), 1) := by decide +kernel
theorem dX4_define_64 : decode cX4_define 64 = .ok (.iconst 0, 1) := by decide +kernel
theorem dX4_define_65 : decode cX4_define 65 = .ok (.invokevirtual 110, 3) := by decide +kernel
theorem dX4_define_68 : decode cX4_define 68 = .ok (.iconst 1, 1) := by decide +kernel
theorem dX4_define_69 : decode cX4_define 69 = .ok (.ireturn, 1) := by decide +kernel
theorem dX4_pair_0 : decode cX4_pair 0 = .ok (.aload_n 0, 1) := by decide +kernel
theorem dX4_pair_1 : decode cX4_pair 1 = .ok (.iload_n 1, 1) := by decide +kernel
theorem dX4_pair_2 : decode cX4_pair 2 = .ok (.invokevirtual 69, 3) := by decide +kernel
theorem dX4_pair_5 : decode cX4_pair 5 = .ok (.astore 7, 2) := by decide +kernel
theorem dX4_pair_7 : decode cX4_pair 7 = .ok (.iload_n 2, 1) := by decide +kernel
theorem dX4_pair_8 : decode cX4_pair 8 = .ok (.invokestatic 72, 3) := by decide +kernel
theorem dX4_pair_11 : decode cX4_pair 11 = .ok (.iload_n 3, 1) := by decide +kernel
theorem dX4_pair_12 : decode cX4_pair 12 = .ok (.iload 4, 2) := by decide +kernel
theorem dX4_pair_14 : decode cX4_pair 14 = .ok (.iload 5, 2) := by decide +kernel
theorem dX4_pair_16 : decode cX4_pair 16 = .ok (.invokestatic 114, 3) := by decide +kernel
theorem dX4_pair_19 : decode cX4_pair 19 = .ok (.aload 7, 2) := by decide +kernel
theorem dX4_pair_21 : decode cX4_pair 21 = .ok (.iload_n 2, 1) := by decide +kernel
theorem dX4_pair_22 : decode cX4_pair 22 = .ok (.invokestatic 102, 3) := by decide +kernel
theorem dX4_pair_25 : decode cX4_pair 25 = .ok (.ifCond .ne 5, 3) := by decide +kernel
theorem dX4_pair_28 : decode cX4_pair 28 = .ok (.iconst 0, 1) := by decide +kernel
theorem dX4_pair_29 : decode cX4_pair 29 = .ok (.ireturn, 1) := by decide +kernel
theorem dX4_pair_30 : decode cX4_pair 30 = .ok (.aload_n 0, 1) := by decide +kernel
theorem dX4_pair_31 : decode cX4_pair 31 = .ok (.aload 7, 2) := by decide +kernel
theorem dX4_pair_33 : decode cX4_pair 33 = .ok (.iload_n 2, 1) := by decide +kernel
theorem dX4_pair_34 : decode cX4_pair 34 = .ok (.iconst 3, 1) := by decide +kernel
theorem dX4_pair_35 : decode cX4_pair 35 = .ok (.iload 6, 2) := by decide +kernel
theorem dX4_pair_37 : decode cX4_pair 37 = .ok (.ifCond .eq 8, 3) := by decide +kernel
theorem dX4_pair_40 : decode cX4_pair 40 = .ok (.bipush 8, 2) := by decide +kernel
theorem dX4_pair_42 : decode cX4_pair 42 = .ok (.goto 4, 3) := by decide +kernel
theorem dX4_pair_45 : decode cX4_pair 45 = .ok (.iconst 0, 1) := by decide +kernel
theorem dX4_pair_46 : decode cX4_pair 46 = .ok (.ior, 1) := by decide +kernel
theorem dX4_pair_47 : decode cX4_pair 47 = .ok (.invokevirtual 106, 3) := by decide +kernel
theorem dX4_pair_50 : decode cX4_pair 50 = .ok (.aload 7, 2) := by decide +kernel
theorem dX4_pair_52 : decode cX4_pair 52 = .ok (.iload_n 2, 1) := by decide +kernel
theorem dX4_pair_53 : decode cX4_pair 53 = .ok (.sipush (-1000), 3) := by decide +kernel
theorem dX4_pair_56 : decode cX4_pair 56 = .ok (.iload_n 3, 1) := by decide +kernel
theorem dX4_pair_57 : decode cX4_pair 57 = .ok (.iload 4, 2) := by decide +kernel
theorem dX4_pair_59 : decode cX4_pair 59 = .ok (.iload 5, 2) := by decide +kernel
theorem dX4_pair_61 : decode cX4_pair 61 = .ok (.invokevirtual 110, 3) := by decide +kernel
theorem dX4_pair_64 : decode cX4_pair 64 = .ok (.iconst 1, 1) := by decide +kernel
theorem dX4_pair_65 : decode cX4_pair 65 = .ok (.ireturn, 1) := by decide +kernel
theorem dX4_remove_0 : decode cX4_remove 0 = .ok (.aload_n 0, 1) := by decide +kernel
theorem dX4_remove_1 : decode cX4_remove 1 = .ok (.iload_n 1, 1) := by decide +kernel
theorem dX4_remove_2 : decode cX4_remove 2 = .ok (.invokevirtual 69, 3) := by decide +kernel
theorem dX4_remove_5 : decode cX4_remove 5 = .ok (.astore_n 3, 1) := by decide +kernel
theorem dX4_remove_6 : decode cX4_remove 6 = .ok (.iload_n 2, 1) := by decide +kernel
theorem dX4_remove_7 : decode cX4_remove 7 = .ok (.invokestatic 72, 3) := by decide +kernel
theorem dX4_remove_10 : decode cX4_remove 10 = .ok (.aload_n 3, 1) := by decide +kernel
theorem dX4_remove_11 : decode cX4_remove 11 = .ok (.iload_n 2, 1) := by decide +kernel
theorem dX4_remove_12 : decode cX4_remove 12 = .ok (.invokevirtual 118, 3) := by decide +kernel
theorem dX4_remove_15 : decode cX4_remove 15 = .ok (.ifCond .eq 12, 3) := by decide +kernel
theorem dX4_remove_18 : decode cX4_remove 18 = .ok (.aload_n 3, 1) := by decide +kernel
theorem dX4_remove_19 : decode cX4_remove 19 = .ok (.iload_n 2, 1) := by decide +kernel
theorem dX4_remove_20 : decode cX4_remove 20 = .ok (.iconst 4, 1) := by decide +kernel
theorem dX4_remove_21 : decode cX4_remove 21 = .ok (.invokevirtual 86, 3) := by decide +kernel
theorem dX4_remove_24 : decode cX4_remove 24 = .ok (.ifCond .eq 5, 3) := by decide +kernel
theorem dX4_remove_27 : decode cX4_remove 27 = .ok (.iconst 0, 1) := by decide +kernel
theorem dX4_remove_28 : decode cX4_remove 28 = .ok (.ireturn, 1) := by decide +kernel
theorem dX4_remove_29 : decode cX4_remove 29 = .ok (.aload_n 3, 1) := by decide +kernel
theorem dX4_remove_30 : decode cX4_remove 30 = .ok (.iload_n 2, 1) := by decide +kernel
theorem dX4_remove_31 : decode cX4_remove 31 = .ok (.invokevirtual 122, 3) := by decide +kernel
theorem dX4_remove_34 : decode cX4_remove 34 = .ok (.aload_n 3, 1) := by decide +kernel
theorem dX4_remove_35 : decode cX4_remove 35 = .ok (.aconst_null, 1) := by decide +kernel
theorem dX4_remove_36 : decode cX4_remove 36 = .ok (.putfield 62, 3) := by decide +kernel
theorem dX4_remove_39 : decode cX4_remove 39 = .ok (.aload_n 0, 1) := by decide +kernel
theorem dX4_remove_40 : decode cX4_remove 40 = .ok (.aload_n 3, 1) := by decide +kernel
theorem dX4_remove_41 : decode cX4_remove 41 = .ok (.invokevirtual 125, 3) := by decide +kernel
theorem dX4_remove_44 : decode cX4_remove 44 = .ok (.iconst 1, 1) := by decide +kernel
theorem dX4_remove_45 : decode cX4_remove 45 = .ok (.ireturn, 1) := by decide +kernel
theorem dX4_adopt_0 : decode cX4_adopt 0 = .ok (.aload_n 0, 1) := by decide +kernel
theorem dX4_adopt_1 : decode cX4_adopt 1 = .ok (.iload_n 1, 1) := by decide +kernel
theorem dX4_adopt_2 : decode cX4_adopt 2 = .ok (.invokevirtual 69, 3) := by decide +kernel
theorem dX4_adopt_5 : decode cX4_adopt 5 = .ok (.astore_n 3, 1) := by decide +kernel
theorem dX4_adopt_6 : decode cX4_adopt 6 = .ok (.aload_n 0, 1) := by decide +kernel
theorem dX4_adopt_7 : decode cX4_adopt 7 = .ok (.iload_n 2, 1) := by decide +kernel
theorem dX4_adopt_8 : decode cX4_adopt 8 = .ok (.invokevirtual 36, 3) := by decide +kernel
theorem dX4_adopt_11 : decode cX4_adopt 11 = .ok (.astore 4, 2) := by decide +kernel
theorem dX4_adopt_13 : decode cX4_adopt 13 = .ok (.aload_n 3, 1) := by decide +kernel
theorem dX4_adopt_14 : decode cX4_adopt 14 = .ok (.getfield 129, 3) := by decide +kernel
theorem dX4_adopt_17 : decode cX4_adopt 17 = .ok (.aload 4, 2) := by decide +kernel
theorem dX4_adopt_19 : decode cX4_adopt 19 = .ok (.if_acmp .ne 5, 3) := by decide +kernel
theorem dX4_adopt_22 : decode cX4_adopt 22 = .ok (.iconst 1, 1) := by decide +kernel
theorem dX4_adopt_23 : decode cX4_adopt 23 = .ok (.ireturn, 1) := by decide +kernel
theorem dX4_adopt_24 : decode cX4_adopt 24 = .ok (.aload_n 3, 1) := by decide +kernel
theorem dX4_adopt_25 : decode cX4_adopt 25 = .ok (.getfield 133, 3) := by decide +kernel
theorem dX4_adopt_28 : decode cX4_adopt 28 = .ok (.ifCond .ne 12, 3) := by decide +kernel
theorem dX4_adopt_31 : decode cX4_adopt 31 = .ok (.aload 4, 2) := by decide +kernel
theorem dX4_adopt_33 : decode cX4_adopt 33 = .ok (.aload_n 3, 1) := by decide +kernel
theorem dX4_adopt_34 : decode cX4_adopt 34 = .ok (.invokestatic 137, 3) := by decide +kernel
theorem dX4_adopt_37 : decode cX4_adopt 37 = .ok (.ifCond .eq 5, 3) := by decide +kernel
theorem dX4_adopt_40 : decode cX4_adopt 40 = .ok (.iconst 0, 1) := by decide +kernel
theorem dX4_adopt_41 : decode cX4_adopt 41 = .ok (.ireturn, 1) := by decide +kernel
theorem dX4_adopt_42 : decode cX4_adopt 42 = .ok (.aload_n 0, 1) := by decide +kernel
theorem dX4_adopt_43 : decode cX4_adopt 43 = .ok (.aload_n 3, 1) := by decide +kernel
theorem dX4_adopt_44 : decode cX4_adopt 44 = .ok (.invokevirtual 125, 3) := by decide +kernel
theorem dX4_adopt_47 : decode cX4_adopt 47 = .ok (.aload_n 3, 1) := by decide +kernel
theorem dX4_adopt_48 : decode cX4_adopt 48 = .ok (.aload 4, 2) := by decide +kernel
theorem dX4_adopt_50 : decode cX4_adopt 50 = .ok (.invokestatic 54, 3) := by decide +kernel
theorem dX4_adopt_53 : decode cX4_adopt 53 = .ok (.aload_n 3, 1) := by decide +kernel
theorem dX4_adopt_54 : decode cX4_adopt 54 = .ok (.getfield 62, 3) := by decide +kernel
theorem dX4_adopt_57 : decode cX4_adopt 57 = .ok (.ifnull 27, 3) := by decide +kernel
theorem dX4_adopt_60 : decode cX4_adopt 60 = .ok (.aload_n 3, 1) := by decide +kernel
theorem dX4_adopt_61 : decode cX4_adopt 61 = .ok (.aload_n 3, 1) := by decide +kernel
theorem dX4_adopt_62 : decode cX4_adopt 62 = .ok (.getfield 141, 3) := by decide +kernel
theorem dX4_adopt_65 : decode cX4_adopt 65 = .ok (.ifCond .ne 15, 3) := by decide +kernel
theorem dX4_adopt_68 : decode cX4_adopt 68 = .ok (.aload_n 0, 1) := by decide +kernel
theorem dX4_adopt_69 : decode cX4_adopt 69 = .ok (.getfield 18, 3) := by decide +kernel
theorem dX4_adopt_72 : decode cX4_adopt 72 = .ok (.aload 4, 2) := by decide +kernel
theorem dX4_adopt_74 : decode cX4_adopt 74 = .ok (.invokevirtual 58, 3) := by decide +kernel
theorem dX4_adopt_77 : decode cX4_adopt 77 = .ok (.goto 4, 3) := by decide +kernel
theorem dX4_adopt_80 : decode cX4_adopt 80 = .ok (.aconst_null, 1) := by decide +kernel
theorem dX4_adopt_81 : decode cX4_adopt 81 = .ok (.putfield 62, 3) := by decide +kernel
theorem dX4_adopt_84 : decode cX4_adopt 84 = .ok (.iconst 1, 1) := by decide +kernel
theorem dX4_adopt_85 : decode cX4_adopt 85 = .ok (.ireturn, 1) := by decide +kernel
theorem dX4_shut_0 : decode cX4_shut 0 = .ok (.aload_n 0, 1) := by decide +kernel
theorem dX4_shut_1 : decode cX4_shut 1 = .ok (.iload_n 1, 1) := by decide +kernel
theorem dX4_shut_2 : decode cX4_shut 2 = .ok (.invokevirtual 69, 3) := by decide +kernel
theorem dX4_shut_5 : decode cX4_shut 5 = .ok (.astore_n 3, 1) := by decide +kernel
theorem dX4_shut_6 : decode cX4_shut 6 = .ok (.aload_n 3, 1) := by decide +kernel
theorem dX4_shut_7 : decode cX4_shut 7 = .ok (.iconst 1, 1) := by decide +kernel
theorem dX4_shut_8 : decode cX4_shut 8 = .ok (.putfield 133, 3) := by decide +kernel
theorem dX4_shut_11 : decode cX4_shut 11 = .ok (.iload_n 2, 1) := by decide +kernel
theorem dX4_shut_12 : decode cX4_shut 12 = .ok (.ifCond .eq 11, 3) := by decide +kernel
theorem dX4_shut_15 : decode cX4_shut 15 = .ok (.aload_n 0, 1) := by decide +kernel
theorem dX4_shut_16 : decode cX4_shut 16 = .ok (.aload_n 3, 1) := by decide +kernel
theorem dX4_shut_17 : decode cX4_shut 17 = .ok (.invokevirtual 144, 3) := by decide +kernel
theorem dX4_shut_20 : decode cX4_shut 20 = .ok (.goto 4, 3) := by decide +kernel
theorem dX4_shut_23 : decode cX4_shut 23 = .ok (.iconst 0, 1) := by decide +kernel
theorem dX4_shut_24 : decode cX4_shut 24 = .ok (.ireturn, 1) := by decide +kernel
theorem dX4_settle_0 : decode cX4_settle 0 = .ok (.aload_n 0, 1) := by decide +kernel
theorem dX4_settle_1 : decode cX4_settle 1 = .ok (.iload_n 1, 1) := by decide +kernel
theorem dX4_settle_2 : decode cX4_settle 2 = .ok (.invokevirtual 69, 3) := by decide +kernel
theorem dX4_settle_5 : decode cX4_settle 5 = .ok (.astore_n 2, 1) := by decide +kernel
theorem dX4_settle_6 : decode cX4_settle 6 = .ok (.aload_n 2, 1) := by decide +kernel
theorem dX4_settle_7 : decode cX4_settle 7 = .ok (.invokestatic 148, 3) := by decide +kernel
theorem dX4_settle_10 : decode cX4_settle 10 = .ok (.ifCond .eq 12, 3) := by decide +kernel
theorem dX4_settle_13 : decode cX4_settle 13 = .ok (.aload_n 2, 1) := by decide +kernel
theorem dX4_settle_14 : decode cX4_settle 14 = .ok (.aload_n 0, 1) := by decide +kernel
theorem dX4_settle_15 : decode cX4_settle 15 = .ok (.aload_n 2, 1) := by decide +kernel
theorem dX4_settle_16 : decode cX4_settle 16 = .ok (.invokevirtual 152, 3) := by decide +kernel
theorem dX4_settle_19 : decode cX4_settle 19 = .ok (.putfield 62, 3) := by decide +kernel
theorem dX4_settle_22 : decode cX4_settle 22 = .ok (.aload_n 2, 1) := by decide +kernel
theorem dX4_settle_23 : decode cX4_settle 23 = .ok (.getfield 62, 3) := by decide +kernel
theorem dX4_settle_26 : decode cX4_settle 26 = .ok (.ifnull 7, 3) := by decide +kernel
theorem dX4_settle_29 : decode cX4_settle 29 = .ok (.iconst 1, 1) := by decide +kernel
theorem dX4_settle_30 : decode cX4_settle 30 = .ok (.goto 4, 3) := by decide +kernel
theorem dX4_settle_33 : decode cX4_settle 33 = .ok (.iconst 0, 1) := by decide +kernel
theorem dX4_settle_34 : decode cX4_settle 34 = .ok (.ireturn, 1) := by decide +kernel
theorem dX4_readAt_0 : decode cX4_readAt 0 = .ok (.aload_n 0, 1) := by decide +kernel
theorem dX4_readAt_1 : decode cX4_readAt 1 = .ok (.iload_n 1, 1) := by decide +kernel
theorem dX4_readAt_2 : decode cX4_readAt 2 = .ok (.invokevirtual 155, 3) := by decide +kernel
theorem dX4_readAt_5 : decode cX4_readAt 5 = .ok (.astore 4, 2) := by decide +kernel
theorem dX4_readAt_7 : decode cX4_readAt 7 = .ok (.aload_n 0, 1) := by decide +kernel
theorem dX4_readAt_8 : decode cX4_readAt 8 = .ok (.iload_n 2, 1) := by decide +kernel
theorem dX4_readAt_9 : decode cX4_readAt 9 = .ok (.invokevirtual 69, 3) := by decide +kernel
theorem dX4_readAt_12 : decode cX4_readAt 12 = .ok (.astore 5, 2) := by decide +kernel
theorem dX4_readAt_14 : decode cX4_readAt 14 = .ok (.iload_n 3, 1) := by decide +kernel
theorem dX4_readAt_15 : decode cX4_readAt 15 = .ok (.invokestatic 72, 3) := by decide +kernel
theorem dX4_readAt_18 : decode cX4_readAt 18 = .ok (.aload 4, 2) := by decide +kernel
theorem dX4_readAt_20 : decode cX4_readAt 20 = .ok (.aload 5, 2) := by decide +kernel
theorem dX4_readAt_22 : decode cX4_readAt 22 = .ok (.getfield 62, 3) := by decide +kernel
theorem dX4_readAt_25 : decode cX4_readAt 25 = .ok (.iload_n 3, 1) := by decide +kernel
theorem dX4_readAt_26 : decode cX4_readAt 26 = .ok (.invokevirtual 159, 3) := by decide +kernel
theorem dX4_readAt_29 : decode cX4_readAt 29 = .ok (.istore 6, 2) := by decide +kernel
theorem dX4_readAt_31 : decode cX4_readAt 31 = .ok (.aload 4, 2) := by decide +kernel
theorem dX4_readAt_33 : decode cX4_readAt 33 = .ok (.iload 6, 2) := by decide +kernel
theorem dX4_readAt_35 : decode cX4_readAt 35 = .ok (.aload 4, 2) := by decide +kernel
theorem dX4_readAt_37 : decode cX4_readAt 37 = .ok (.aload 5, 2) := by decide +kernel
