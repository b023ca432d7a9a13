theorem dX4_numberOf_9 : decode cX4_numberOf 9 = .ok (.getfield 66, 3) := by decide +kernel
theorem dX4_numberOf_12 : decode cX4_numberOf 12 = .ok (.ireturn, 1) := by decide +kernel
theorem dX4_childrenOf_0 : decode cX4_childrenOf 0 = .ok (.iconst 0, 1) := by decide +kernel
theorem dX4_childrenOf_1 : decode cX4_childrenOf 1 = .ok (.istore_n 2, 1) := by decide +kernel
theorem dX4_childrenOf_2 : decode cX4_childrenOf 2 = .ok (.iconst 0, 1) := by decide +kernel
theorem dX4_childrenOf_3 : decode cX4_childrenOf 3 = .ok (.istore_n 3, 1) := by decide +kernel
theorem dX4_childrenOf_4 : decode cX4_childrenOf 4 = .ok (.iload_n 3, 1) := by decide +kernel
theorem dX4_childrenOf_5 : decode cX4_childrenOf 5 = .ok (.aload_n 0, 1) := by decide +kernel
theorem dX4_childrenOf_6 : decode cX4_childrenOf 6 = .ok (.getfield 40, 3) := by decide +kernel
theorem dX4_childrenOf_9 : decode cX4_childrenOf 9 = .ok (.if_icmp .ge 25, 3) := by decide +kernel
theorem dX4_childrenOf_12 : decode cX4_childrenOf 12 = .ok (.aload_n 0, 1) := by decide +kernel
theorem dX4_childrenOf_13 : decode cX4_childrenOf 13 = .ok (.getfield 11, 3) := by decide +kernel
theorem dX4_childrenOf_16 : decode cX4_childrenOf 16 = .ok (.iload_n 3, 1) := by decide +kernel
theorem dX4_childrenOf_17 : decode cX4_childrenOf 17 = .ok (.aaload, 1) := by decide +kernel
theorem dX4_childrenOf_18 : decode cX4_childrenOf 18 = .ok (.getfield 129, 3) := by decide +kernel
theorem dX4_childrenOf_21 : decode cX4_childrenOf 21 = .ok (.aload_n 1, 1) := by decide +kernel
theorem dX4_childrenOf_22 : decode cX4_childrenOf 22 = .ok (.if_acmp .ne 6, 3) := by decide +kernel
theorem dX4_childrenOf_25 : decode cX4_childrenOf 25 = .ok (.iinc 2 1, 3) := by decide +kernel
theorem dX4_childrenOf_28 : decode cX4_childrenOf 28 = .ok (.iinc 3 1, 3) := by decide +kernel
theorem dX4_childrenOf_31 : decode cX4_childrenOf 31 = .ok (.goto (-27), 3) := by decide +kernel
theorem dX4_childrenOf_34 : decode cX4_childrenOf 34 = .ok (.iload_n 2, 1) := by decide +kernel
theorem dX4_childrenOf_35 : decode cX4_childrenOf 35 = .ok (.ireturn, 1) := by decide +kernel
theorem dX4_shapeFact_0 : decode cX4_shapeFact 0 = .ok (.iload_n 2, 1) := by decide +kernel
theorem dX4_shapeFact_1 : decode cX4_shapeFact 1 = .ok (.tableswitch 91 0 5 #[39, 58, 66, 71, 76, 85], 39) := by decide +kernel
theorem dX4_shapeFact_40 : decode cX4_shapeFact 40 = .ok (.aload_n 1, 1) := by decide +kernel
theorem dX4_shapeFact_41 : decode cX4_shapeFact 41 = .ok (.getfield 348, 3) := by decide +kernel
theorem dX4_shapeFact_44 : decode cX4_shapeFact 44 = .ok (.ifnonnull 7, 3) := by decide +kernel
theorem dX4_shapeFact_47 : decode cX4_shapeFact 47 = .ok (.iconst (-1), 1) := by decide +kernel
theorem dX4_shapeFact_48 : decode cX4_shapeFact 48 = .ok (.goto 10, 3) := by decide +kernel
theorem dX4_shapeFact_51 : decode cX4_shapeFact 51 = .ok (.aload_n 1, 1) := by decide +kernel
theorem dX4_shapeFact_52 : decode cX4_shapeFact 52 = .ok (.getfield 348, 3) := by decide +kernel
theorem dX4_shapeFact_55 : decode cX4_shapeFact 55 = .ok (.getfield 341, 3) := by decide +kernel
theorem dX4_shapeFact_58 : decode cX4_shapeFact 58 = .ok (.ireturn, 1) := by decide +kernel
theorem dX4_shapeFact_59 : decode cX4_shapeFact 59 = .ok (.aload_n 1, 1) := by decide +kernel
theorem dX4_shapeFact_60 : decode cX4_shapeFact 60 = .ok (.getfield 304, 3) := by decide +kernel
theorem dX4_shapeFact_63 : decode cX4_shapeFact 63 = .ok (.invokestatic 338, 3) := by decide +kernel
theorem dX4_shapeFact_66 : decode cX4_shapeFact 66 = .ok (.ireturn, 1) := by decide +kernel
theorem dX4_shapeFact_67 : decode cX4_shapeFact 67 = .ok (.aload_n 1, 1) := by decide +kernel
theorem dX4_shapeFact_68 : decode cX4_shapeFact 68 = .ok (.getfield 351, 3) := by decide +kernel
theorem dX4_shapeFact_71 : decode cX4_shapeFact 71 = .ok (.ireturn, 1) := by decide +kernel
theorem dX4_shapeFact_72 : decode cX4_shapeFact 72 = .ok (.aload_n 1, 1) := by decide +kernel
theorem dX4_shapeFact_73 : decode cX4_shapeFact 73 = .ok (.getfield 352, 3) := by decide +kernel
theorem dX4_shapeFact_76 : decode cX4_shapeFact 76 = .ok (.ireturn, 1) := by decide +kernel
theorem dX4_shapeFact_77 : decode cX4_shapeFact 77 = .ok (.aload_n 0, 1) := by decide +kernel
theorem dX4_shapeFact_78 : decode cX4_shapeFact 78 = .ok (.getfield 18, 3) := by decide +kernel
theorem dX4_shapeFact_81 : decode cX4_shapeFact 81 = .ok (.aload_n 1, 1) := by decide +kernel
theorem dX4_shapeFact_82 : decode cX4_shapeFact 82 = .ok (.invokevirtual 355, 3) := by decide +kernel
theorem dX4_shapeFact_85 : decode cX4_shapeFact 85 = .ok (.ireturn, 1) := by decide +kernel
theorem dX4_shapeFact_86 : decode cX4_shapeFact 86 = .ok (.aload_n 0, 1) := by decide +kernel
theorem dX4_shapeFact_87 : decode cX4_shapeFact 87 = .ok (.aload_n 1, 1) := by decide +kernel
theorem dX4_shapeFact_88 : decode cX4_shapeFact 88 = .ok (.invokevirtual 359, 3) := by decide +kernel
theorem dX4_shapeFact_91 : decode cX4_shapeFact 91 = .ok (.ireturn, 1) := by decide +kernel
theorem dX4_shapeFact_92 : decode cX4_shapeFact 92 = .ok (.aload_n 0, 1) := by decide +kernel
theorem dX4_shapeFact_93 : decode cX4_shapeFact 93 = .ok (.aload_n 1, 1) := by decide +kernel
theorem dX4_shapeFact_94 : decode cX4_shapeFact 94 = .ok (.invokevirtual 362, 3) := by decide +kernel
theorem dX4_shapeFact_97 : decode cX4_shapeFact 97 = .ok (.ireturn, 1) := by decide +kernel
theorem dX4_thingsWith_0 : decode cX4_thingsWith 0 = .ok (.iconst 0, 1) := by decide +kernel
theorem dX4_thingsWith_1 : decode cX4_thingsWith 1 = .ok (.istore_n 2, 1) := by decide +kernel
theorem dX4_thingsWith_2 : decode cX4_thingsWith 2 = .ok (.iconst 0, 1) := by decide +kernel
theorem dX4_thingsWith_3 : decode cX4_thingsWith 3 = .ok (.istore_n 3, 1) := by decide +kernel
theorem dX4_thingsWith_4 : decode cX4_thingsWith 4 = .ok (.iload_n 3, 1) := by decide +kernel
theorem dX4_thingsWith_5 : decode cX4_thingsWith 5 = .ok (.aload_n 0, 1) := by decide +kernel
theorem dX4_thingsWith_6 : decode cX4_thingsWith 6 = .ok (.getfield 40, 3) := by decide +kernel
theorem dX4_thingsWith_9 : decode cX4_thingsWith 9 = .ok (.if_icmp .ge 25, 3) := by decide +kernel
theorem dX4_thingsWith_12 : decode cX4_thingsWith 12 = .ok (.aload_n 0, 1) := by decide +kernel
theorem dX4_thingsWith_13 : decode cX4_thingsWith 13 = .ok (.getfield 11, 3) := by decide +kernel
theorem dX4_thingsWith_16 : decode cX4_thingsWith 16 = .ok (.iload_n 3, 1) := by decide +kernel
theorem dX4_thingsWith_17 : decode cX4_thingsWith 17 = .ok (.aaload, 1) := by decide +kernel
theorem dX4_thingsWith_18 : decode cX4_thingsWith 18 = .ok (.getfield 62, 3) := by decide +kernel
theorem dX4_thingsWith_21 : decode cX4_thingsWith 21 = .ok (.aload_n 1, 1) := by decide +kernel
theorem dX4_thingsWith_22 : decode cX4_thingsWith 22 = .ok (.if_acmp .ne 6, 3) := by decide +kernel
theorem dX4_thingsWith_25 : decode cX4_thingsWith 25 = .ok (.iinc 2 1, 3) := by decide +kernel
theorem dX4_thingsWith_28 : decode cX4_thingsWith 28 = .ok (.iinc 3 1, 3) := by decide +kernel
theorem dX4_thingsWith_31 : decode cX4_thingsWith 31 = .ok (.goto (-27), 3) := by decide +kernel
theorem dX4_thingsWith_34 : decode cX4_thingsWith 34 = .ok (.iload_n 2, 1) := by decide +kernel
theorem dX4_thingsWith_35 : decode cX4_thingsWith 35 = .ok (.ireturn, 1) := by decide +kernel
theorem dX4_entriesOf_0 : decode cX4_entriesOf 0 = .ok (.iconst 0, 1) := by decide +kernel
theorem dX4_entriesOf_1 : decode cX4_entriesOf 1 = .ok (.istore_n 2, 1) := by decide +kernel
theorem dX4_entriesOf_2 : decode cX4_entriesOf 2 = .ok (.iconst 0, 1) := by decide +kernel
theorem dX4_entriesOf_3 : decode cX4_entriesOf 3 = .ok (.istore_n 3, 1) := by decide +kernel
theorem dX4_entriesOf_4 : decode cX4_entriesOf 4 = .ok (.iload_n 3, 1) := by decide +kernel
theorem dX4_entriesOf_5 : decode cX4_entriesOf 5 = .ok (.bipush 6, 2) := by decide +kernel
theorem dX4_entriesOf_7 : decode cX4_entriesOf 7 = .ok (.if_icmp .ge 22, 3) := by decide +kernel
theorem dX4_entriesOf_10 : decode cX4_entriesOf 10 = .ok (.iload_n 2, 1) := by decide +kernel
theorem dX4_entriesOf_11 : decode cX4_entriesOf 11 = .ok (.aload_n 0, 1) := by decide +kernel
theorem dX4_entriesOf_12 : decode cX4_entriesOf 12 = .ok (.getfield 24, 3) := by decide +kernel
theorem dX4_entriesOf_15 : decode cX4_entriesOf 15 = .ok (.iload_n 3, 1) := by decide +kernel
theorem dX4_entriesOf_16 : decode cX4_entriesOf 16 = .ok (.aaload, 1) := by decide +kernel
theorem dX4_entriesOf_17 : decode cX4_entriesOf 17 = .ok (.aload_n 1, 1) := by decide +kernel
theorem dX4_entriesOf_18 : decode cX4_entriesOf 18 = .ok (.invokevirtual 365, 3) := by decide +kernel
theorem dX4_entriesOf_21 : decode cX4_entriesOf 21 = .ok (.iadd, 1) := by decide +kernel
theorem dX4_entriesOf_22 : decode cX4_entriesOf 22 = .ok (.istore_n 2, 1) := by decide +kernel
theorem dX4_entriesOf_23 : decode cX4_entriesOf 23 = .ok (.iinc 3 1, 3) := by decide +kernel
theorem dX4_entriesOf_26 : decode cX4_entriesOf 26 = .ok (.goto (-22), 3) := by decide +kernel
theorem dX4_entriesOf_29 : decode cX4_entriesOf 29 = .ok (.iload_n 2, 1) := by decide +kernel
theorem dX4_entriesOf_30 : decode cX4_entriesOf 30 = .ok (.ireturn, 1) := by decide +kernel
theorem dX4_total_0 : decode cX4_total 0 = .ok (.iload_n 1, 1) := by decide +kernel
theorem dX4_total_1 : decode cX4_total 1 = .ok (.tableswitch 114 0 9 #[55, 60, 65, 73, 79, 85, 91, 97, 103, 108], 55) := by decide +kernel
theorem dX4_total_56 : decode cX4_total 56 = .ok (.aload_n 0, 1) := by decide +kernel
theorem dX4_total_57 : decode cX4_total 57 = .ok (.getfield 40, 3) := by decide +kernel
theorem dX4_total_60 : decode cX4_total 60 = .ok (.ireturn, 1) := by decide +kernel
theorem dX4_total_61 : decode cX4_total 61 = .ok (.aload_n 0, 1) := by decide +kernel
theorem dX4_total_62 : decode cX4_total 62 = .ok (.invokevirtual 368, 3) := by decide +kernel
theorem dX4_total_65 : decode cX4_total 65 = .ok (.ireturn, 1) := by decide +kernel
theorem dX4_total_66 : decode cX4_total 66 = .ok (.aload_n 0, 1) := by decide +kernel
theorem dX4_total_67 : decode cX4_total 67 = .ok (.getfield 18, 3) := by decide +kernel
theorem dX4_total_70 : decode cX4_total 70 = .ok (.getfield 206, 3) := by decide +kernel
theorem dX4_total_73 : decode cX4_total 73 = .ok (.ireturn, 1) := by decide +kernel
theorem dX4_total_74 : decode cX4_total 74 = .ok (.aload_n 0, 1) := by decide +kernel
theorem dX4_total_75 : decode cX4_total 75 = .ok (.aconst_null, 1) := by decide +kernel
theorem dX4_total_76 : decode cX4_total 76 = .ok (.invokevirtual 359, 3) := by decide +kernel
theorem dX4_total_79 : decode cX4_total 79 = .ok (.ireturn, 1) := by decide +kernel
theorem dX4_total_80 : decode cX4_total 80 = .ok (.aload_n 0, 1) := by decide +kernel
theorem dX4_total_81 : decode cX4_total 81 = .ok (.iconst 0, 1) := by decide +kernel
theorem dX4_total_82 : decode cX4_total 82 = .ok (.invokevirtual 220, 3) := by decide +kernel
theorem dX4_total_85 : decode cX4_total 85 = .ok (.ireturn, 1) := by decide +kernel
theorem dX4_total_86 : decode cX4_total 86 = .ok (.aload_n 0, 1) := by decide +kernel
theorem dX4_total_87 : decode cX4_total 87 = .ok (.iconst 1, 1) := by decide +kernel
theorem dX4_total_88 : decode cX4_total 88 = .ok (.invokevirtual 220, 3) := by decide +kernel
theorem dX4_total_91 : decode cX4_total 91 = .ok (.ireturn, 1) := by decide +kernel
theorem dX4_total_92 : decode cX4_total 92 = .ok (.aload_n 0, 1) := by decide +kernel
theorem dX4_total_93 : decode cX4_total 93 = .ok (.iconst 2, 1) := by decide +kernel
theorem dX4_total_94 : decode cX4_total 94 = .ok (.invokevirtual 220, 3) := by decide +kernel
theorem dX4_total_97 : decode cX4_total 97 = .ok (.ireturn, 1) := by decide +kernel
theorem dX4_total_98 : decode cX4_total 98 = .ok (.aload_n 0, 1) := by decide +kernel
theorem dX4_total_99 : decode cX4_total 99 = .ok (.iconst 3, 1) := by decide +kernel
theorem dX4_total_100 : decode cX4_total 100 = .ok (.invokevirtual 220, 3) := by decide +kernel
theorem dX4_total_103 : decode cX4_total 103 = .ok (.ireturn, 1) := by decide +kernel
theorem dX4_total_104 : decode cX4_total 104 = .ok (.aload_n 0, 1) := by decide +kernel
theorem dX4_total_105 : decode cX4_total 105 = .ok (.invokevirtual 371, 3) := by decide +kernel
theorem dX4_total_108 : decode cX4_total 108 = .ok (.ireturn, 1) := by decide +kernel
theorem dX4_total_109 : decode cX4_total 109 = .ok (.aload_n 0, 1) := by decide +kernel
theorem dX4_total_110 : decode cX4_total 110 = .ok (.iconst 5, 1) := by decide +kernel
theorem dX4_total_111 : decode cX4_total 111 = .ok (.invokevirtual 220, 3) := by decide +kernel
theorem dX4_total_114 : decode cX4_total 114 = .ok (.ireturn, 1) := by decide +kernel
theorem dX4_total_115 : decode cX4_total 115 = .ok (.aload_n 0, 1) := by decide +kernel
theorem dX4_total_116 : decode cX4_total 116 = .ok (.invokevirtual 374, 3) := by decide +kernel
theorem dX4_total_119 : decode cX4_total 119 = .ok (.ireturn, 1) := by decide +kernel
theorem dX4_allFields_0 : decode cX4_allFields 0 = .ok (.iconst 0, 1) := by decide +kernel
theorem dX4_allFields_1 : decode cX4_allFields 1 = .ok (.istore_n 1, 1) := by decide +kernel
theorem dX4_allFields_2 : decode cX4_allFields 2 = .ok (.iconst 0, 1) := by decide +kernel
theorem dX4_allFields_3 : decode cX4_allFields 3 = .ok (.istore_n 2, 1) := by decide +kernel
theorem dX4_allFields_4 : decode cX4_allFields 4 = .ok (.iload_n 2, 1) := by decide +kernel
theorem dX4_allFields_5 : decode cX4_allFields 5 = .ok (.aload_n 0, 1) := by decide +kernel
theorem dX4_allFields_6 : decode cX4_allFields 6 = .ok (.getfield 40, 3) := by decide +kernel
theorem dX4_allFields_9 : decode cX4_allFields 9 = .ok (.if_icmp .ge 21, 3) := by decide +kernel
theorem dX4_allFields_12 : decode cX4_allFields 12 = .ok (.iload_n 1, 1) := by decide +kernel
theorem dX4_allFields_13 : decode cX4_allFields 13 = .ok (.aload_n 0, 1) := by decide +kernel
theorem dX4_allFields_14 : decode cX4_allFields 14 = .ok (.getfield 11, 3) := by decide +kernel
theorem dX4_allFields_17 : decode cX4_allFields 17 = .ok (.iload_n 2, 1) := by decide +kernel
theorem dX4_allFields_18 : decode cX4_allFields 18 = .ok (.aaload, 1) := by decide +kernel
theorem dX4_allFields_19 : decode cX4_allFields 19 = .ok (.getfield 141, 3) := by decide +kernel
theorem dX4_allFields_22 : decode cX4_allFields 22 = .ok (.iadd, 1) := by decide +kernel
theorem dX4_allFields_23 : decode cX4_allFields 23 = .ok (.istore_n 1, 1) := by decide +kernel
theorem dX4_allFields_24 : decode cX4_allFields 24 = .ok (.iinc 2 1, 3) := by decide +kernel
theorem dX4_allFields_27 : decode cX4_allFields 27 = .ok (.goto (-23), 3) := by decide +kernel
theorem dX4_allFields_30 : decode cX4_allFields 30 = .ok (.iload_n 1, 1) := by decide +kernel
theorem dX4_allFields_31 : decode cX4_allFields 31 = .ok (.ireturn, 1) := by decide +kernel
theorem dX4_placesTotal_0 : decode cX4_placesTotal 0 = .ok (.iconst 0, 1) := by decide +kernel
theorem dX4_placesTotal_1 : decode cX4_placesTotal 1 = .ok (.istore_n 2, 1) := by decide +kernel
theorem dX4_placesTotal_2 : decode cX4_placesTotal 2 = .ok (.iconst 0, 1) := by decide +kernel
theorem dX4_placesTotal_3 : decode cX4_placesTotal 3 = .ok (.istore_n 3, 1) := by decide +kernel
theorem dX4_placesTotal_4 : decode cX4_placesTotal 4 = .ok (.iload_n 3, 1) := by decide +kernel
theorem dX4_placesTotal_5 : decode cX4_placesTotal 5 = .ok (.bipush 6, 2) := by decide +kernel
theorem dX4_placesTotal_7 : decode cX4_placesTotal 7 = .ok (.if_icmp .ge 22, 3) := by decide +kernel
theorem dX4_placesTotal_10 : decode cX4_placesTotal 10 = .ok (.iload_n 2, 1) := by decide +kernel
theorem dX4_placesTotal_11 : decode cX4_placesTotal 11 = .ok (.aload_n 0, 1) := by decide +kernel
theorem dX4_placesTotal_12 : decode cX4_placesTotal 12 = .ok (.getfield 24, 3) := by decide +kernel
theorem dX4_placesTotal_15 : decode cX4_placesTotal 15 = .ok (.iload_n 3, 1) := by decide +kernel
theorem dX4_placesTotal_16 : decode cX4_placesTotal 16 = .ok (.aaload, 1) := by decide +kernel
theorem dX4_placesTotal_17 : decode cX4_placesTotal 17 = .ok (.iload_n 1, 1) := by decide +kernel
theorem dX4_placesTotal_18 : decode cX4_placesTotal 18 = .ok (.invokevirtual 182, 3) := by decide +kernel
theorem dX4_placesTotal_21 : decode cX4_placesTotal 21 = .ok (.iadd, 1) := by decide +kernel
theorem dX4_placesTotal_22 : decode cX4_placesTotal 22 = .ok (.istore_n 2, 1) := by decide +kernel
theorem dX4_placesTotal_23 : decode cX4_placesTotal 23 = .ok (.iinc 3 1, 3) := by decide +kernel
theorem dX4_placesTotal_26 : decode cX4_placesTotal 26 = .ok (.goto (-22), 3) := by decide +kernel
theorem dX4_placesTotal_29 : decode cX4_placesTotal 29 = .ok (.iload_n 2, 1) := by decide +kernel
theorem dX4_placesTotal_30 : decode cX4_placesTotal 30 = .ok (.ireturn, 1) := by decide +kernel
theorem dX4_allWords_0 : decode cX4_allWords 0 = .ok (.iconst 4, 1) := by decide +kernel
theorem dX4_allWords_1 : decode cX4_allWords 1 = .ok (.aload_n 0, 1) := by decide +kernel
theorem dX4_allWords_2 : decode cX4_allWords 2 = .ok (.getfield 18, 3) := by decide +kernel
theorem dX4_allWords_5 : decode cX4_allWords 5 = .ok (.getfield 206, 3) := by decide +kernel
theorem dX4_allWords_8 : decode cX4_allWords 8 = .ok (.imul, 1) := by decide +kernel
theorem dX4_allWords_9 : decode cX4_allWords 9 = .ok (.iconst 3, 1) := by decide +kernel
theorem dX4_allWords_10 : decode cX4_allWords 10 = .ok (.aload_n 0, 1) := by decide +kernel
theorem dX4_allWords_11 : decode cX4_allWords 11 = .ok (.iconst 0, 1) := by decide +kernel
theorem dX4_allWords_12 : decode cX4_allWords 12 = .ok (.invokevirtual 220, 3) := by decide +kernel
theorem dX4_allWords_15 : decode cX4_allWords 15 = .ok (.imul, 1) := by decide +kernel
theorem dX4_allWords_16 : decode cX4_allWords 16 = .ok (.iadd, 1) := by decide +kernel
theorem dX4_allWords_17 : decode cX4_allWords 17 = .ok (.istore_n 1, 1) := by decide +kernel
theorem dX4_allWords_18 : decode cX4_allWords 18 = .ok (.iconst 0, 1) := by decide +kernel
theorem dX4_allWords_19 : decode cX4_allWords 19 = .ok (.istore_n 2, 1) := by decide +kernel
theorem dX4_allWords_20 : decode cX4_allWords 20 = .ok (.iload_n 2, 1) := by decide +kernel
theorem dX4_allWords_21 : decode cX4_allWords 21 = .ok (.aload_n 0, 1) := by decide +kernel
theorem dX4_allWords_22 : decode cX4_allWords 22 = .ok (.getfield 40, 3) := by decide +kernel
theorem dX4_allWords_25 : decode cX4_allWords 25 = .ok (.if_icmp .ge 21, 3) := by decide +kernel
theorem dX4_allWords_28 : decode cX4_allWords 28 = .ok (.iload_n 1, 1) := by decide +kernel
theorem dX4_allWords_29 : decode cX4_allWords 29 = .ok (.aload_n 0, 1) := by decide +kernel
theorem dX4_allWords_30 : decode cX4_allWords 30 = .ok (.getfield 11, 3) := by decide +kernel
theorem dX4_allWords_33 : decode cX4_allWords 33 = .ok (.iload_n 2, 1) := by decide +kernel
theorem dX4_allWords_34 : decode cX4_allWords 34 = .ok (.aaload, 1) := by decide +kernel
theorem dX4_allWords_35 : decode cX4_allWords 35 = .ok (.invokestatic 345, 3) := by decide +kernel
theorem dX4_allWords_38 : decode cX4_allWords 38 = .ok (.iadd, 1) := by decide +kernel
theorem dX4_allWords_39 : decode cX4_allWords 39 = .ok (.istore_n 1, 1) := by decide +kernel
theorem dX4_allWords_40 : decode cX4_allWords 40 = .ok (.iinc 2 1, 3) := by decide +kernel
theorem dX4_allWords_43 : decode cX4_allWords 43 = .ok (.goto (-23), 3) := by decide +kernel
theorem dX4_allWords_46 : decode cX4_allWords 46 = .ok (.iload_n 1, 1) := by decide +kernel
theorem dX4_allWords_47 : decode cX4_allWords 47 = .ok (.ireturn, 1) := by decide +kernel
theorem dX4_unusedShapes_0 : decode cX4_unusedShapes 0 = .ok (.iconst 0, 1) := by decide +kernel
theorem dX4_unusedShapes_1 : decode cX4_unusedShapes 1 = .ok (.istore_n 1, 1) := by decide +kernel
theorem dX4_unusedShapes_2 : decode cX4_unusedShapes 2 = .ok (.iconst 0, 1) := by decide +kernel
theorem dX4_unusedShapes_3 : decode cX4_unusedShapes 3 = .ok (.istore_n 2, 1) := by decide +kernel
theorem dX4_unusedShapes_4 : decode cX4_unusedShapes 4 = .ok (.iload_n 2, 1) := by decide +kernel
theorem dX4_unusedShapes_5 : decode cX4_unusedShapes 5 = .ok (.aload_n 0, 1) := by decide +kernel
theorem dX4_unusedShapes_6 : decode cX4_unusedShapes 6 = .ok (.getfield 18, 3) := by decide +kernel
theorem dX4_unusedShapes_9 : decode cX4_unusedShapes 9 = .ok (.getfield 206, 3) := by decide +kernel
theorem dX4_unusedShapes_12 : decode cX4_unusedShapes 12 = .ok (.if_icmp .ge 28, 3) := by decide +kernel
theorem dX4_unusedShapes_15 : decode cX4_unusedShapes 15 = .ok (.aload_n 0, 1) := by decide +kernel
theorem dX4_unusedShapes_16 : decode cX4_unusedShapes 16 = .ok (.aload_n 0, 1) := by decide +kernel
theorem dX4_unusedShapes_17 : decode cX4_unusedShapes 17 = .ok (.getfield 18, 3) := by decide +kernel
theorem dX4_unusedShapes_20 : decode cX4_unusedShapes 20 = .ok (.getfield 209, 3) := by decide +kernel
theorem dX4_unusedShapes_23 : decode cX4_unusedShapes 23 = .ok (.iload_n 2, 1) := by decide +kernel
theorem dX4_unusedShapes_24 : decode cX4_unusedShapes 24 = .ok (.aaload, 1) := by decide +kernel
theorem dX4_unusedShapes_25 : decode cX4_unusedShapes 25 = .ok (.invokevirtual 359, 3) := by decide +kernel
theorem dX4_unusedShapes_28 : decode cX4_unusedShapes 28 = .ok (.ifCond .ne 6, 3) := by decide +kernel
theorem dX4_unusedShapes_31 : decode cX4_unusedShapes 31 = .ok (.iinc 1 1, 3) := by decide +kernel
theorem dX4_unusedShapes_34 : decode cX4_unusedShapes 34 = .ok (.iinc 2 1, 3) := by decide +kernel
theorem dX4_unusedShapes_37 : decode cX4_unusedShapes 37 = .ok (.goto (-33), 3) := by decide +kernel
theorem dX4_unusedShapes_40 : decode cX4_unusedShapes 40 = .ok (.iload_n 1, 1) := by decide +kernel
theorem dX4_unusedShapes_41 : decode cX4_unusedShapes 41 = .ok (.ireturn, 1) := by decide +kernel
theorem dX4_fillList_0 : decode cX4_fillList 0 = .ok (.iconst 0, 1) := by decide +kernel
theorem dX4_fillList_1 : decode cX4_fillList 1 = .ok (.istore_n 2, 1) := by decide +kernel
theorem dX4_fillList_2 : decode cX4_fillList 2 = .ok (.iconst 0, 1) := by decide +kernel
theorem dX4_fillList_3 : decode cX4_fillList 3 = .ok (.istore_n 3, 1) := by decide +kernel
theorem dX4_fillList_4 : decode cX4_fillList 4 = .ok (.aload_n 1, 1) := by decide +kernel
theorem dX4_fillList_5 : decode cX4_fillList 5 = .ok (.astore 4, 2) := by decide +kernel
theorem dX4_fillList_7 : decode cX4_fillList 7 = .ok (.aload 4, 2) := by decide +kernel
theorem dX4_fillList_9 : decode cX4_fillList 9 = .ok (.ifnull 105, 3) := by decide +kernel
theorem dX4_fillList_12 : decode cX4_fillList 12 = .ok (.iconst 0, 1) := by decide +kernel
theorem dX4_fillList_13 : decode cX4_fillList 13 = .ok (.istore 5, 2) := by decide +kernel
theorem dX4_fillList_15 : decode cX4_fillList 15 = .ok (.iload 5, 2) := by decide +kernel
theorem dX4_fillList_17 : decode cX4_fillList 17 = .ok (.iconst 4, 1) := by decide +kernel
theorem dX4_fillList_18 : decode cX4_fillList 18 = .ok (.if_icmp .ge 30, 3) := by decide +kernel
theorem dX4_fillList_21 : decode cX4_fillList 21 = .ok (.aload 4, 2) := by decide +kernel
theorem dX4_fillList_23 : decode cX4_fillList 23 = .ok (.iload 5, 2) := by decide +kernel
theorem dX4_fillList_25 : decode cX4_fillList 25 = .ok (.invokevirtual 118, 3) := by decide +kernel
theorem dX4_fillList_28 : decode cX4_fillList 28 = .ok (.ifCond .eq 14, 3) := by decide +kernel
theorem dX4_fillList_31 : decode cX4_fillList 31 = .ok (.aload_n 0, 1) := by decide +kernel
theorem dX4_fillList_32 : decode cX4_fillList 32 = .ok (.aload 4, 2) := by decide +kernel
theorem dX4_fillList_34 : decode cX4_fillList 34 = .ok (.iload 5, 2) := by decide +kernel
theorem dX4_fillList_36 : decode cX4_fillList 36 = .ok (.iload_n 3, 1) := by decide +kernel
theorem dX4_fillList_37 : decode cX4_fillList 37 = .ok (.iload_n 2, 1) := by decide +kernel
theorem dX4_fillList_38 : decode cX4_fillList 38 = .ok (.invokevirtual 377, 3) := by decide +kernel
theorem dX4_fillList_41 : decode cX4_fillList 41 = .ok (.istore_n 2, 1) := by decide +kernel
theorem dX4_fillList_42 : decode cX4_fillList 42 = .ok (.iinc 5 1, 3) := by decide +kernel
theorem dX4_fillList_45 : decode cX4_fillList 45 = .ok (.goto (-30), 3) := by decide +kernel
theorem dX4_fillList_48 : decode cX4_fillList 48 = .ok (.iconst 0, 1) := by decide +kernel
theorem dX4_fillList_49 : decode cX4_fillList 49 = .ok (.istore 5, 2) := by decide +kernel
theorem dX4_fillList_51 : decode cX4_fillList 51 = .ok (.iload 5, 2) := by decide +kernel
theorem dX4_fillList_53 : decode cX4_fillList 53 = .ok (.aload 4, 2) := by decide +kernel
theorem dX4_fillList_55 : decode cX4_fillList 55 = .ok (.getfield 141, 3) := by decide +kernel
theorem dX4_fillList_58 : decode cX4_fillList 58 = .ok (.if_icmp .ge 38, 3) := by decide +kernel
theorem dX4_fillList_61 : decode cX4_fillList 61 = .ok (.aload 4, 2) := by decide +kernel
theorem dX4_fillList_63 : decode cX4_fillList 63 = .ok (.getfield 300, 3) := by decide +kernel
theorem dX4_fillList_66 : decode cX4_fillList 66 = .ok (.iload 5, 2) := by decide +kernel
theorem dX4_fillList_68 : decode cX4_fillList 68 = .ok (.iaload, 1) := by decide +kernel
theorem dX4_fillList_69 : decode cX4_fillList 69 = .ok (.iconst 4, 1) := by decide +kernel
theorem dX4_fillList_70 : decode cX4_fillList 70 = .ok (.if_icmp .lt 20, 3) := by decide +kernel
theorem dX4_fillList_73 : decode cX4_fillList 73 = .ok (.aload_n 0, 1) := by decide +kernel
theorem dX4_fillList_74 : decode cX4_fillList 74 = .ok (.aload 4, 2) := by decide +kernel
theorem dX4_fillList_76 : decode cX4_fillList 76 = .ok (.aload 4, 2) := by decide +kernel
theorem dX4_fillList_78 : decode cX4_fillList 78 = .ok (.getfield 300, 3) := by decide +kernel
theorem dX4_fillList_81 : decode cX4_fillList 81 = .ok (.iload 5, 2) := by decide +kernel
theorem dX4_fillList_83 : decode cX4_fillList 83 = .ok (.iaload, 1) := by decide +kernel
theorem dX4_fillList_84 : decode cX4_fillList 84 = .ok (.iload_n 3, 1) := by decide +kernel
theorem dX4_fillList_85 : decode cX4_fillList 85 = .ok (.iload_n 2, 1) := by decide +kernel
theorem dX4_fillList_86 : decode cX4_fillList 86 = .ok (.invokevirtual 377, 3) := by decide +kernel
theorem dX4_fillList_89 : decode cX4_fillList 89 = .ok (.istore_n 2, 1) := by decide +kernel
theorem dX4_fillList_90 : decode cX4_fillList 90 = .ok (.iinc 5 1, 3) := by decide +kernel
theorem dX4_fillList_93 : decode cX4_fillList 93 = .ok (.goto (-42), 3) := by decide +kernel
theorem dX4_fillList_96 : decode cX4_fillList 96 = .ok (.iload_n 3, 1) := by decide +kernel
theorem dX4_fillList_97 : decode cX4_fillList 97 = .ok (.aload 4, 2) := by decide +kernel
theorem dX4_fillList_99 : decode cX4_fillList 99 = .ok (.invokevirtual 381, 3) := by decide +kernel
theorem dX4_fillList_102 : decode cX4_fillList 102 = .ok (.ior, 1) := by decide +kernel
theorem dX4_fillList_103 : decode cX4_fillList 103 = .ok (.istore_n 3, 1) := by decide +kernel
theorem dX4_fillList_104 : decode cX4_fillList 104 = .ok (.aload 4, 2) := by decide +kernel
theorem dX4_fillList_106 : decode cX4_fillList 106 = .ok (.getfield 129, 3) := by decide +kernel
theorem dX4_fillList_109 : decode cX4_fillList 109 = .ok (.astore 4, 2) := by decide +kernel
theorem dX4_fillList_111 : decode cX4_fillList 111 = .ok (.goto (-104), 3) := by decide +kernel
theorem dX4_fillList_114 : decode cX4_fillList 114 = .ok (.iload_n 2, 1) := by decide +kernel
theorem dX4_fillList_115 : decode cX4_fillList 115 = .ok (.ireturn, 1) := by decide +kernel
theorem dX4_listUnlessAhead_0 : decode cX4_listUnlessAhead 0 = .ok (.iload_n 3, 1) := by decide +kernel
theorem dX4_listUnlessAhead_1 : decode cX4_listUnlessAhead 1 = .ok (.iconst 1, 1) := by decide +kernel
theorem dX4_listUnlessAhead_2 : decode cX4_listUnlessAhead 2 = .ok (.iload_n 2, 1) := by decide +kernel
theorem dX4_listUnlessAhead_3 : decode cX4_listUnlessAhead 3 = .ok (.ishl, 1) := by decide +kernel
theorem dX4_listUnlessAhead_4 : decode cX4_listUnlessAhead 4 = .ok (.iand, 1) := by decide +kernel
theorem dX4_listUnlessAhead_5 : decode cX4_listUnlessAhead 5 = .ok (.ifCond .eq 7, 3) := by decide +kernel
theorem dX4_listUnlessAhead_8 : decode cX4_listUnlessAhead 8 = .ok (.iconst 1, 1) := by decide +kernel
theorem dX4_listUnlessAhead_9 : decode cX4_listUnlessAhead 9 = .ok (.goto 4, 3) := by decide +kernel
theorem dX4_listUnlessAhead_12 : decode cX4_listUnlessAhead 12 = .ok (.iconst 0, 1) := by decide +kernel
theorem dX4_listUnlessAhead_13 : decode cX4_listUnlessAhead 13 = .ok (.istore 5, 2) := by decide +kernel
theorem dX4_listUnlessAhead_15 : decode cX4_listUnlessAhead 15 = .ok (.iload 5, 2) := by decide +kernel
theorem dX4_listUnlessAhead_17 : decode cX4_listUnlessAhead 17 = .ok (.ifCond .ne 20, 3) := by decide +kernel
theorem dX4_listUnlessAhead_20 : decode cX4_listUnlessAhead 20 = .ok (.aload_n 1, 1) := by decide +kernel
theorem dX4_listUnlessAhead_21 : decode cX4_listUnlessAhead 21 = .ok (.iload_n 2, 1) := by decide +kernel
theorem dX4_listUnlessAhead_22 : decode cX4_listUnlessAhead 22 = .ok (.bipush 8, 2) := by decide +kernel
theorem dX4_listUnlessAhead_24 : decode cX4_listUnlessAhead 24 = .ok (.invokevirtual 86, 3) := by decide +kernel
theorem dX4_listUnlessAhead_27 : decode cX4_listUnlessAhead 27 = .ok (.ifCond .ne 10, 3) := by decide +kernel
theorem dX4_listUnlessAhead_30 : decode cX4_listUnlessAhead 30 = .ok (.iload 4, 2) := by decide +kernel
theorem dX4_listUnlessAhead_32 : decode cX4_listUnlessAhead 32 = .ok (.bipush 12, 2) := by decide +kernel
theorem dX4_listUnlessAhead_34 : decode cX4_listUnlessAhead 34 = .ok (.if_icmp .lt 6, 3) := by decide +kernel
theorem dX4_listUnlessAhead_37 : decode cX4_listUnlessAhead 37 = .ok (.iload 4, 2) := by decide +kernel
theorem dX4_listUnlessAhead_39 : decode cX4_listUnlessAhead 39 = .ok (.ireturn, 1) := by decide +kernel
theorem dX4_listUnlessAhead_40 : decode cX4_listUnlessAhead 40 = .ok (.aload_n 0, 1) := by decide +kernel
theorem dX4_listUnlessAhead_41 : decode cX4_listUnlessAhead 41 = .ok (.getfield 32, 3) := by decide +kernel
theorem dX4_listUnlessAhead_44 : decode cX4_listUnlessAhead 44 = .ok (.iload 4, 2) := by decide +kernel
theorem dX4_listUnlessAhead_46 : decode cX4_listUnlessAhead 46 = .ok (.iload_n 2, 1) := by decide +kernel
theorem dX4_listUnlessAhead_47 : decode cX4_listUnlessAhead 47 = .ok (.iastore, 1) := by decide +kernel
theorem dX4_listUnlessAhead_48 : decode cX4_listUnlessAhead 48 = .ok (.iload 4, 2) := by decide +kernel
theorem dX4_listUnlessAhead_50 : decode cX4_listUnlessAhead 50 = .ok (.iconst 1, 1) := by decide +kernel
theorem dX4_listUnlessAhead_51 : decode cX4_listUnlessAhead 51 = .ok (.iadd, 1) := by decide +kernel
theorem dX4_listUnlessAhead_52 : decode cX4_listUnlessAhead 52 = .ok (.ireturn, 1) := by decide +kernel
theorem dX4_mixed_0 : decode cX4_mixed 0 = .ok (.lload_n 0, 1) := by decide +kernel
theorem dX4_mixed_1 : decode cX4_mixed 1 = .ok (.ldc2_w 384, 3) := by decide +kernel
theorem dX4_mixed_4 : decode cX4_mixed 4 = .ok (.lmul, 1) := by decide +kernel
theorem dX4_mixed_5 : decode cX4_mixed 5 = .ok (.lload_n 2, 1) := by decide +kernel
theorem dX4_mixed_6 : decode cX4_mixed 6 = .ok (.ladd, 1) := by decide +kernel
theorem dX4_mixed_7 : decode cX4_mixed 7 = .ok (.lreturn, 1) := by decide +kernel
theorem dX4_withObject_0 : decode cX4_withObject 0 = .ok (.lload_n 1, 1) := by decide +kernel
theorem dX4_withObject_1 : decode cX4_withObject 1 = .ok (.lstore 4, 2) := by decide +kernel
theorem dX4_withObject_3 : decode cX4_withObject 3 = .ok (.iconst 0, 1) := by decide +kernel
theorem dX4_withObject_4 : decode cX4_withObject 4 = .ok (.istore 6, 2) := by decide +kernel
theorem dX4_withObject_6 : decode cX4_withObject 6 = .ok (.iload 6, 2) := by decide +kernel
theorem dX4_withObject_8 : decode cX4_withObject 8 = .ok (.bipush 7, 2) := by decide +kernel
theorem dX4_withObject_10 : decode cX4_withObject 10 = .ok (.if_icmp .gt 24, 3) := by decide +kernel
theorem dX4_withObject_13 : decode cX4_withObject 13 = .ok (.lload 4, 2) := by decide +kernel
theorem dX4_withObject_15 : decode cX4_withObject 15 = .ok (.aload_n 0, 1) := by decide +kernel
theorem dX4_withObject_16 : decode cX4_withObject 16 = .ok (.aload_n 3, 1) := by decide +kernel
theorem dX4_withObject_17 : decode cX4_withObject 17 = .ok (.iload 6, 2) := by decide +kernel
theorem dX4_withObject_19 : decode cX4_withObject 19 = .ok (.invokevirtual 195, 3) := by decide +kernel
theorem dX4_withObject_22 : decode cX4_withObject 22 = .ok (.i2l, 1) := by decide +kernel
theorem dX4_withObject_23 : decode cX4_withObject 23 = .ok (.invokestatic 231, 3) := by decide +kernel
theorem dX4_withObject_26 : decode cX4_withObject 26 = .ok (.lstore 4, 2) := by decide +kernel
theorem dX4_withObject_28 : decode cX4_withObject 28 = .ok (.iinc 6 1, 3) := by decide +kernel
theorem dX4_withObject_31 : decode cX4_withObject 31 = .ok (.goto (-25), 3) := by decide +kernel
theorem dX4_withObject_34 : decode cX4_withObject 34 = .ok (.iconst 0, 1) := by decide +kernel
theorem dX4_withObject_35 : decode cX4_withObject 35 = .ok (.istore 6, 2) := by decide +kernel
theorem dX4_withObject_37 : decode cX4_withObject 37 = .ok (.iload 6, 2) := by decide +kernel
theorem dX4_withObject_39 : decode cX4_withObject 39 = .ok (.bipush 12, 2) := by decide +kernel
theorem dX4_withObject_41 : decode cX4_withObject 41 = .ok (.if_icmp .ge 56, 3) := by decide +kernel
theorem dX4_withObject_44 : decode cX4_withObject 44 = .ok (.lload 4, 2) := by decide +kernel
theorem dX4_withObject_46 : decode cX4_withObject 46 = .ok (.aload_n 0, 1) := by decide +kernel
theorem dX4_withObject_47 : decode cX4_withObject 47 = .ok (.aload_n 3, 1) := by decide +kernel
theorem dX4_withObject_48 : decode cX4_withObject 48 = .ok (.iload 6, 2) := by decide +kernel
theorem dX4_withObject_50 : decode cX4_withObject 50 = .ok (.invokevirtual 75, 3) := by decide +kernel
theorem dX4_withObject_53 : decode cX4_withObject 53 = .ok (.i2l, 1) := by decide +kernel
theorem dX4_withObject_54 : decode cX4_withObject 54 = .ok (.invokestatic 231, 3) := by decide +kernel
theorem dX4_withObject_57 : decode cX4_withObject 57 = .ok (.lstore 4, 2) := by decide +kernel
theorem dX4_withObject_59 : decode cX4_withObject 59 = .ok (.iconst 0, 1) := by decide +kernel
theorem dX4_withObject_60 : decode cX4_withObject 60 = .ok (.istore 7, 2) := by decide +kernel
theorem dX4_withObject_62 : decode cX4_withObject 62 = .ok (.iload 7, 2) := by decide +kernel
theorem dX4_withObject_64 : decode cX4_withObject 64 = .ok (.bipush 6, 2) := by decide +kernel
theorem dX4_withObject_66 : decode cX4_withObject 66 = .ok (.if_icmp .gt 25, 3) := by decide +kernel
theorem dX4_withObject_69 : decode cX4_withObject 69 = .ok (.lload 4, 2) := by decide +kernel
theorem dX4_withObject_71 : decode cX4_withObject 71 = .ok (.aload_n 3, 1) := by decide +kernel
theorem dX4_withObject_72 : decode cX4_withObject 72 = .ok (.iload 6, 2) := by decide +kernel
theorem dX4_withObject_74 : decode cX4_withObject 74 = .ok (.iload 7, 2) := by decide +kernel
theorem dX4_withObject_76 : decode cX4_withObject 76 = .ok (.invokevirtual 198, 3) := by decide +kernel
theorem dX4_withObject_79 : decode cX4_withObject 79 = .ok (.i2l, 1) := by decide +kernel
theorem dX4_withObject_80 : decode cX4_withObject 80 = .ok (.invokestatic 231, 3) := by decide +kernel
theorem dX4_withObject_83 : decode cX4_withObject 83 = .ok (.lstore 4, 2) := by decide +kernel
theorem dX4_withObject_85 : decode cX4_withObject 85 = .ok (.iinc 7 1, 3) := by decide +kernel
theorem dX4_withObject_88 : decode cX4_withObject 88 = .ok (.goto (-26), 3) := by decide +kernel
theorem dX4_withObject_91 : decode cX4_withObject 91 = .ok (.iinc 6 1, 3) := by decide +kernel
theorem dX4_withObject_94 : decode cX4_withObject 94 = .ok (.goto (-57), 3) := by decide +kernel
theorem dX4_withObject_97 : decode cX4_withObject 97 = .ok (.aload_n 0, 1) := by decide +kernel
theorem dX4_withObject_98 : decode cX4_withObject 98 = .ok (.aload_n 3, 1) := by decide +kernel
theorem dX4_withObject_99 : decode cX4_withObject 99 = .ok (.invokevirtual 201, 3) := by decide +kernel
theorem dX4_withObject_102 : decode cX4_withObject 102 = .ok (.istore 6, 2) := by decide +kernel
theorem dX4_withObject_104 : decode cX4_withObject 104 = .ok (.iconst 0, 1) := by decide +kernel
theorem dX4_withObject_105 : decode cX4_withObject 105 = .ok (.istore 7, 2) := by decide +kernel
theorem dX4_withObject_107 : decode cX4_withObject 107 = .ok (.iload 7, 2) := by decide +kernel
theorem dX4_withObject_109 : decode cX4_withObject 109 = .ok (.iload 6, 2) := by decide +kernel
theorem dX4_withObject_111 : decode cX4_withObject 111 = .ok (.if_icmp .ge 31, 3) := by decide +kernel
theorem dX4_withObject_114 : decode cX4_withObject 114 = .ok (.iload 7, 2) := by decide +kernel
theorem dX4_withObject_116 : decode cX4_withObject 116 = .ok (.bipush 12, 2) := by decide +kernel
theorem dX4_withObject_118 : decode cX4_withObject 118 = .ok (.if_icmp .ge 24, 3) := by decide +kernel
theorem dX4_withObject_121 : decode cX4_withObject 121 = .ok (.lload 4, 2) := by decide +kernel
theorem dX4_withObject_123 : decode cX4_withObject 123 = .ok (.aload_n 0, 1) := by decide +kernel
theorem dX4_withObject_124 : decode cX4_withObject 124 = .ok (.getfield 32, 3) := by decide +kernel
theorem dX4_withObject_127 : decode cX4_withObject 127 = .ok (.iload 7, 2) := by decide +kernel
theorem dX4_withObject_129 : decode cX4_withObject 129 = .ok (.iaload, 1) := by decide +kernel
theorem dX4_withObject_130 : decode cX4_withObject 130 = .ok (.i2l, 1) := by decide +kernel
theorem dX4_withObject_131 : decode cX4_withObject 131 = .ok (.invokestatic 231, 3) := by decide +kernel
theorem dX4_withObject_134 : decode cX4_withObject 134 = .ok (.lstore 4, 2) := by decide +kernel
theorem dX4_withObject_136 : decode cX4_withObject 136 = .ok (.iinc 7 1, 3) := by decide +kernel
theorem dX4_withObject_139 : decode cX4_withObject 139 = .ok (.goto (-32), 3) := by decide +kernel
theorem dX4_withObject_142 : decode cX4_withObject 142 = .ok (.lload 4, 2) := by decide +kernel
theorem dX4_withObject_144 : decode cX4_withObject 144 = .ok (.aload_n 0, 1) := by decide +kernel
theorem dX4_withObject_145 : decode cX4_withObject 145 = .ok (.aload_n 3, 1) := by decide +kernel
theorem dX4_withObject_146 : decode cX4_withObject 146 = .ok (.invokevirtual 226, 3) := by decide +kernel
theorem dX4_withObject_149 : decode cX4_withObject 149 = .ok (.i2l, 1) := by decide +kernel
theorem dX4_withObject_150 : decode cX4_withObject 150 = .ok (.invokestatic 231, 3) := by decide +kernel
theorem dX4_withObject_153 : decode cX4_withObject 153 = .ok (.lstore 4, 2) := by decide +kernel
theorem dX4_withObject_155 : decode cX4_withObject 155 = .ok (.lload 4, 2) := by decide +kernel
theorem dX4_withObject_157 : decode cX4_withObject 157 = .ok (.aload_n 0, 1) := by decide +kernel
theorem dX4_withObject_158 : decode cX4_withObject 158 = .ok (.aload_n 3, 1) := by decide +kernel
theorem dX4_withObject_159 : decode cX4_withObject 159 = .ok (.invokevirtual 223, 3) := by decide +kernel
theorem dX4_withObject_162 : decode cX4_withObject 162 = .ok (.i2l, 1) := by decide +kernel
theorem dX4_withObject_163 : decode cX4_withObject 163 = .ok (.invokestatic 231, 3) := by decide +kernel
theorem dX4_withObject_166 : decode cX4_withObject 166 = .ok (.lreturn, 1) := by decide +kernel
theorem dX4_withPlace_0 : decode cX4_withPlace 0 = .ok (.lload_n 1, 1) := by decide +kernel
theorem dX4_withPlace_1 : decode cX4_withPlace 1 = .ok (.lstore 4, 2) := by decide +kernel
theorem dX4_withPlace_3 : decode cX4_withPlace 3 = .ok (.iconst 0, 1) := by decide +kernel
theorem dX4_withPlace_4 : decode cX4_withPlace 4 = .ok (.istore 6, 2) := by decide +kernel
theorem dX4_withPlace_6 : decode cX4_withPlace 6 = .ok (.iload 6, 2) := by decide +kernel
theorem dX4_withPlace_8 : decode cX4_withPlace 8 = .ok (.iconst 5, 1) := by decide +kernel
theorem dX4_withPlace_9 : decode cX4_withPlace 9 = .ok (.if_icmp .gt 23, 3) := by decide +kernel
theorem dX4_withPlace_12 : decode cX4_withPlace 12 = .ok (.lload 4, 2) := by decide +kernel
theorem dX4_withPlace_14 : decode cX4_withPlace 14 = .ok (.aload_n 3, 1) := by decide +kernel
theorem dX4_withPlace_15 : decode cX4_withPlace 15 = .ok (.iload 6, 2) := by decide +kernel
theorem dX4_withPlace_17 : decode cX4_withPlace 17 = .ok (.invokevirtual 182, 3) := by decide +kernel
theorem dX4_withPlace_20 : decode cX4_withPlace 20 = .ok (.i2l, 1) := by decide +kernel
theorem dX4_withPlace_21 : decode cX4_withPlace 21 = .ok (.invokestatic 231, 3) := by decide +kernel
theorem dX4_withPlace_24 : decode cX4_withPlace 24 = .ok (.lstore 4, 2) := by decide +kernel
theorem dX4_withPlace_26 : decode cX4_withPlace 26 = .ok (.iinc 6 1, 3) := by decide +kernel
theorem dX4_withPlace_29 : decode cX4_withPlace 29 = .ok (.goto (-23), 3) := by decide +kernel
theorem dX4_withPlace_32 : decode cX4_withPlace 32 = .ok (.iconst 0, 1) := by decide +kernel
theorem dX4_withPlace_33 : decode cX4_withPlace 33 = .ok (.istore 6, 2) := by decide +kernel
theorem dX4_withPlace_35 : decode cX4_withPlace 35 = .ok (.iload 6, 2) := by decide +kernel
theorem dX4_withPlace_37 : decode cX4_withPlace 37 = .ok (.aload_n 3, 1) := by decide +kernel
theorem dX4_withPlace_38 : decode cX4_withPlace 38 = .ok (.getfield 186, 3) := by decide +kernel
theorem dX4_withPlace_41 : decode cX4_withPlace 41 = .ok (.if_icmp .ge 40, 3) := by decide +kernel
theorem dX4_withPlace_44 : decode cX4_withPlace 44 = .ok (.iconst 0, 1) := by decide +kernel
theorem dX4_withPlace_45 : decode cX4_withPlace 45 = .ok (.istore 7, 2) := by decide +kernel
theorem dX4_withPlace_47 : decode cX4_withPlace 47 = .ok (.iload 7, 2) := by decide +kernel
theorem dX4_withPlace_49 : decode cX4_withPlace 49 = .ok (.iconst 2, 1) := by decide +kernel
theorem dX4_withPlace_50 : decode cX4_withPlace 50 = .ok (.if_icmp .gt 25, 3) := by decide +kernel
theorem dX4_withPlace_53 : decode cX4_withPlace 53 = .ok (.lload 4, 2) := by decide +kernel
theorem dX4_withPlace_55 : decode cX4_withPlace 55 = .ok (.aload_n 3, 1) := by decide +kernel
theorem dX4_withPlace_56 : decode cX4_withPlace 56 = .ok (.iload 6, 2) := by decide +kernel
theorem dX4_withPlace_58 : decode cX4_withPlace 58 = .ok (.iload 7, 2) := by decide +kernel
theorem dX4_withPlace_60 : decode cX4_withPlace 60 = .ok (.invokevirtual 192, 3) := by decide +kernel
theorem dX4_withPlace_63 : decode cX4_withPlace 63 = .ok (.i2l, 1) := by decide +kernel
theorem dX4_withPlace_64 : decode cX4_withPlace 64 = .ok (.invokestatic 231, 3) := by decide +kernel
theorem dX4_withPlace_67 : decode cX4_withPlace 67 = .ok (.lstore 4, 2) := by decide +kernel
theorem dX4_withPlace_69 : decode cX4_withPlace 69 = .ok (.iinc 7 1, 3) := by decide +kernel
theorem dX4_withPlace_72 : decode cX4_withPlace 72 = .ok (.goto (-25), 3) := by decide +kernel
theorem dX4_withPlace_75 : decode cX4_withPlace 75 = .ok (.iinc 6 1, 3) := by decide +kernel
theorem dX4_withPlace_78 : decode cX4_withPlace 78 = .ok (.goto (-43), 3) := by decide +kernel
theorem dX4_withPlace_81 : decode cX4_withPlace 81 = .ok (.iconst 0, 1) := by decide +kernel
theorem dX4_withPlace_82 : decode cX4_withPlace 82 = .ok (.istore 6, 2) := by decide +kernel
theorem dX4_withPlace_84 : decode cX4_withPlace 84 = .ok (.iload 6, 2) := by decide +kernel
theorem dX4_withPlace_86 : decode cX4_withPlace 86 = .ok (.aload_n 0, 1) := by decide +kernel
theorem dX4_withPlace_87 : decode cX4_withPlace 87 = .ok (.getfield 40, 3) := by decide +kernel
theorem dX4_withPlace_90 : decode cX4_withPlace 90 = .ok (.if_icmp .ge 29, 3) := by decide +kernel
theorem dX4_withPlace_93 : decode cX4_withPlace 93 = .ok (.lload 4, 2) := by decide +kernel
theorem dX4_withPlace_95 : decode cX4_withPlace 95 = .ok (.aload_n 3, 1) := by decide +kernel
theorem dX4_withPlace_96 : decode cX4_withPlace 96 = .ok (.aload_n 0, 1) := by decide +kernel
theorem dX4_withPlace_97 : decode cX4_withPlace 97 = .ok (.getfield 11, 3) := by decide +kernel
theorem dX4_withPlace_100 : decode cX4_withPlace 100 = .ok (.iload 6, 2) := by decide +kernel
theorem dX4_withPlace_102 : decode cX4_withPlace 102 = .ok (.aaload, 1) := by decide +kernel
theorem dX4_withPlace_103 : decode cX4_withPlace 103 = .ok (.iconst 4, 1) := by decide +kernel
theorem dX4_withPlace_104 : decode cX4_withPlace 104 = .ok (.invokestatic 163, 3) := by decide +kernel
theorem dX4_withPlace_107 : decode cX4_withPlace 107 = .ok (.i2l, 1) := by decide +kernel
theorem dX4_withPlace_108 : decode cX4_withPlace 108 = .ok (.invokestatic 231, 3) := by decide +kernel
theorem dX4_withPlace_111 : decode cX4_withPlace 111 = .ok (.lstore 4, 2) := by decide +kernel
theorem dX4_withPlace_113 : decode cX4_withPlace 113 = .ok (.iinc 6 1, 3) := by decide +kernel
theorem dX4_withPlace_116 : decode cX4_withPlace 116 = .ok (.goto (-32), 3) := by decide +kernel
theorem dX4_withPlace_119 : decode cX4_withPlace 119 = .ok (.lload 4, 2) := by decide +kernel
theorem dX4_withPlace_121 : decode cX4_withPlace 121 = .ok (.lreturn, 1) := by decide +kernel
theorem dX5_init_0 : decode cX5_init 0 = .ok (.aload_n 0, 1) := by decide +kernel
theorem dX5_init_1 : decode cX5_init 1 = .ok (.invokespecial 1, 3) := by decide +kernel
theorem dX5_init_4 : decode cX5_init 4 = .ok (.aload_n 0, 1) := by decide +kernel
theorem dX5_init_5 : decode cX5_init 5 = .ok (.bipush 24, 2) := by decide +kernel
theorem dX5_init_7 : decode cX5_init 7 = .ok (.newarray .int, 2) := by decide +kernel
theorem dX5_init_9 : decode cX5_init 9 = .ok (.putfield 7, 3) := by decide +kernel
theorem dX5_init_12 : decode cX5_init 12 = .ok (.aload_n 0, 1) := by decide +kernel
theorem dX5_init_13 : decode cX5_init 13 = .ok (.bipush 24, 2) := by decide +kernel
theorem dX5_init_15 : decode cX5_init 15 = .ok (.bipush 12, 2) := by decide +kernel
theorem dX5_init_17 : decode cX5_init 17 = .ok (.multianewarray 13 2, 4) := by decide +kernel
theorem dX5_init_21 : decode cX5_init 21 = .ok (.putfield 15, 3) := by decide +kernel
theorem dX5_init_24 : decode cX5_init 24 = .ok (.aload_n 0, 1) := by decide +kernel
theorem dX5_init_25 : decode cX5_init 25 = .ok (.bipush 24, 2) := by decide +kernel
theorem dX5_init_27 : decode cX5_init 27 = .ok (.newarray .int, 2) := by decide +kernel
theorem dX5_init_29 : decode cX5_init 29 = .ok (.putfield 18, 3) := by decide +kernel
theorem dX5_init_32 : decode cX5_init 32 = .ok (.aload_n 0, 1) := by decide +kernel
theorem dX5_init_33 : decode cX5_init 33 = .ok (.bipush 24, 2) := by decide +kernel
theorem dX5_init_35 : decode cX5_init 35 = .ok (.newarray .boolean, 2) := by decide +kernel
theorem dX5_init_37 : decode cX5_init 37 = .ok (.putfield 21, 3) := by decide +kernel
theorem dX5_init_40 : decode cX5_init 40 = .ok (.return_, 1) := by decide +kernel
theorem dX5_isMade_0 : decode cX5_isMade 0 = .ok (.aload_n 0, 1) := by decide +kernel
theorem dX5_isMade_1 : decode cX5_isMade 1 = .ok (.getfield 25, 3) := by decide +kernel
theorem dX5_isMade_4 : decode cX5_isMade 4 = .ok (.bipush 24, 2) := by decide +kernel
theorem dX5_isMade_6 : decode cX5_isMade 6 = .ok (.if_icmp .ne 5, 3) := by decide +kernel
theorem dX5_isMade_9 : decode cX5_isMade 9 = .ok (.iconst 1, 1) := by decide +kernel
theorem dX5_isMade_10 : decode cX5_isMade 10 = .ok (.ireturn, 1) := by decide +kernel
theorem dX5_isMade_11 : decode cX5_isMade 11 = .ok (.aload_n 0, 1) := by decide +kernel
theorem dX5_isMade_12 : decode cX5_isMade 12 = .ok (.getfield 7, 3) := by decide +kernel
theorem dX5_isMade_15 : decode cX5_isMade 15 = .ok (.aload_n 0, 1) := by decide +kernel
theorem dX5_isMade_16 : decode cX5_isMade 16 = .ok (.getfield 25, 3) := by decide +kernel
theorem dX5_isMade_19 : decode cX5_isMade 19 = .ok (.iload_n 2, 1) := by decide +kernel
theorem dX5_isMade_20 : decode cX5_isMade 20 = .ok (.iastore, 1) := by decide +kernel
theorem dX5_isMade_21 : decode cX5_isMade 21 = .ok (.aload_n 0, 1) := by decide +kernel
theorem dX5_isMade_22 : decode cX5_isMade 22 = .ok (.dup, 1) := by decide +kernel
theorem dX5_isMade_23 : decode cX5_isMade 23 = .ok (.getfield 25, 3) := by decide +kernel
theorem dX5_isMade_26 : decode cX5_isMade 26 = .ok (.iconst 1, 1) := by decide +kernel
theorem dX5_isMade_27 : decode cX5_isMade 27 = .ok (.iadd, 1) := by decide +kernel
theorem dX5_isMade_28 : decode cX5_isMade 28 = .ok (.putfield 25, 3) := by decide +kernel
theorem dX5_isMade_31 : decode cX5_isMade 31 = .ok (.aload_n 1, 1) := by decide +kernel
theorem dX5_isMade_32 : decode cX5_isMade 32 = .ok (.iload_n 2, 1) := by decide +kernel
theorem dX5_isMade_33 : decode cX5_isMade 33 = .ok (.invokevirtual 29, 3) := by decide +kernel
theorem dX5_isMade_36 : decode cX5_isMade 36 = .ok (.aload_n 0, 1) := by decide +kernel
theorem dX5_isMade_37 : decode cX5_isMade 37 = .ok (.getfield 25, 3) := by decide +kernel
theorem dX5_isMade_40 : decode cX5_isMade 40 = .ok (.iconst 1, 1) := by decide +kernel
theorem dX5_isMade_41 : decode cX5_isMade 41 = .ok (.isub, 1) := by decide +kernel
theorem dX5_isMade_42 : decode cX5_isMade 42 = .ok (.if_icmp .ne 7, 3) := by decide +kernel
theorem dX5_isMade_45 : decode cX5_isMade 45 = .ok (.iconst 1, 1) := by decide +kernel
theorem dX5_isMade_46 : decode cX5_isMade 46 = .ok (.goto 4, 3) := by decide +kernel
theorem dX5_isMade_49 : decode cX5_isMade 49 = .ok (.iconst 0, 1) := by decide +kernel
theorem dX5_isMade_50 : decode cX5_isMade 50 = .ok (.ireturn, 1) := by decide +kernel
theorem dX5_place_0 : decode cX5_place 0 = .ok (.iconst 0, 1) := by decide +kernel
theorem dX5_place_1 : decode cX5_place 1 = .ok (.istore_n 3, 1) := by decide +kernel
theorem dX5_place_2 : decode cX5_place 2 = .ok (.iload_n 3, 1) := by decide +kernel
theorem dX5_place_3 : decode cX5_place 3 = .ok (.aload_n 0, 1) := by decide +kernel
theorem dX5_place_4 : decode cX5_place 4 = .ok (.getfield 18, 3) := by decide +kernel
theorem dX5_place_7 : decode cX5_place 7 = .ok (.iload_n 1, 1) := by decide +kernel
theorem dX5_place_8 : decode cX5_place 8 = .ok (.iaload, 1) := by decide +kernel
theorem dX5_place_9 : decode cX5_place 9 = .ok (.if_icmp .ge 25, 3) := by decide +kernel
theorem dX5_place_12 : decode cX5_place 12 = .ok (.aload_n 0, 1) := by decide +kernel
theorem dX5_place_13 : decode cX5_place 13 = .ok (.getfield 15, 3) := by decide +kernel
theorem dX5_place_16 : decode cX5_place 16 = .ok (.iload_n 1, 1) := by decide +kernel
theorem dX5_place_17 : decode cX5_place 17 = .ok (.aaload, 1) := by decide +kernel
theorem dX5_place_18 : decode cX5_place 18 = .ok (.iload_n 3, 1) := by decide +kernel
theorem dX5_place_19 : decode cX5_place 19 = .ok (.aaload, 1) := by decide +kernel
theorem dX5_place_20 : decode cX5_place 20 = .ok (.iconst 0, 1) := by decide +kernel
theorem dX5_place_21 : decode cX5_place 21 = .ok (.iaload, 1) := by decide +kernel
theorem dX5_place_22 : decode cX5_place 22 = .ok (.iload_n 2, 1) := by decide +kernel
theorem dX5_place_23 : decode cX5_place 23 = .ok (.if_icmp .ne 5, 3) := by decide +kernel
theorem dX5_place_26 : decode cX5_place 26 = .ok (.iload_n 3, 1) := by decide +kernel
theorem dX5_place_27 : decode cX5_place 27 = .ok (.ireturn, 1) := by decide +kernel
theorem dX5_place_28 : decode cX5_place 28 = .ok (.iinc 3 1, 3) := by decide +kernel
theorem dX5_place_31 : decode cX5_place 31 = .ok (.goto (-29), 3) := by decide +kernel
theorem dX5_place_34 : decode cX5_place 34 = .ok (.iconst (-1), 1) := by decide +kernel
theorem dX5_place_35 : decode cX5_place 35 = .ok (.ireturn, 1) := by decide +kernel
theorem dX5_found_0 : decode cX5_found 0 = .ok (.iload_n 1, 1) := by decide +kernel
theorem dX5_found_1 : decode cX5_found 1 = .ok (.istore_n 3, 1) := by decide +kernel
theorem dX5_found_2 : decode cX5_found 2 = .ok (.iload_n 3, 1) := by decide +kernel
theorem dX5_found_3 : decode cX5_found 3 = .ok (.ifCond .lt 36, 3) := by decide +kernel
theorem dX5_found_6 : decode cX5_found 6 = .ok (.aload_n 0, 1) := by decide +kernel
theorem dX5_found_7 : decode cX5_found 7 = .ok (.iload_n 3, 1) := by decide +kernel
theorem dX5_found_8 : decode cX5_found 8 = .ok (.iload_n 2, 1) := by decide +kernel
theorem dX5_found_9 : decode cX5_found 9 = .ok (.invokevirtual 35, 3) := by decide +kernel
theorem dX5_found_12 : decode cX5_found 12 = .ok (.ifCond .lt 17, 3) := by decide +kernel
theorem dX5_found_15 : decode cX5_found 15 = .ok (.aload_n 0, 1) := by decide +kernel
theorem dX5_found_16 : decode cX5_found 16 = .ok (.getfield 15, 3) := by decide +kernel
theorem dX5_found_19 : decode cX5_found 19 = .ok (.iload_n 3, 1) := by decide +kernel
theorem dX5_found_20 : decode cX5_found 20 = .ok (.aaload, 1) := by decide +kernel
theorem dX5_found_21 : decode cX5_found 21 = .ok (.aload_n 0, 1) := by decide +kernel
theorem dX5_found_22 : decode cX5_found 22 = .ok (.iload_n 3, 1) := by decide +kernel
theorem dX5_found_23 : decode cX5_found 23 = .ok (.iload_n 2, 1) := by decide +kernel
theorem dX5_found_24 : decode cX5_found 24 = .ok (.invokevirtual 35, 3) := by decide +kernel
theorem dX5_found_27 : decode cX5_found 27 = .ok (.aaload, 1) := by decide +kernel
theorem dX5_found_28 : decode cX5_found 28 = .ok (.areturn, 1) := by decide +kernel
theorem dX5_found_29 : decode cX5_found 29 = .ok (.aload_n 0, 1) := by decide +kernel
theorem dX5_found_30 : decode cX5_found 30 = .ok (.getfield 7, 3) := by decide +kernel
theorem dX5_found_33 : decode cX5_found 33 = .ok (.iload_n 3, 1) := by decide +kernel
theorem dX5_found_34 : decode cX5_found 34 = .ok (.iaload, 1) := by decide +kernel
theorem dX5_found_35 : decode cX5_found 35 = .ok (.istore_n 3, 1) := by decide +kernel
theorem dX5_found_36 : decode cX5_found 36 = .ok (.goto (-34), 3) := by decide +kernel
theorem dX5_found_39 : decode cX5_found 39 = .ok (.aconst_null, 1) := by decide +kernel
theorem dX5_found_40 : decode cX5_found 40 = .ok (.areturn, 1) := by decide +kernel
theorem dX5_far_0 : decode cX5_far 0 = .ok (.iconst 0, 1) := by decide +kernel
theorem dX5_far_1 : decode cX5_far 1 = .ok (.istore_n 3, 1) := by decide +kernel
theorem dX5_far_2 : decode cX5_far 2 = .ok (.iload_n 1, 1) := by decide +kernel
theorem dX5_far_3 : decode cX5_far 3 = .ok (.istore 4, 2) := by decide +kernel
theorem dX5_far_5 : decode cX5_far 5 = .ok (.iload 4, 2) := by decide +kernel
theorem dX5_far_7 : decode cX5_far 7 = .ok (.ifCond .lt 30, 3) := by decide +kernel
theorem dX5_far_10 : decode cX5_far 10 = .ok (.aload_n 0, 1) := by decide +kernel
theorem dX5_far_11 : decode cX5_far 11 = .ok (.iload 4, 2) := by decide +kernel
theorem dX5_far_13 : decode cX5_far 13 = .ok (.iload_n 2, 1) := by decide +kernel
theorem dX5_far_14 : decode cX5_far 14 = .ok (.invokevirtual 35, 3) := by decide +kernel
theorem dX5_far_17 : decode cX5_far 17 = .ok (.ifCond .lt 5, 3) := by decide +kernel
theorem dX5_far_20 : decode cX5_far 20 = .ok (.iload_n 3, 1) := by decide +kernel
theorem dX5_far_21 : decode cX5_far 21 = .ok (.ireturn, 1) := by decide +kernel
theorem dX5_far_22 : decode cX5_far 22 = .ok (.iinc 3 1, 3) := by decide +kernel
theorem dX5_far_25 : decode cX5_far 25 = .ok (.aload_n 0, 1) := by decide +kernel
theorem dX5_far_26 : decode cX5_far 26 = .ok (.getfield 7, 3) := by decide +kernel
theorem dX5_far_29 : decode cX5_far 29 = .ok (.iload 4, 2) := by decide +kernel
theorem dX5_far_31 : decode cX5_far 31 = .ok (.iaload, 1) := by decide +kernel
theorem dX5_far_32 : decode cX5_far 32 = .ok (.istore 4, 2) := by decide +kernel
theorem dX5_far_34 : decode cX5_far 34 = .ok (.goto (-29), 3) := by decide +kernel
theorem dX5_far_37 : decode cX5_far 37 = .ok (.iconst (-1), 1) := by decide +kernel
theorem dX5_far_38 : decode cX5_far 38 = .ok (.ireturn, 1) := by decide +kernel
theorem dX5_isInLine_0 : decode cX5_isInLine 0 = .ok (.iload_n 1, 1) := by decide +kernel
theorem dX5_isInLine_1 : decode cX5_isInLine 1 = .ok (.istore_n 3, 1) := by decide +kernel
theorem dX5_isInLine_2 : decode cX5_isInLine 2 = .ok (.iload_n 3, 1) := by decide +kernel
theorem dX5_isInLine_3 : decode cX5_isInLine 3 = .ok (.ifCond .lt 20, 3) := by decide +kernel
theorem dX5_isInLine_6 : decode cX5_isInLine 6 = .ok (.iload_n 3, 1) := by decide +kernel
theorem dX5_isInLine_7 : decode cX5_isInLine 7 = .ok (.iload_n 2, 1) := by decide +kernel
theorem dX5_isInLine_8 : decode cX5_isInLine 8 = .ok (.if_icmp .ne 5, 3) := by decide +kernel
theorem dX5_isInLine_11 : decode cX5_isInLine 11 = .ok (.iconst 1, 1) := by decide +kernel
theorem dX5_isInLine_12 : decode cX5_isInLine 12 = .ok (.ireturn, 1) := by decide +kernel
theorem dX5_isInLine_13 : decode cX5_isInLine 13 = .ok (.aload_n 0, 1) := by decide +kernel
theorem dX5_isInLine_14 : decode cX5_isInLine 14 = .ok (.getfield 7, 3) := by decide +kernel
theorem dX5_isInLine_17 : decode cX5_isInLine 17 = .ok (.iload_n 3, 1) := by decide +kernel
theorem dX5_isInLine_18 : decode cX5_isInLine 18 = .ok (.iaload, 1) := by decide +kernel
theorem dX5_isInLine_19 : decode cX5_isInLine 19 = .ok (.istore_n 3, 1) := by decide +kernel
theorem dX5_isInLine_20 : decode cX5_isInLine 20 = .ok (.goto (-18), 3) := by decide +kernel
theorem dX5_isInLine_23 : decode cX5_isInLine 23 = .ok (.iconst 0, 1) := by decide +kernel
theorem dX5_isInLine_24 : decode cX5_isInLine 24 = .ok (.ireturn, 1) := by decide +kernel
theorem dX5_held_0 : decode cX5_held 0 = .ok (.iload_n 0, 1) := by decide +kernel
theorem dX5_held_1 : decode cX5_held 1 = .ok (.sipush (-999), 3) := by decide +kernel
theorem dX5_held_4 : decode cX5_held 4 = .ok (.if_icmp .ge 9, 3) := by decide +kernel
theorem dX5_held_7 : decode cX5_held 7 = .ok (.sipush (-999), 3) := by decide +kernel
theorem dX5_held_10 : decode cX5_held 10 = .ok (.goto 10, 3) := by decide +kernel
theorem dX5_held_13 : decode cX5_held 13 = .ok (.iload_n 0, 1) := by decide +kernel
theorem dX5_held_14 : decode cX5_held 14 = .ok (.sipush 999, 3) := by decide +kernel
theorem dX5_held_17 : decode cX5_held 17 = .ok (.invokestatic 39, 3) := by decide +kernel
theorem dX5_held_20 : decode cX5_held 20 = .ok (.ireturn, 1) := by decide +kernel
theorem dX5_read_0 : decode cX5_read 0 = .ok (.aload_n 0, 1) := by decide +kernel
theorem dX5_read_1 : decode cX5_read 1 = .ok (.iload_n 1, 1) := by decide +kernel
theorem dX5_read_2 : decode cX5_read 2 = .ok (.iload_n 2, 1) := by decide +kernel
theorem dX5_read_3 : decode cX5_read 3 = .ok (.invokevirtual 44, 3) := by decide +kernel
theorem dX5_read_6 : decode cX5_read 6 = .ok (.astore 4, 2) := by decide +kernel
theorem dX5_read_8 : decode cX5_read 8 = .ok (.aload 4, 2) := by decide +kernel
theorem dX5_read_10 : decode cX5_read 10 = .ok (.ifnonnull 7, 3) := by decide +kernel
theorem dX5_read_13 : decode cX5_read 13 = .ok (.sipush (-1000), 3) := by decide +kernel
theorem dX5_read_16 : decode cX5_read 16 = .ok (.ireturn, 1) := by decide +kernel
theorem dX5_read_17 : decode cX5_read 17 = .ok (.aload 4, 2) := by decide +kernel
theorem dX5_read_19 : decode cX5_read 19 = .ok (.iconst 1, 1) := by decide +kernel
theorem dX5_read_20 : decode cX5_read 20 = .ok (.iaload, 1) := by decide +kernel
theorem dX5_read_21 : decode cX5_read 21 = .ok (.iconst 1, 1) := by decide +kernel
theorem dX5_read_22 : decode cX5_read 22 = .ok (.if_icmp .ne 8, 3) := by decide +kernel
theorem dX5_read_25 : decode cX5_read 25 = .ok (.aload 4, 2) := by decide +kernel
theorem dX5_read_27 : decode cX5_read 27 = .ok (.iconst 2, 1) := by decide +kernel
theorem dX5_read_28 : decode cX5_read 28 = .ok (.iaload, 1) := by decide +kernel
theorem dX5_read_29 : decode cX5_read 29 = .ok (.ireturn, 1) := by decide +kernel
theorem dX5_read_30 : decode cX5_read 30 = .ok (.aload 4, 2) := by decide +kernel
theorem dX5_read_32 : decode cX5_read 32 = .ok (.iconst 2, 1) := by decide +kernel
theorem dX5_read_33 : decode cX5_read 33 = .ok (.iaload, 1) := by decide +kernel
theorem dX5_read_34 : decode cX5_read 34 = .ok (.ifCond .lt 7, 3) := by decide +kernel
theorem dX5_read_37 : decode cX5_read 37 = .ok (.iload_n 3, 1) := by decide +kernel
theorem dX5_read_38 : decode cX5_read 38 = .ok (.ifCond .ne 7, 3) := by decide +kernel
theorem dX5_read_41 : decode cX5_read 41 = .ok (.sipush (-1000), 3) := by decide +kernel
theorem dX5_read_44 : decode cX5_read 44 = .ok (.ireturn, 1) := by decide +kernel
theorem dX5_read_45 : decode cX5_read 45 = .ok (.aload_n 0, 1) := by decide +kernel
theorem dX5_read_46 : decode cX5_read 46 = .ok (.iload_n 1, 1) := by decide +kernel
theorem dX5_read_47 : decode cX5_read 47 = .ok (.aload 4, 2) := by decide +kernel
theorem dX5_read_49 : decode cX5_read 49 = .ok (.iconst 2, 1) := by decide +kernel
theorem dX5_read_50 : decode cX5_read 50 = .ok (.iaload, 1) := by decide +kernel
theorem dX5_read_51 : decode cX5_read 51 = .ok (.iload_n 3, 1) := by decide +kernel
theorem dX5_read_52 : decode cX5_read 52 = .ok (.iconst 1, 1) := by decide +kernel
theorem dX5_read_53 : decode cX5_read 53 = .ok (.isub, 1) := by decide +kernel
theorem dX5_read_54 : decode cX5_read 54 = .ok (.invokevirtual 48, 3) := by decide +kernel
theorem dX5_read_57 : decode cX5_read 57 = .ok (.istore 5, 2) := by decide +kernel
theorem dX5_read_59 : decode cX5_read 59 = .ok (.iload 5, 2) := by decide +kernel
theorem dX5_read_61 : decode cX5_read 61 = .ok (.sipush (-1000), 3) := by decide +kernel
theorem dX5_read_64 : decode cX5_read 64 = .ok (.if_icmp .le 25, 3) := by decide +kernel
theorem dX5_read_67 : decode cX5_read 67 = .ok (.iload 5, 2) := by decide +kernel
theorem dX5_read_69 : decode cX5_read 69 = .ok (.sipush 1000, 3) := by decide +kernel
theorem dX5_read_72 : decode cX5_read 72 = .ok (.if_icmp .ge 17, 3) := by decide +kernel
theorem dX5_read_75 : decode cX5_read 75 = .ok (.iload 5, 2) := by decide +kernel
theorem dX5_read_77 : decode cX5_read 77 = .ok (.aload 4, 2) := by decide +kernel
theorem dX5_read_79 : decode cX5_read 79 = .ok (.bipush 6, 2) := by decide +kernel
theorem dX5_read_81 : decode cX5_read 81 = .ok (.iaload, 1) := by decide +kernel
theorem dX5_read_82 : decode cX5_read 82 = .ok (.iadd, 1) := by decide +kernel
theorem dX5_read_83 : decode cX5_read 83 = .ok (.invokestatic 52, 3) := by decide +kernel
theorem dX5_read_86 : decode cX5_read 86 = .ok (.goto 5, 3) := by decide +kernel
theorem dX5_read_89 : decode cX5_read 89 = .ok (.iload 5, 2) := by decide +kernel
theorem dX5_read_91 : decode cX5_read 91 = .ok (.ireturn, 1) := by decide +kernel
theorem dX5_writes_0 : decode cX5_writes 0 = .ok (.aload_n 0, 1) := by decide +kernel
theorem dX5_writes_1 : decode cX5_writes 1 = .ok (.iload_n 1, 1) := by decide +kernel
theorem dX5_writes_2 : decode cX5_writes 2 = .ok (.iload_n 2, 1) := by decide +kernel
theorem dX5_writes_3 : decode cX5_writes 3 = .ok (.invokevirtual 44, 3) := by decide +kernel
theorem dX5_writes_6 : decode cX5_writes 6 = .ok (.astore 5, 2) := by decide +kernel
theorem dX5_writes_8 : decode cX5_writes 8 = .ok (.aload 5, 2) := by decide +kernel
theorem dX5_writes_10 : decode cX5_writes 10 = .ok (.ifnull 73, 3) := by decide +kernel
theorem dX5_writes_13 : decode cX5_writes 13 = .ok (.aload 5, 2) := by decide +kernel
theorem dX5_writes_15 : decode cX5_writes 15 = .ok (.iconst 1, 1) := by decide +kernel
theorem dX5_writes_16 : decode cX5_writes 16 = .ok (.iaload, 1) := by decide +kernel
theorem dX5_writes_17 : decode cX5_writes 17 = .ok (.iconst 2, 1) := by decide +kernel
theorem dX5_writes_18 : decode cX5_writes 18 = .ok (.if_icmp .ne 65, 3) := by decide +kernel
theorem dX5_writes_21 : decode cX5_writes 21 = .ok (.aload 5, 2) := by decide +kernel
theorem dX5_writes_23 : decode cX5_writes 23 = .ok (.iconst 5, 1) := by decide +kernel
theorem dX5_writes_24 : decode cX5_writes 24 = .ok (.iaload, 1) := by decide +kernel
theorem dX5_writes_25 : decode cX5_writes 25 = .ok (.ifCond .lt 56, 3) := by decide +kernel
theorem dX5_writes_28 : decode cX5_writes 28 = .ok (.iload 4, 2) := by decide +kernel
theorem dX5_writes_30 : decode cX5_writes 30 = .ok (.ifCond .le 51, 3) := by decide +kernel
theorem dX5_writes_33 : decode cX5_writes 33 = .ok (.aload_n 0, 1) := by decide +kernel
theorem dX5_writes_34 : decode cX5_writes 34 = .ok (.iload_n 1, 1) := by decide +kernel
theorem dX5_writes_35 : decode cX5_writes 35 = .ok (.aload 5, 2) := by decide +kernel
theorem dX5_writes_37 : decode cX5_writes 37 = .ok (.iconst 5, 1) := by decide +kernel
theorem dX5_writes_38 : decode cX5_writes 38 = .ok (.iaload, 1) := by decide +kernel
theorem dX5_writes_39 : decode cX5_writes 39 = .ok (.iload_n 3, 1) := by decide +kernel
theorem dX5_writes_40 : decode cX5_writes 40 = .ok (.sipush (-1000), 3) := by decide +kernel
theorem dX5_writes_43 : decode cX5_writes 43 = .ok (.if_icmp .le 23, 3) := by decide +kernel
theorem dX5_writes_46 : decode cX5_writes 46 = .ok (.iload_n 3, 1) := by decide +kernel
theorem dX5_writes_47 : decode cX5_writes 47 = .ok (.sipush 1000, 3) := by decide +kernel
theorem dX5_writes_50 : decode cX5_writes 50 = .ok (.if_icmp .ge 16, 3) := by decide +kernel
theorem dX5_writes_53 : decode cX5_writes 53 = .ok (.iload_n 3, 1) := by decide +kernel
theorem dX5_writes_54 : decode cX5_writes 54 = .ok (.aload 5, 2) := by decide +kernel
theorem dX5_writes_56 : decode cX5_writes 56 = .ok (.bipush 6, 2) := by decide +kernel
theorem dX5_writes_58 : decode cX5_writes 58 = .ok (.iaload, 1) := by decide +kernel
theorem dX5_writes_59 : decode cX5_writes 59 = .ok (.iadd, 1) := by decide +kernel
theorem dX5_writes_60 : decode cX5_writes 60 = .ok (.invokestatic 52, 3) := by decide +kernel
theorem dX5_writes_63 : decode cX5_writes 63 = .ok (.goto 4, 3) := by decide +kernel
theorem dX5_writes_66 : decode cX5_writes 66 = .ok (.iload_n 3, 1) := by decide +kernel
theorem dX5_writes_67 : decode cX5_writes 67 = .ok (.iload 4, 2) := by decide +kernel
theorem dX5_writes_69 : decode cX5_writes 69 = .ok (.iconst 1, 1) := by decide +kernel
theorem dX5_writes_70 : decode cX5_writes 70 = .ok (.isub, 1) := by decide +kernel
theorem dX5_writes_71 : decode cX5_writes 71 = .ok (.invokevirtual 55, 3) := by decide +kernel
theorem dX5_writes_74 : decode cX5_writes 74 = .ok (.ifCond .eq 7, 3) := by decide +kernel
theorem dX5_writes_77 : decode cX5_writes 77 = .ok (.iconst 1, 1) := by decide +kernel
theorem dX5_writes_78 : decode cX5_writes 78 = .ok (.goto 4, 3) := by decide +kernel
theorem dX5_writes_81 : decode cX5_writes 81 = .ok (.iconst 0, 1) := by decide +kernel
theorem dX5_writes_82 : decode cX5_writes 82 = .ok (.ireturn, 1) := by decide +kernel
theorem dX5_writes_83 : decode cX5_writes 83 = .ok (.aload 5, 2) := by decide +kernel
theorem dX5_writes_85 : decode cX5_writes 85 = .ok (.ifnull 13, 3) := by decide +kernel
theorem dX5_writes_88 : decode cX5_writes 88 = .ok (.aload 5, 2) := by decide +kernel
theorem dX5_writes_90 : decode cX5_writes 90 = .ok (.iconst 3, 1) := by decide +kernel
theorem dX5_writes_91 : decode cX5_writes 91 = .ok (.iaload, 1) := by decide +kernel
theorem dX5_writes_92 : decode cX5_writes 92 = .ok (.iconst 1, 1) := by decide +kernel
theorem dX5_writes_93 : decode cX5_writes 93 = .ok (.if_icmp .ne 5, 3) := by decide +kernel
theorem dX5_writes_96 : decode cX5_writes 96 = .ok (.iconst 0, 1) := by decide +kernel
theorem dX5_writes_97 : decode cX5_writes 97 = .ok (.ireturn, 1) := by decide +kernel
theorem dX5_writes_98 : decode cX5_writes 98 = .ok (.aload_n 0, 1) := by decide +kernel
theorem dX5_writes_99 : decode cX5_writes 99 = .ok (.iload_n 1, 1) := by decide +kernel
theorem dX5_writes_100 : decode cX5_writes 100 = .ok (.iload_n 2, 1) := by decide +kernel
theorem dX5_writes_101 : decode cX5_writes 101 = .ok (.invokevirtual 35, 3) := by decide +kernel
theorem dX5_writes_104 : decode cX5_writes 104 = .ok (.ifCond .lt 21, 3) := by decide +kernel
theorem dX5_writes_107 : decode cX5_writes 107 = .ok (.aload_n 0, 1) := by decide +kernel
theorem dX5_writes_108 : decode cX5_writes 108 = .ok (.getfield 15, 3) := by decide +kernel
theorem dX5_writes_111 : decode cX5_writes 111 = .ok (.iload_n 1, 1) := by decide +kernel
theorem dX5_writes_112 : decode cX5_writes 112 = .ok (.aaload, 1) := by decide +kernel
theorem dX5_writes_113 : decode cX5_writes 113 = .ok (.aload_n 0, 1) := by decide +kernel
theorem dX5_writes_114 : decode cX5_writes 114 = .ok (.iload_n 1, 1) := by decide +kernel
theorem dX5_writes_115 : decode cX5_writes 115 = .ok (.iload_n 2, 1) := by decide +kernel
theorem dX5_writes_116 : decode cX5_writes 116 = .ok (.invokevirtual 35, 3) := by decide +kernel
theorem dX5_writes_119 : decode cX5_writes 119 = .ok (.aaload, 1) := by decide +kernel
theorem dX5_writes_120 : decode cX5_writes 120 = .ok (.iconst 2, 1) := by decide +kernel
theorem dX5_writes_121 : decode cX5_writes 121 = .ok (.iload_n 3, 1) := by decide +kernel
theorem dX5_writes_122 : decode cX5_writes 122 = .ok (.iastore, 1) := by decide +kernel
theorem dX5_writes_123 : decode cX5_writes 123 = .ok (.iconst 1, 1) := by decide +kernel
theorem dX5_writes_124 : decode cX5_writes 124 = .ok (.ireturn, 1) := by decide +kernel
theorem dX5_writes_125 : decode cX5_writes 125 = .ok (.aload_n 0, 1) := by decide +kernel
theorem dX5_writes_126 : decode cX5_writes 126 = .ok (.getfield 21, 3) := by decide +kernel
theorem dX5_writes_129 : decode cX5_writes 129 = .ok (.iload_n 1, 1) := by decide +kernel
theorem dX5_writes_130 : decode cX5_writes 130 = .ok (.baload, 1) := by decide +kernel
theorem dX5_writes_131 : decode cX5_writes 131 = .ok (.ifCond .eq 5, 3) := by decide +kernel
theorem dX5_writes_134 : decode cX5_writes 134 = .ok (.iconst 0, 1) := by decide +kernel
theorem dX5_writes_135 : decode cX5_writes 135 = .ok (.ireturn, 1) := by decide +kernel
theorem dX5_writes_136 : decode cX5_writes 136 = .ok (.bipush 7, 2) := by decide +kernel
theorem dX5_writes_138 : decode cX5_writes 138 = .ok (.newarray .int, 2) := by decide +kernel
theorem dX5_writes_140 : decode cX5_writes 140 = .ok (.dup, 1) := by decide +kernel
theorem dX5_writes_141 : decode cX5_writes 141 = .ok (.iconst 0, 1) := by decide +kernel
theorem dX5_writes_142 : decode cX5_writes 142 = .ok (.iload_n 2, 1) := by decide +kernel
theorem dX5_writes_143 : decode cX5_writes 143 = .ok (.iastore, 1) := by decide +kernel
theorem dX5_writes_144 : decode cX5_writes 144 = .ok (.dup, 1) := by decide +kernel
theorem dX5_writes_145 : decode cX5_writes 145 = .ok (.iconst 1, 1) := by decide +kernel
theorem dX5_writes_146 : decode cX5_writes 146 = .ok (.iconst 1, 1) := by decide +kernel
theorem dX5_writes_147 : decode cX5_writes 147 = .ok (.iastore, 1) := by decide +kernel
theorem dX5_writes_148 : decode cX5_writes 148 = .ok (.dup, 1) := by decide +kernel
theorem dX5_writes_149 : decode cX5_writes 149 = .ok (.iconst 2, 1) := by decide +kernel
theorem dX5_writes_150 : decode cX5_writes 150 = .ok (.iload_n 3, 1) := by decide +kernel
theorem dX5_writes_151 : decode cX5_writes 151 = .ok (.iastore, 1) := by decide +kernel
theorem dX5_writes_152 : decode cX5_writes 152 = .ok (.dup, 1) := by decide +kernel
theorem dX5_writes_153 : decode cX5_writes 153 = .ok (.iconst 3, 1) := by decide +kernel
theorem dX5_writes_154 : decode cX5_writes 154 = .ok (.iconst 0, 1) := by decide +kernel
theorem dX5_writes_155 : decode cX5_writes 155 = .ok (.iastore, 1) := by decide +kernel
theorem dX5_writes_156 : decode cX5_writes 156 = .ok (.dup, 1) := by decide +kernel
theorem dX5_writes_157 : decode cX5_writes 157 = .ok (.iconst 4, 1) := by decide +kernel
theorem dX5_writes_158 : decode cX5_writes 158 = .ok (.iconst 0, 1) := by decide +kernel
theorem dX5_writes_159 : decode cX5_writes 159 = .ok (.iastore, 1) := by decide +kernel
theorem dX5_writes_160 : decode cX5_writes 160 = .ok (.dup, 1) := by decide +kernel
theorem dX5_writes_161 : decode cX5_writes 161 = .ok (.iconst 5, 1) := by decide +kernel
theorem dX5_writes_162 : decode cX5_writes 162 = .ok (.iconst (-1), 1) := by decide +kernel
theorem dX5_writes_163 : decode cX5_writes 163 = .ok (.iastore, 1) := by decide +kernel
theorem dX5_writes_164 : decode cX5_writes 164 = .ok (.dup, 1) := by decide +kernel
theorem dX5_writes_165 : decode cX5_writes 165 = .ok (.bipush 6, 2) := by decide +kernel
theorem dX5_writes_167 : decode cX5_writes 167 = .ok (.iconst 0, 1) := by decide +kernel
theorem dX5_writes_168 : decode cX5_writes 168 = .ok (.iastore, 1) := by decide +kernel
theorem dX5_writes_169 : decode cX5_writes 169 = .ok (.astore 6, 2) := by decide +kernel
theorem dX5_writes_171 : decode cX5_writes 171 = .ok (.aload_n 0, 1) := by decide +kernel
theorem dX5_writes_172 : decode cX5_writes 172 = .ok (.iload_n 1, 1) := by decide +kernel
theorem dX5_writes_173 : decode cX5_writes 173 = .ok (.aload 6, 2) := by decide +kernel
theorem dX5_writes_175 : decode cX5_writes 175 = .ok (.invokevirtual 59, 3) := by decide +kernel
theorem dX5_writes_178 : decode cX5_writes 178 = .ok (.iconst 1, 1) := by decide +kernel
theorem dX5_writes_179 : decode cX5_writes 179 = .ok (.ireturn, 1) := by decide +kernel
theorem dX5_put_0 : decode cX5_put 0 = .ok (.aload_n 0, 1) := by decide +kernel
theorem dX5_put_1 : decode cX5_put 1 = .ok (.iload_n 1, 1) := by decide +kernel
theorem dX5_put_2 : decode cX5_put 2 = .ok (.aload_n 2, 1) := by decide +kernel
theorem dX5_put_3 : decode cX5_put 3 = .ok (.iconst 0, 1) := by decide +kernel
theorem dX5_put_4 : decode cX5_put 4 = .ok (.iaload, 1) := by decide +kernel
theorem dX5_put_5 : decode cX5_put 5 = .ok (.invokevirtual 35, 3) := by decide +kernel
theorem dX5_put_8 : decode cX5_put 8 = .ok (.istore_n 3, 1) := by decide +kernel
theorem dX5_put_9 : decode cX5_put 9 = .ok (.iload_n 3, 1) := by decide +kernel
theorem dX5_put_10 : decode cX5_put 10 = .ok (.ifCond .ge 20, 3) := by decide +kernel
theorem dX5_put_13 : decode cX5_put 13 = .ok (.aload_n 0, 1) := by decide +kernel
theorem dX5_put_14 : decode cX5_put 14 = .ok (.getfield 18, 3) := by decide +kernel
theorem dX5_put_17 : decode cX5_put 17 = .ok (.iload_n 1, 1) := by decide +kernel
theorem dX5_put_18 : decode cX5_put 18 = .ok (.iaload, 1) := by decide +kernel
theorem dX5_put_19 : decode cX5_put 19 = .ok (.istore_n 3, 1) := by decide +kernel
theorem dX5_put_20 : decode cX5_put 20 = .ok (.aload_n 0, 1) := by decide +kernel
theorem dX5_put_21 : decode cX5_put 21 = .ok (.getfield 18, 3) := by decide +kernel
theorem dX5_put_24 : decode cX5_put 24 = .ok (.iload_n 1, 1) := by decide +kernel
theorem dX5_put_25 : decode cX5_put 25 = .ok (.dup2, 1) := by decide +kernel
theorem dX5_put_26 : decode cX5_put 26 = .ok (.iaload, 1) := by decide +kernel
theorem dX5_put_27 : decode cX5_put 27 = .ok (.iconst 1, 1) := by decide +kernel
theorem dX5_put_28 : decode cX5_put 28 = .ok (.iadd, 1) := by decide +kernel
theorem dX5_put_29 : decode cX5_put 29 = .ok (.iastore, 1) := by decide +kernel
theorem dX5_put_30 : decode cX5_put 30 = .ok (.aload_n 0, 1) := by decide +kernel
theorem dX5_put_31 : decode cX5_put 31 = .ok (.getfield 15, 3) := by decide +kernel
theorem dX5_put_34 : decode cX5_put 34 = .ok (.iload_n 1, 1) := by decide +kernel
theorem dX5_put_35 : decode cX5_put 35 = .ok (.aaload, 1) := by decide +kernel
theorem dX5_put_36 : decode cX5_put 36 = .ok (.iload_n 3, 1) := by decide +kernel
theorem dX5_put_37 : decode cX5_put 37 = .ok (.aload_n 2, 1) := by decide +kernel
theorem dX5_put_38 : decode cX5_put 38 = .ok (.aastore, 1) := by decide +kernel
theorem dX5_put_39 : decode cX5_put 39 = .ok (.return_, 1) := by decide +kernel
theorem dX5_can_0 : decode cX5_can 0 = .ok (.aload_n 0, 1) := by decide +kernel
theorem dX5_can_1 : decode cX5_can 1 = .ok (.iload_n 1, 1) := by decide +kernel
theorem dX5_can_2 : decode cX5_can 2 = .ok (.iload_n 2, 1) := by decide +kernel
theorem dX5_can_3 : decode cX5_can 3 = .ok (.invokevirtual 35, 3) := by decide +kernel
theorem dX5_can_6 : decode cX5_can 6 = .ok (.istore_n 3, 1) := by decide +kernel
theorem dX5_can_7 : decode cX5_can 7 = .ok (.iload_n 3, 1) := by decide +kernel
theorem dX5_can_8 : decode cX5_can 8 = .ok (.ifCond .ge 20, 3) := by decide +kernel
theorem dX5_can_11 : decode cX5_can 11 = .ok (.aload_n 0, 1) := by decide +kernel
theorem dX5_can_12 : decode cX5_can 12 = .ok (.getfield 21, 3) := by decide +kernel
theorem dX5_can_15 : decode cX5_can 15 = .ok (.iload_n 1, 1) := by decide +kernel
theorem dX5_can_16 : decode cX5_can 16 = .ok (.baload, 1) := by decide +kernel
theorem dX5_can_17 : decode cX5_can 17 = .ok (.ifCond .ne 7, 3) := by decide +kernel
theorem dX5_can_20 : decode cX5_can 20 = .ok (.iconst 1, 1) := by decide +kernel
theorem dX5_can_21 : decode cX5_can 21 = .ok (.goto 25, 3) := by decide +kernel
theorem dX5_can_24 : decode cX5_can 24 = .ok (.iconst 0, 1) := by decide +kernel
theorem dX5_can_25 : decode cX5_can 25 = .ok (.goto 21, 3) := by decide +kernel
theorem dX5_can_28 : decode cX5_can 28 = .ok (.aload_n 0, 1) := by decide +kernel
theorem dX5_can_29 : decode cX5_can 29 = .ok (.getfield 15, 3) := by decide +kernel
theorem dX5_can_32 : decode cX5_can 32 = .ok (.iload_n 1, 1) := by decide +kernel
theorem dX5_can_33 : decode cX5_can 33 = .ok (.aaload, 1) := by decide +kernel
theorem dX5_can_34 : decode cX5_can 34 = .ok (.iload_n 3, 1) := by decide +kernel
theorem dX5_can_35 : decode cX5_can 35 = .ok (.aaload, 1) := by decide +kernel
theorem dX5_can_36 : decode cX5_can 36 = .ok (.iconst 3, 1) := by decide +kernel
theorem dX5_can_37 : decode cX5_can 37 = .ok (.iaload, 1) := by decide +kernel
theorem dX5_can_38 : decode cX5_can 38 = .ok (.ifCond .ne 7, 3) := by decide +kernel
theorem dX5_can_41 : decode cX5_can 41 = .ok (.iconst 1, 1) := by decide +kernel
theorem dX5_can_42 : decode cX5_can 42 = .ok (.goto 4, 3) := by decide +kernel
theorem dX5_can_45 : decode cX5_can 45 = .ok (.iconst 0, 1) := by decide +kernel
theorem dX5_can_46 : decode cX5_can 46 = .ok (.ireturn, 1) := by decide +kernel
theorem dX5_removes_0 : decode cX5_removes 0 = .ok (.aload_n 0, 1) := by decide +kernel
theorem dX5_removes_1 : decode cX5_removes 1 = .ok (.iload_n 1, 1) := by decide +kernel
theorem dX5_removes_2 : decode cX5_removes 2 = .ok (.iload_n 2, 1) := by decide +kernel
theorem dX5_removes_3 : decode cX5_removes 3 = .ok (.invokevirtual 35, 3) := by decide +kernel
theorem dX5_removes_6 : decode cX5_removes 6 = .ok (.istore_n 3, 1) := by decide +kernel
theorem dX5_removes_7 : decode cX5_removes 7 = .ok (.iload_n 3, 1) := by decide +kernel
theorem dX5_removes_8 : decode cX5_removes 8 = .ok (.ifCond .lt 17, 3) := by decide +kernel
theorem dX5_removes_11 : decode cX5_removes 11 = .ok (.aload_n 0, 1) := by decide +kernel
theorem dX5_removes_12 : decode cX5_removes 12 = .ok (.getfield 15, 3) := by decide +kernel
theorem dX5_removes_15 : decode cX5_removes 15 = .ok (.iload_n 1, 1) := by decide +kernel
theorem dX5_removes_16 : decode cX5_removes 16 = .ok (.aaload, 1) := by decide +kernel
theorem dX5_removes_17 : decode cX5_removes 17 = .ok (.iload_n 3, 1) := by decide +kernel
theorem dX5_removes_18 : decode cX5_removes 18 = .ok (.aaload, 1) := by decide +kernel
theorem dX5_removes_19 : decode cX5_removes 19 = .ok (.iconst 3, 1) := by decide +kernel
theorem dX5_removes_20 : decode cX5_removes 20 = .ok (.iaload, 1) := by decide +kernel
theorem dX5_removes_21 : decode cX5_removes 21 = .ok (.iconst 1, 1) := by decide +kernel
theorem dX5_removes_22 : decode cX5_removes 22 = .ok (.if_icmp .ne 5, 3) := by decide +kernel
theorem dX5_removes_25 : decode cX5_removes 25 = .ok (.iconst 0, 1) := by decide +kernel
theorem dX5_removes_26 : decode cX5_removes 26 = .ok (.ireturn, 1) := by decide +kernel
theorem dX5_removes_27 : decode cX5_removes 27 = .ok (.aload_n 0, 1) := by decide +kernel
theorem dX5_removes_28 : decode cX5_removes 28 = .ok (.getfield 18, 3) := by decide +kernel
theorem dX5_removes_31 : decode cX5_removes 31 = .ok (.iload_n 1, 1) := by decide +kernel
theorem dX5_removes_32 : decode cX5_removes 32 = .ok (.dup2, 1) := by decide +kernel
theorem dX5_removes_33 : decode cX5_removes 33 = .ok (.iaload, 1) := by decide +kernel
theorem dX5_removes_34 : decode cX5_removes 34 = .ok (.iconst 1, 1) := by decide +kernel
theorem dX5_removes_35 : decode cX5_removes 35 = .ok (.isub, 1) := by decide +kernel
theorem dX5_removes_36 : decode cX5_removes 36 = .ok (.iastore, 1) := by decide +kernel
theorem dX5_removes_37 : decode cX5_removes 37 = .ok (.iload_n 3, 1) := by decide +kernel
theorem dX5_removes_38 : decode cX5_removes 38 = .ok (.istore 4, 2) := by decide +kernel
theorem dX5_removes_40 : decode cX5_removes 40 = .ok (.iload 4, 2) := by decide +kernel
theorem dX5_removes_42 : decode cX5_removes 42 = .ok (.aload_n 0, 1) := by decide +kernel
theorem dX5_removes_43 : decode cX5_removes 43 = .ok (.getfield 18, 3) := by decide +kernel
theorem dX5_removes_46 : decode cX5_removes 46 = .ok (.iload_n 1, 1) := by decide +kernel
theorem dX5_removes_47 : decode cX5_removes 47 = .ok (.iaload, 1) := by decide +kernel
theorem dX5_removes_48 : decode cX5_removes 48 = .ok (.if_icmp .ge 29, 3) := by decide +kernel
theorem dX5_removes_51 : decode cX5_removes 51 = .ok (.aload_n 0, 1) := by decide +kernel
theorem dX5_removes_52 : decode cX5_removes 52 = .ok (.getfield 15, 3) := by decide +kernel
theorem dX5_removes_55 : decode cX5_removes 55 = .ok (.iload_n 1, 1) := by decide +kernel
theorem dX5_removes_56 : decode cX5_removes 56 = .ok (.aaload, 1) := by decide +kernel
theorem dX5_removes_57 : decode cX5_removes 57 = .ok (.iload 4, 2) := by decide +kernel
theorem dX5_removes_59 : decode cX5_removes 59 = .ok (.aload_n 0, 1) := by decide +kernel
theorem dX5_removes_60 : decode cX5_removes 60 = .ok (.getfield 15, 3) := by decide +kernel
theorem dX5_removes_63 : decode cX5_removes 63 = .ok (.iload_n 1, 1) := by decide +kernel
theorem dX5_removes_64 : decode cX5_removes 64 = .ok (.aaload, 1) := by decide +kernel
theorem dX5_removes_65 : decode cX5_removes 65 = .ok (.iload 4, 2) := by decide +kernel
theorem dX5_removes_67 : decode cX5_removes 67 = .ok (.iconst 1, 1) := by decide +kernel
theorem dX5_removes_68 : decode cX5_removes 68 = .ok (.iadd, 1) := by decide +kernel
theorem dX5_removes_69 : decode cX5_removes 69 = .ok (.aaload, 1) := by decide +kernel
theorem dX5_removes_70 : decode cX5_removes 70 = .ok (.aastore, 1) := by decide +kernel
theorem dX5_removes_71 : decode cX5_removes 71 = .ok (.iinc 4 1, 3) := by decide +kernel
theorem dX5_removes_74 : decode cX5_removes 74 = .ok (.goto (-34), 3) := by decide +kernel
theorem dX5_removes_77 : decode cX5_removes 77 = .ok (.iconst 1, 1) := by decide +kernel
theorem dX5_removes_78 : decode cX5_removes 78 = .ok (.ireturn, 1) := by decide +kernel
theorem dX5_adopts_0 : decode cX5_adopts 0 = .ok (.aload_n 0, 1) := by decide +kernel
theorem dX5_adopts_1 : decode cX5_adopts 1 = .ok (.getfield 7, 3) := by decide +kernel
theorem dX5_adopts_4 : decode cX5_adopts 4 = .ok (.iload_n 1, 1) := by decide +kernel
theorem dX5_adopts_5 : decode cX5_adopts 5 = .ok (.iaload, 1) := by decide +kernel
theorem dX5_adopts_6 : decode cX5_adopts 6 = .ok (.iload_n 2, 1) := by decide +kernel
theorem dX5_adopts_7 : decode cX5_adopts 7 = .ok (.if_icmp .ne 5, 3) := by decide +kernel
theorem dX5_adopts_10 : decode cX5_adopts 10 = .ok (.iconst 1, 1) := by decide +kernel
theorem dX5_adopts_11 : decode cX5_adopts 11 = .ok (.ireturn, 1) := by decide +kernel
theorem dX5_adopts_12 : decode cX5_adopts 12 = .ok (.aload_n 0, 1) := by decide +kernel
theorem dX5_adopts_13 : decode cX5_adopts 13 = .ok (.getfield 21, 3) := by decide +kernel
theorem dX5_adopts_16 : decode cX5_adopts 16 = .ok (.iload_n 1, 1) := by decide +kernel
theorem dX5_adopts_17 : decode cX5_adopts 17 = .ok (.baload, 1) := by decide +kernel
theorem dX5_adopts_18 : decode cX5_adopts 18 = .ok (.ifCond .ne 12, 3) := by decide +kernel
theorem dX5_adopts_21 : decode cX5_adopts 21 = .ok (.aload_n 0, 1) := by decide +kernel
theorem dX5_adopts_22 : decode cX5_adopts 22 = .ok (.iload_n 2, 1) := by decide +kernel
theorem dX5_adopts_23 : decode cX5_adopts 23 = .ok (.iload_n 1, 1) := by decide +kernel
theorem dX5_adopts_24 : decode cX5_adopts 24 = .ok (.invokevirtual 63, 3) := by decide +kernel
theorem dX5_adopts_27 : decode cX5_adopts 27 = .ok (.ifCond .eq 5, 3) := by decide +kernel
theorem dX5_adopts_30 : decode cX5_adopts 30 = .ok (.iconst 0, 1) := by decide +kernel
theorem dX5_adopts_31 : decode cX5_adopts 31 = .ok (.ireturn, 1) := by decide +kernel
theorem dX5_adopts_32 : decode cX5_adopts 32 = .ok (.aload_n 0, 1) := by decide +kernel
theorem dX5_adopts_33 : decode cX5_adopts 33 = .ok (.getfield 7, 3) := by decide +kernel
theorem dX5_adopts_36 : decode cX5_adopts 36 = .ok (.iload_n 1, 1) := by decide +kernel
theorem dX5_adopts_37 : decode cX5_adopts 37 = .ok (.iload_n 2, 1) := by decide +kernel
theorem dX5_adopts_38 : decode cX5_adopts 38 = .ok (.iastore, 1) := by decide +kernel
theorem dX5_adopts_39 : decode cX5_adopts 39 = .ok (.iconst 1, 1) := by decide +kernel
theorem dX5_adopts_40 : decode cX5_adopts 40 = .ok (.ireturn, 1) := by decide +kernel
theorem dX5_shuts_0 : decode cX5_shuts 0 = .ok (.aload_n 0, 1) := by decide +kernel
theorem dX5_shuts_1 : decode cX5_shuts 1 = .ok (.getfield 21, 3) := by decide +kernel
theorem dX5_shuts_4 : decode cX5_shuts 4 = .ok (.iload_n 1, 1) := by decide +kernel
theorem dX5_shuts_5 : decode cX5_shuts 5 = .ok (.iconst 1, 1) := by decide +kernel
theorem dX5_shuts_6 : decode cX5_shuts 6 = .ok (.bastore, 1) := by decide +kernel
theorem dX5_shuts_7 : decode cX5_shuts 7 = .ok (.iconst 0, 1) := by decide +kernel
theorem dX5_shuts_8 : decode cX5_shuts 8 = .ok (.istore_n 3, 1) := by decide +kernel
theorem dX5_shuts_9 : decode cX5_shuts 9 = .ok (.iconst 0, 1) := by decide +kernel
theorem dX5_shuts_10 : decode cX5_shuts 10 = .ok (.istore 4, 2) := by decide +kernel
theorem dX5_shuts_12 : decode cX5_shuts 12 = .ok (.iload 4, 2) := by decide +kernel
theorem dX5_shuts_14 : decode cX5_shuts 14 = .ok (.aload_n 0, 1) := by decide +kernel
theorem dX5_shuts_15 : decode cX5_shuts 15 = .ok (.getfield 18, 3) := by decide +kernel
theorem dX5_shuts_18 : decode cX5_shuts 18 = .ok (.iload_n 1, 1) := by decide +kernel
theorem dX5_shuts_19 : decode cX5_shuts 19 = .ok (.iaload, 1) := by decide +kernel
theorem dX5_shuts_20 : decode cX5_shuts 20 = .ok (.if_icmp .ge 77, 3) := by decide +kernel
theorem dX5_shuts_23 : decode cX5_shuts 23 = .ok (.iload_n 2, 1) := by decide +kernel
theorem dX5_shuts_24 : decode cX5_shuts 24 = .ok (.ifCond .eq 73, 3) := by decide +kernel
theorem dX5_shuts_27 : decode cX5_shuts 27 = .ok (.iload_n 3, 1) := by decide +kernel
theorem dX5_shuts_28 : decode cX5_shuts 28 = .ok (.aload_n 0, 1) := by decide +kernel
theorem dX5_shuts_29 : decode cX5_shuts 29 = .ok (.getfield 15, 3) := by decide +kernel
theorem dX5_shuts_32 : decode cX5_shuts 32 = .ok (.iload_n 1, 1) := by decide +kernel
theorem dX5_shuts_33 : decode cX5_shuts 33 = .ok (.aaload, 1) := by decide +kernel
theorem dX5_shuts_34 : decode cX5_shuts 34 = .ok (.iload 4, 2) := by decide +kernel
theorem dX5_shuts_36 : decode cX5_shuts 36 = .ok (.aaload, 1) := by decide +kernel
theorem dX5_shuts_37 : decode cX5_shuts 37 = .ok (.iconst 1, 1) := by decide +kernel
theorem dX5_shuts_38 : decode cX5_shuts 38 = .ok (.iaload, 1) := by decide +kernel
theorem dX5_shuts_39 : decode cX5_shuts 39 = .ok (.iconst 1, 1) := by decide +kernel
theorem dX5_shuts_40 : decode cX5_shuts 40 = .ok (.if_icmp .ne 21, 3) := by decide +kernel
theorem dX5_shuts_43 : decode cX5_shuts 43 = .ok (.aload_n 0, 1) := by decide +kernel
theorem dX5_shuts_44 : decode cX5_shuts 44 = .ok (.getfield 15, 3) := by decide +kernel
theorem dX5_shuts_47 : decode cX5_shuts 47 = .ok (.iload_n 1, 1) := by decide +kernel
theorem dX5_shuts_48 : decode cX5_shuts 48 = .ok (.aaload, 1) := by decide +kernel
theorem dX5_shuts_49 : decode cX5_shuts 49 = .ok (.iload 4, 2) := by decide +kernel
theorem dX5_shuts_51 : decode cX5_shuts 51 = .ok (.aaload, 1) := by decide +kernel
theorem dX5_shuts_52 : decode cX5_shuts 52 = .ok (.iconst 3, 1) := by decide +kernel
theorem dX5_shuts_53 : decode cX5_shuts 53 = .ok (.iaload, 1) := by decide +kernel
theorem dX5_shuts_54 : decode cX5_shuts 54 = .ok (.ifCond .ne 7, 3) := by decide +kernel
theorem dX5_shuts_57 : decode cX5_shuts 57 = .ok (.iconst 1, 1) := by decide +kernel
theorem dX5_shuts_58 : decode cX5_shuts 58 = .ok (.goto 4, 3) := by decide +kernel
theorem dX5_shuts_61 : decode cX5_shuts 61 = .ok (.iconst 0, 1) := by decide +kernel
theorem dX5_shuts_62 : decode cX5_shuts 62 = .ok (.iadd, 1) := by decide +kernel
theorem dX5_shuts_63 : decode cX5_shuts 63 = .ok (.istore_n 3, 1) := by decide +kernel
theorem dX5_shuts_64 : decode cX5_shuts 64 = .ok (.aload_n 0, 1) := by decide +kernel
theorem dX5_shuts_65 : decode cX5_shuts 65 = .ok (.getfield 15, 3) := by decide +kernel
theorem dX5_shuts_68 : decode cX5_shuts 68 = .ok (.iload_n 1, 1) := by decide +kernel
theorem dX5_shuts_69 : decode cX5_shuts 69 = .ok (.aaload, 1) := by decide +kernel
theorem dX5_shuts_70 : decode cX5_shuts 70 = .ok (.iload 4, 2) := by decide +kernel
theorem dX5_shuts_72 : decode cX5_shuts 72 = .ok (.aaload, 1) := by decide +kernel
theorem dX5_shuts_73 : decode cX5_shuts 73 = .ok (.iconst 1, 1) := by decide +kernel
theorem dX5_shuts_74 : decode cX5_shuts 74 = .ok (.iaload, 1) := by decide +kernel
theorem dX5_shuts_75 : decode cX5_shuts 75 = .ok (.iconst 1, 1) := by decide +kernel
theorem dX5_shuts_76 : decode cX5_shuts 76 = .ok (.if_icmp .ne 15, 3) := by decide +kernel
theorem dX5_shuts_79 : decode cX5_shuts 79 = .ok (.aload_n 0, 1) := by decide +kernel
theorem dX5_shuts_80 : decode cX5_shuts 80 = .ok (.getfield 15, 3) := by decide +kernel
theorem dX5_shuts_83 : decode cX5_shuts 83 = .ok (.iload_n 1, 1) := by decide +kernel
theorem dX5_shuts_84 : decode cX5_shuts 84 = .ok (.aaload, 1) := by decide +kernel
theorem dX5_shuts_85 : decode cX5_shuts 85 = .ok (.iload 4, 2) := by decide +kernel
theorem dX5_shuts_87 : decode cX5_shuts 87 = .ok (.aaload, 1) := by decide +kernel
theorem dX5_shuts_88 : decode cX5_shuts 88 = .ok (.iconst 3, 1) := by decide +kernel
theorem dX5_shuts_89 : decode cX5_shuts 89 = .ok (.iconst 1, 1) := by decide +kernel
theorem dX5_shuts_90 : decode cX5_shuts 90 = .ok (.iastore, 1) := by decide +kernel
theorem dX5_shuts_91 : decode cX5_shuts 91 = .ok (.iinc 4 1, 3) := by decide +kernel
theorem dX5_shuts_94 : decode cX5_shuts 94 = .ok (.goto (-82), 3) := by decide +kernel
theorem dX5_shuts_97 : decode cX5_shuts 97 = .ok (.iload_n 3, 1) := by decide +kernel
theorem dX5_shuts_98 : decode cX5_shuts 98 = .ok (.ireturn, 1) := by decide +kernel
theorem dX5_isChanged_0 : decode cX5_isChanged 0 = .ok (.iload_n 2, 1) := by decide +kernel
theorem dX5_isChanged_1 : decode cX5_isChanged 1 = .ok (.iconst 4, 1) := by decide +kernel
