theorem dX4_readAt_39 : decode cX4_readAt 39 = .ok (.iload_n 3, 1) := by decide +kernel
theorem dX4_readAt_40 : decode cX4_readAt 40 = .ok (.invokestatic 163, 3) := by decide +kernel
theorem dX4_readAt_43 : decode cX4_readAt 43 = .ok (.invokevirtual 167, 3) := by decide +kernel
theorem dX4_readAt_46 : decode cX4_readAt 46 = .ok (.iload 6, 2) := by decide +kernel
theorem dX4_readAt_48 : decode cX4_readAt 48 = .ok (.ifCond .ne 28, 3) := by decide +kernel
theorem dX4_readAt_51 : decode cX4_readAt 51 = .ok (.aload 5, 2) := by decide +kernel
theorem dX4_readAt_53 : decode cX4_readAt 53 = .ok (.getfield 62, 3) := by decide +kernel
theorem dX4_readAt_56 : decode cX4_readAt 56 = .ok (.ifnull 20, 3) := by decide +kernel
theorem dX4_readAt_59 : decode cX4_readAt 59 = .ok (.aload 4, 2) := by decide +kernel
theorem dX4_readAt_61 : decode cX4_readAt 61 = .ok (.aload 5, 2) := by decide +kernel
theorem dX4_readAt_63 : decode cX4_readAt 63 = .ok (.getfield 62, 3) := by decide +kernel
theorem dX4_readAt_66 : decode cX4_readAt 66 = .ok (.iload_n 3, 1) := by decide +kernel
theorem dX4_readAt_67 : decode cX4_readAt 67 = .ok (.aload 5, 2) := by decide +kernel
theorem dX4_readAt_69 : decode cX4_readAt 69 = .ok (.iload_n 3, 1) := by decide +kernel
theorem dX4_readAt_70 : decode cX4_readAt 70 = .ok (.invokestatic 171, 3) := by decide +kernel
theorem dX4_readAt_73 : decode cX4_readAt 73 = .ok (.invokevirtual 174, 3) := by decide +kernel
theorem dX4_readAt_76 : decode cX4_readAt 76 = .ok (.aload_n 0, 1) := by decide +kernel
theorem dX4_readAt_77 : decode cX4_readAt 77 = .ok (.aload 5, 2) := by decide +kernel
theorem dX4_readAt_79 : decode cX4_readAt 79 = .ok (.iload_n 3, 1) := by decide +kernel
theorem dX4_readAt_80 : decode cX4_readAt 80 = .ok (.invokevirtual 75, 3) := by decide +kernel
theorem dX4_readAt_83 : decode cX4_readAt 83 = .ok (.ireturn, 1) := by decide +kernel
theorem dX4_ofPlace_0 : decode cX4_ofPlace 0 = .ok (.aload_n 0, 1) := by decide +kernel
theorem dX4_ofPlace_1 : decode cX4_ofPlace 1 = .ok (.iload_n 1, 1) := by decide +kernel
theorem dX4_ofPlace_2 : decode cX4_ofPlace 2 = .ok (.invokevirtual 155, 3) := by decide +kernel
theorem dX4_ofPlace_5 : decode cX4_ofPlace 5 = .ok (.astore_n 3, 1) := by decide +kernel
theorem dX4_ofPlace_6 : decode cX4_ofPlace 6 = .ok (.iload_n 2, 1) := by decide +kernel
theorem dX4_ofPlace_7 : decode cX4_ofPlace 7 = .ok (.iconst 5, 1) := by decide +kernel
theorem dX4_ofPlace_8 : decode cX4_ofPlace 8 = .ok (.invokestatic 178, 3) := by decide +kernel
theorem dX4_ofPlace_11 : decode cX4_ofPlace 11 = .ok (.aload_n 3, 1) := by decide +kernel
theorem dX4_ofPlace_12 : decode cX4_ofPlace 12 = .ok (.iload_n 2, 1) := by decide +kernel
theorem dX4_ofPlace_13 : decode cX4_ofPlace 13 = .ok (.invokevirtual 182, 3) := by decide +kernel
theorem dX4_ofPlace_16 : decode cX4_ofPlace 16 = .ok (.ireturn, 1) := by decide +kernel
theorem dX4_entry_0 : decode cX4_entry 0 = .ok (.aload_n 0, 1) := by decide +kernel
theorem dX4_entry_1 : decode cX4_entry 1 = .ok (.iload_n 1, 1) := by decide +kernel
theorem dX4_entry_2 : decode cX4_entry 2 = .ok (.invokevirtual 155, 3) := by decide +kernel
theorem dX4_entry_5 : decode cX4_entry 5 = .ok (.astore 4, 2) := by decide +kernel
theorem dX4_entry_7 : decode cX4_entry 7 = .ok (.iload_n 2, 1) := by decide +kernel
theorem dX4_entry_8 : decode cX4_entry 8 = .ok (.ifCond .lt 12, 3) := by decide +kernel
theorem dX4_entry_11 : decode cX4_entry 11 = .ok (.iload_n 2, 1) := by decide +kernel
theorem dX4_entry_12 : decode cX4_entry 12 = .ok (.aload 4, 2) := by decide +kernel
theorem dX4_entry_14 : decode cX4_entry 14 = .ok (.getfield 186, 3) := by decide +kernel
theorem dX4_entry_17 : decode cX4_entry 17 = .ok (.if_icmp .lt 13, 3) := by decide +kernel
theorem dX4_entry_20 : decode cX4_entry 20 = .ok (.new 187, 3) := by decide +kernel
theorem dX4_entry_23 : decode cX4_entry 23 = .ok (.dup, 1) := by decide +kernel
theorem dX4_entry_24 : decode cX4_entry 24 = .ok (.ldc 189, 2) := by decide +kernel
theorem dX4_entry_26 : decode cX4_entry 26 = .ok (.invokespecial 191, 3) := by decide +kernel
theorem dX4_entry_29 : decode cX4_entry 29 = .ok (.athrow, 1) := by decide +kernel
theorem dX4_entry_30 : decode cX4_entry 30 = .ok (.iload_n 3, 1) := by decide +kernel
theorem dX4_entry_31 : decode cX4_entry 31 = .ok (.iconst 2, 1) := by decide +kernel
theorem dX4_entry_32 : decode cX4_entry 32 = .ok (.invokestatic 178, 3) := by decide +kernel
theorem dX4_entry_35 : decode cX4_entry 35 = .ok (.aload 4, 2) := by decide +kernel
theorem dX4_entry_37 : decode cX4_entry 37 = .ok (.iload_n 2, 1) := by decide +kernel
theorem dX4_entry_38 : decode cX4_entry 38 = .ok (.iload_n 3, 1) := by decide +kernel
theorem dX4_entry_39 : decode cX4_entry 39 = .ok (.invokevirtual 192, 3) := by decide +kernel
theorem dX4_entry_42 : decode cX4_entry 42 = .ok (.ireturn, 1) := by decide +kernel
theorem dX4_ofObject_0 : decode cX4_ofObject 0 = .ok (.aload_n 0, 1) := by decide +kernel
theorem dX4_ofObject_1 : decode cX4_ofObject 1 = .ok (.iload_n 1, 1) := by decide +kernel
theorem dX4_ofObject_2 : decode cX4_ofObject 2 = .ok (.invokevirtual 69, 3) := by decide +kernel
theorem dX4_ofObject_5 : decode cX4_ofObject 5 = .ok (.astore_n 3, 1) := by decide +kernel
theorem dX4_ofObject_6 : decode cX4_ofObject 6 = .ok (.iload_n 2, 1) := by decide +kernel
theorem dX4_ofObject_7 : decode cX4_ofObject 7 = .ok (.bipush 7, 2) := by decide +kernel
theorem dX4_ofObject_9 : decode cX4_ofObject 9 = .ok (.invokestatic 178, 3) := by decide +kernel
theorem dX4_ofObject_12 : decode cX4_ofObject 12 = .ok (.aload_n 0, 1) := by decide +kernel
theorem dX4_ofObject_13 : decode cX4_ofObject 13 = .ok (.aload_n 3, 1) := by decide +kernel
theorem dX4_ofObject_14 : decode cX4_ofObject 14 = .ok (.iload_n 2, 1) := by decide +kernel
theorem dX4_ofObject_15 : decode cX4_ofObject 15 = .ok (.invokevirtual 195, 3) := by decide +kernel
theorem dX4_ofObject_18 : decode cX4_ofObject 18 = .ok (.ireturn, 1) := by decide +kernel
theorem dX4_ofField_0 : decode cX4_ofField 0 = .ok (.aload_n 0, 1) := by decide +kernel
theorem dX4_ofField_1 : decode cX4_ofField 1 = .ok (.iload_n 1, 1) := by decide +kernel
theorem dX4_ofField_2 : decode cX4_ofField 2 = .ok (.invokevirtual 69, 3) := by decide +kernel
theorem dX4_ofField_5 : decode cX4_ofField 5 = .ok (.astore 4, 2) := by decide +kernel
theorem dX4_ofField_7 : decode cX4_ofField 7 = .ok (.iload_n 2, 1) := by decide +kernel
theorem dX4_ofField_8 : decode cX4_ofField 8 = .ok (.invokestatic 72, 3) := by decide +kernel
theorem dX4_ofField_11 : decode cX4_ofField 11 = .ok (.iload_n 3, 1) := by decide +kernel
theorem dX4_ofField_12 : decode cX4_ofField 12 = .ok (.bipush 6, 2) := by decide +kernel
theorem dX4_ofField_14 : decode cX4_ofField 14 = .ok (.invokestatic 178, 3) := by decide +kernel
theorem dX4_ofField_17 : decode cX4_ofField 17 = .ok (.aload 4, 2) := by decide +kernel
theorem dX4_ofField_19 : decode cX4_ofField 19 = .ok (.iload_n 2, 1) := by decide +kernel
theorem dX4_ofField_20 : decode cX4_ofField 20 = .ok (.iload_n 3, 1) := by decide +kernel
theorem dX4_ofField_21 : decode cX4_ofField 21 = .ok (.invokevirtual 198, 3) := by decide +kernel
theorem dX4_ofField_24 : decode cX4_ofField 24 = .ok (.ireturn, 1) := by decide +kernel
theorem dX4_ofShape_0 : decode cX4_ofShape 0 = .ok (.iload_n 1, 1) := by decide +kernel
theorem dX4_ofShape_1 : decode cX4_ofShape 1 = .ok (.ifCond .lt 14, 3) := by decide +kernel
theorem dX4_ofShape_4 : decode cX4_ofShape 4 = .ok (.iload_n 1, 1) := by decide +kernel
theorem dX4_ofShape_5 : decode cX4_ofShape 5 = .ok (.aload_n 0, 1) := by decide +kernel
theorem dX4_ofShape_6 : decode cX4_ofShape 6 = .ok (.getfield 18, 3) := by decide +kernel
theorem dX4_ofShape_9 : decode cX4_ofShape 9 = .ok (.getfield 206, 3) := by decide +kernel
theorem dX4_ofShape_12 : decode cX4_ofShape 12 = .ok (.if_icmp .lt 13, 3) := by decide +kernel
theorem dX4_ofShape_15 : decode cX4_ofShape 15 = .ok (.new 187, 3) := by decide +kernel
theorem dX4_ofShape_18 : decode cX4_ofShape 18 = .ok (.dup, 1) := by decide +kernel
theorem dX4_ofShape_19 : decode cX4_ofShape 19 = .ok (.ldc 207, 2) := by decide +kernel
theorem dX4_ofShape_21 : decode cX4_ofShape 21 = .ok (.invokespecial 191, 3) := by decide +kernel
theorem dX4_ofShape_24 : decode cX4_ofShape 24 = .ok (.athrow, 1) := by decide +kernel
theorem dX4_ofShape_25 : decode cX4_ofShape 25 = .ok (.iload_n 2, 1) := by decide +kernel
theorem dX4_ofShape_26 : decode cX4_ofShape 26 = .ok (.bipush 6, 2) := by decide +kernel
theorem dX4_ofShape_28 : decode cX4_ofShape 28 = .ok (.invokestatic 178, 3) := by decide +kernel
theorem dX4_ofShape_31 : decode cX4_ofShape 31 = .ok (.aload_n 0, 1) := by decide +kernel
theorem dX4_ofShape_32 : decode cX4_ofShape 32 = .ok (.aload_n 0, 1) := by decide +kernel
theorem dX4_ofShape_33 : decode cX4_ofShape 33 = .ok (.getfield 18, 3) := by decide +kernel
theorem dX4_ofShape_36 : decode cX4_ofShape 36 = .ok (.getfield 209, 3) := by decide +kernel
theorem dX4_ofShape_39 : decode cX4_ofShape 39 = .ok (.iload_n 1, 1) := by decide +kernel
theorem dX4_ofShape_40 : decode cX4_ofShape 40 = .ok (.aaload, 1) := by decide +kernel
theorem dX4_ofShape_41 : decode cX4_ofShape 41 = .ok (.iload_n 2, 1) := by decide +kernel
theorem dX4_ofShape_42 : decode cX4_ofShape 42 = .ok (.invokevirtual 213, 3) := by decide +kernel
theorem dX4_ofShape_45 : decode cX4_ofShape 45 = .ok (.ireturn, 1) := by decide +kernel
theorem dX4_many_0 : decode cX4_many 0 = .ok (.iload_n 1, 1) := by decide +kernel
theorem dX4_many_1 : decode cX4_many 1 = .ok (.bipush 10, 2) := by decide +kernel
theorem dX4_many_3 : decode cX4_many 3 = .ok (.invokestatic 178, 3) := by decide +kernel
theorem dX4_many_6 : decode cX4_many 6 = .ok (.aload_n 0, 1) := by decide +kernel
theorem dX4_many_7 : decode cX4_many 7 = .ok (.iload_n 1, 1) := by decide +kernel
theorem dX4_many_8 : decode cX4_many 8 = .ok (.invokevirtual 217, 3) := by decide +kernel
theorem dX4_many_11 : decode cX4_many 11 = .ok (.ireturn, 1) := by decide +kernel
theorem dX4_wouldCost_0 : decode cX4_wouldCost 0 = .ok (.aload_n 0, 1) := by decide +kernel
theorem dX4_wouldCost_1 : decode cX4_wouldCost 1 = .ok (.iload_n 1, 1) := by decide +kernel
theorem dX4_wouldCost_2 : decode cX4_wouldCost 2 = .ok (.invokevirtual 155, 3) := by decide +kernel
theorem dX4_wouldCost_5 : decode cX4_wouldCost 5 = .ok (.astore 4, 2) := by decide +kernel
theorem dX4_wouldCost_7 : decode cX4_wouldCost 7 = .ok (.aload_n 0, 1) := by decide +kernel
theorem dX4_wouldCost_8 : decode cX4_wouldCost 8 = .ok (.iload_n 2, 1) := by decide +kernel
theorem dX4_wouldCost_9 : decode cX4_wouldCost 9 = .ok (.invokevirtual 69, 3) := by decide +kernel
theorem dX4_wouldCost_12 : decode cX4_wouldCost 12 = .ok (.astore 5, 2) := by decide +kernel
theorem dX4_wouldCost_14 : decode cX4_wouldCost 14 = .ok (.iload_n 3, 1) := by decide +kernel
theorem dX4_wouldCost_15 : decode cX4_wouldCost 15 = .ok (.invokestatic 72, 3) := by decide +kernel
theorem dX4_wouldCost_18 : decode cX4_wouldCost 18 = .ok (.aload 4, 2) := by decide +kernel
theorem dX4_wouldCost_20 : decode cX4_wouldCost 20 = .ok (.aload 5, 2) := by decide +kernel
theorem dX4_wouldCost_22 : decode cX4_wouldCost 22 = .ok (.iload_n 3, 1) := by decide +kernel
theorem dX4_wouldCost_23 : decode cX4_wouldCost 23 = .ok (.invokestatic 163, 3) := by decide +kernel
theorem dX4_wouldCost_26 : decode cX4_wouldCost 26 = .ok (.ireturn, 1) := by decide +kernel
theorem dX4_differs_0 : decode cX4_differs 0 = .ok (.aload_n 0, 1) := by decide +kernel
theorem dX4_differs_1 : decode cX4_differs 1 = .ok (.iload_n 1, 1) := by decide +kernel
theorem dX4_differs_2 : decode cX4_differs 2 = .ok (.invokevirtual 69, 3) := by decide +kernel
theorem dX4_differs_5 : decode cX4_differs 5 = .ok (.astore_n 3, 1) := by decide +kernel
theorem dX4_differs_6 : decode cX4_differs 6 = .ok (.aload_n 0, 1) := by decide +kernel
theorem dX4_differs_7 : decode cX4_differs 7 = .ok (.iload_n 2, 1) := by decide +kernel
theorem dX4_differs_8 : decode cX4_differs 8 = .ok (.invokevirtual 69, 3) := by decide +kernel
theorem dX4_differs_11 : decode cX4_differs 11 = .ok (.astore 4, 2) := by decide +kernel
theorem dX4_differs_13 : decode cX4_differs 13 = .ok (.iconst 0, 1) := by decide +kernel
theorem dX4_differs_14 : decode cX4_differs 14 = .ok (.istore 5, 2) := by decide +kernel
theorem dX4_differs_16 : decode cX4_differs 16 = .ok (.iconst 0, 1) := by decide +kernel
theorem dX4_differs_17 : decode cX4_differs 17 = .ok (.istore 6, 2) := by decide +kernel
theorem dX4_differs_19 : decode cX4_differs 19 = .ok (.iload 6, 2) := by decide +kernel
theorem dX4_differs_21 : decode cX4_differs 21 = .ok (.bipush 12, 2) := by decide +kernel
theorem dX4_differs_23 : decode cX4_differs 23 = .ok (.if_icmp .ge 30, 3) := by decide +kernel
theorem dX4_differs_26 : decode cX4_differs 26 = .ok (.aload_n 0, 1) := by decide +kernel
theorem dX4_differs_27 : decode cX4_differs 27 = .ok (.aload_n 3, 1) := by decide +kernel
theorem dX4_differs_28 : decode cX4_differs 28 = .ok (.iload 6, 2) := by decide +kernel
theorem dX4_differs_30 : decode cX4_differs 30 = .ok (.invokevirtual 75, 3) := by decide +kernel
theorem dX4_differs_33 : decode cX4_differs 33 = .ok (.aload_n 0, 1) := by decide +kernel
theorem dX4_differs_34 : decode cX4_differs 34 = .ok (.aload 4, 2) := by decide +kernel
theorem dX4_differs_36 : decode cX4_differs 36 = .ok (.iload 6, 2) := by decide +kernel
theorem dX4_differs_38 : decode cX4_differs 38 = .ok (.invokevirtual 75, 3) := by decide +kernel
theorem dX4_differs_41 : decode cX4_differs 41 = .ok (.if_icmp .eq 6, 3) := by decide +kernel
theorem dX4_differs_44 : decode cX4_differs 44 = .ok (.iinc 5 1, 3) := by decide +kernel
theorem dX4_differs_47 : decode cX4_differs 47 = .ok (.iinc 6 1, 3) := by decide +kernel
theorem dX4_differs_50 : decode cX4_differs 50 = .ok (.goto (-31), 3) := by decide +kernel
theorem dX4_differs_53 : decode cX4_differs 53 = .ok (.iload 5, 2) := by decide +kernel
theorem dX4_differs_55 : decode cX4_differs 55 = .ok (.ireturn, 1) := by decide +kernel
theorem dX4_digest_0 : decode cX4_digest 0 = .ok (.ldc2_w 229, 3) := by decide +kernel
theorem dX4_digest_3 : decode cX4_digest 3 = .ok (.lstore_n 1, 1) := by decide +kernel
theorem dX4_digest_4 : decode cX4_digest 4 = .ok (.iconst 0, 1) := by decide +kernel
theorem dX4_digest_5 : decode cX4_digest 5 = .ok (.istore_n 3, 1) := by decide +kernel
theorem dX4_digest_6 : decode cX4_digest 6 = .ok (.iload_n 3, 1) := by decide +kernel
theorem dX4_digest_7 : decode cX4_digest 7 = .ok (.bipush 10, 2) := by decide +kernel
theorem dX4_digest_9 : decode cX4_digest 9 = .ok (.if_icmp .gt 20, 3) := by decide +kernel
theorem dX4_digest_12 : decode cX4_digest 12 = .ok (.lload_n 1, 1) := by decide +kernel
theorem dX4_digest_13 : decode cX4_digest 13 = .ok (.aload_n 0, 1) := by decide +kernel
theorem dX4_digest_14 : decode cX4_digest 14 = .ok (.iload_n 3, 1) := by decide +kernel
theorem dX4_digest_15 : decode cX4_digest 15 = .ok (.invokevirtual 217, 3) := by decide +kernel
theorem dX4_digest_18 : decode cX4_digest 18 = .ok (.i2l, 1) := by decide +kernel
theorem dX4_digest_19 : decode cX4_digest 19 = .ok (.invokestatic 231, 3) := by decide +kernel
theorem dX4_digest_22 : decode cX4_digest 22 = .ok (.lstore_n 1, 1) := by decide +kernel
theorem dX4_digest_23 : decode cX4_digest 23 = .ok (.iinc 3 1, 3) := by decide +kernel
theorem dX4_digest_26 : decode cX4_digest 26 = .ok (.goto (-20), 3) := by decide +kernel
theorem dX4_digest_29 : decode cX4_digest 29 = .ok (.iconst 0, 1) := by decide +kernel
theorem dX4_digest_30 : decode cX4_digest 30 = .ok (.istore_n 3, 1) := by decide +kernel
theorem dX4_digest_31 : decode cX4_digest 31 = .ok (.iload_n 3, 1) := by decide +kernel
theorem dX4_digest_32 : decode cX4_digest 32 = .ok (.aload_n 0, 1) := by decide +kernel
theorem dX4_digest_33 : decode cX4_digest 33 = .ok (.getfield 40, 3) := by decide +kernel
theorem dX4_digest_36 : decode cX4_digest 36 = .ok (.if_icmp .ge 21, 3) := by decide +kernel
theorem dX4_digest_39 : decode cX4_digest 39 = .ok (.aload_n 0, 1) := by decide +kernel
theorem dX4_digest_40 : decode cX4_digest 40 = .ok (.lload_n 1, 1) := by decide +kernel
theorem dX4_digest_41 : decode cX4_digest 41 = .ok (.aload_n 0, 1) := by decide +kernel
theorem dX4_digest_42 : decode cX4_digest 42 = .ok (.getfield 11, 3) := by decide +kernel
theorem dX4_digest_45 : decode cX4_digest 45 = .ok (.iload_n 3, 1) := by decide +kernel
theorem dX4_digest_46 : decode cX4_digest 46 = .ok (.aaload, 1) := by decide +kernel
theorem dX4_digest_47 : decode cX4_digest 47 = .ok (.invokevirtual 235, 3) := by decide +kernel
theorem dX4_digest_50 : decode cX4_digest 50 = .ok (.lstore_n 1, 1) := by decide +kernel
theorem dX4_digest_51 : decode cX4_digest 51 = .ok (.iinc 3 1, 3) := by decide +kernel
theorem dX4_digest_54 : decode cX4_digest 54 = .ok (.goto (-23), 3) := by decide +kernel
theorem dX4_digest_57 : decode cX4_digest 57 = .ok (.iconst 0, 1) := by decide +kernel
theorem dX4_digest_58 : decode cX4_digest 58 = .ok (.istore_n 3, 1) := by decide +kernel
theorem dX4_digest_59 : decode cX4_digest 59 = .ok (.iload_n 3, 1) := by decide +kernel
theorem dX4_digest_60 : decode cX4_digest 60 = .ok (.aload_n 0, 1) := by decide +kernel
theorem dX4_digest_61 : decode cX4_digest 61 = .ok (.getfield 18, 3) := by decide +kernel
theorem dX4_digest_64 : decode cX4_digest 64 = .ok (.getfield 206, 3) := by decide +kernel
theorem dX4_digest_67 : decode cX4_digest 67 = .ok (.if_icmp .ge 46, 3) := by decide +kernel
theorem dX4_digest_70 : decode cX4_digest 70 = .ok (.iconst 0, 1) := by decide +kernel
theorem dX4_digest_71 : decode cX4_digest 71 = .ok (.istore 4, 2) := by decide +kernel
theorem dX4_digest_73 : decode cX4_digest 73 = .ok (.iload 4, 2) := by decide +kernel
theorem dX4_digest_75 : decode cX4_digest 75 = .ok (.bipush 6, 2) := by decide +kernel
theorem dX4_digest_77 : decode cX4_digest 77 = .ok (.if_icmp .gt 30, 3) := by decide +kernel
theorem dX4_digest_80 : decode cX4_digest 80 = .ok (.lload_n 1, 1) := by decide +kernel
theorem dX4_digest_81 : decode cX4_digest 81 = .ok (.aload_n 0, 1) := by decide +kernel
theorem dX4_digest_82 : decode cX4_digest 82 = .ok (.aload_n 0, 1) := by decide +kernel
theorem dX4_digest_83 : decode cX4_digest 83 = .ok (.getfield 18, 3) := by decide +kernel
theorem dX4_digest_86 : decode cX4_digest 86 = .ok (.getfield 209, 3) := by decide +kernel
theorem dX4_digest_89 : decode cX4_digest 89 = .ok (.iload_n 3, 1) := by decide +kernel
theorem dX4_digest_90 : decode cX4_digest 90 = .ok (.aaload, 1) := by decide +kernel
theorem dX4_digest_91 : decode cX4_digest 91 = .ok (.iload 4, 2) := by decide +kernel
theorem dX4_digest_93 : decode cX4_digest 93 = .ok (.invokevirtual 213, 3) := by decide +kernel
theorem dX4_digest_96 : decode cX4_digest 96 = .ok (.i2l, 1) := by decide +kernel
theorem dX4_digest_97 : decode cX4_digest 97 = .ok (.invokestatic 231, 3) := by decide +kernel
theorem dX4_digest_100 : decode cX4_digest 100 = .ok (.lstore_n 1, 1) := by decide +kernel
theorem dX4_digest_101 : decode cX4_digest 101 = .ok (.iinc 4 1, 3) := by decide +kernel
theorem dX4_digest_104 : decode cX4_digest 104 = .ok (.goto (-31), 3) := by decide +kernel
theorem dX4_digest_107 : decode cX4_digest 107 = .ok (.iinc 3 1, 3) := by decide +kernel
theorem dX4_digest_110 : decode cX4_digest 110 = .ok (.goto (-51), 3) := by decide +kernel
theorem dX4_digest_113 : decode cX4_digest 113 = .ok (.iconst 0, 1) := by decide +kernel
theorem dX4_digest_114 : decode cX4_digest 114 = .ok (.istore_n 3, 1) := by decide +kernel
theorem dX4_digest_115 : decode cX4_digest 115 = .ok (.iload_n 3, 1) := by decide +kernel
theorem dX4_digest_116 : decode cX4_digest 116 = .ok (.bipush 6, 2) := by decide +kernel
theorem dX4_digest_118 : decode cX4_digest 118 = .ok (.if_icmp .ge 21, 3) := by decide +kernel
theorem dX4_digest_121 : decode cX4_digest 121 = .ok (.aload_n 0, 1) := by decide +kernel
theorem dX4_digest_122 : decode cX4_digest 122 = .ok (.lload_n 1, 1) := by decide +kernel
theorem dX4_digest_123 : decode cX4_digest 123 = .ok (.aload_n 0, 1) := by decide +kernel
theorem dX4_digest_124 : decode cX4_digest 124 = .ok (.getfield 24, 3) := by decide +kernel
theorem dX4_digest_127 : decode cX4_digest 127 = .ok (.iload_n 3, 1) := by decide +kernel
theorem dX4_digest_128 : decode cX4_digest 128 = .ok (.aaload, 1) := by decide +kernel
theorem dX4_digest_129 : decode cX4_digest 129 = .ok (.invokevirtual 239, 3) := by decide +kernel
theorem dX4_digest_132 : decode cX4_digest 132 = .ok (.lstore_n 1, 1) := by decide +kernel
theorem dX4_digest_133 : decode cX4_digest 133 = .ok (.iinc 3 1, 3) := by decide +kernel
theorem dX4_digest_136 : decode cX4_digest 136 = .ok (.goto (-21), 3) := by decide +kernel
theorem dX4_digest_139 : decode cX4_digest 139 = .ok (.lload_n 1, 1) := by decide +kernel
theorem dX4_digest_140 : decode cX4_digest 140 = .ok (.lreturn, 1) := by decide +kernel
theorem dX4_thingAt_0 : decode cX4_thingAt 0 = .ok (.iload_n 1, 1) := by decide +kernel
theorem dX4_thingAt_1 : decode cX4_thingAt 1 = .ok (.ifCond .lt 11, 3) := by decide +kernel
theorem dX4_thingAt_4 : decode cX4_thingAt 4 = .ok (.iload_n 1, 1) := by decide +kernel
theorem dX4_thingAt_5 : decode cX4_thingAt 5 = .ok (.aload_n 0, 1) := by decide +kernel
theorem dX4_thingAt_6 : decode cX4_thingAt 6 = .ok (.getfield 40, 3) := by decide +kernel
theorem dX4_thingAt_9 : decode cX4_thingAt 9 = .ok (.if_icmp .lt 13, 3) := by decide +kernel
theorem dX4_thingAt_12 : decode cX4_thingAt 12 = .ok (.new 187, 3) := by decide +kernel
theorem dX4_thingAt_15 : decode cX4_thingAt 15 = .ok (.dup, 1) := by decide +kernel
theorem dX4_thingAt_16 : decode cX4_thingAt 16 = .ok (.ldc 243, 2) := by decide +kernel
theorem dX4_thingAt_18 : decode cX4_thingAt 18 = .ok (.invokespecial 191, 3) := by decide +kernel
theorem dX4_thingAt_21 : decode cX4_thingAt 21 = .ok (.athrow, 1) := by decide +kernel
theorem dX4_thingAt_22 : decode cX4_thingAt 22 = .ok (.aload_n 0, 1) := by decide +kernel
theorem dX4_thingAt_23 : decode cX4_thingAt 23 = .ok (.getfield 11, 3) := by decide +kernel
theorem dX4_thingAt_26 : decode cX4_thingAt 26 = .ok (.iload_n 1, 1) := by decide +kernel
theorem dX4_thingAt_27 : decode cX4_thingAt 27 = .ok (.aaload, 1) := by decide +kernel
theorem dX4_thingAt_28 : decode cX4_thingAt 28 = .ok (.areturn, 1) := by decide +kernel
theorem dX4_parentAt_0 : decode cX4_parentAt 0 = .ok (.iload_n 1, 1) := by decide +kernel
theorem dX4_parentAt_1 : decode cX4_parentAt 1 = .ok (.iconst (-1), 1) := by decide +kernel
theorem dX4_parentAt_2 : decode cX4_parentAt 2 = .ok (.if_icmp .ne 7, 3) := by decide +kernel
theorem dX4_parentAt_5 : decode cX4_parentAt 5 = .ok (.aconst_null, 1) := by decide +kernel
theorem dX4_parentAt_6 : decode cX4_parentAt 6 = .ok (.goto 8, 3) := by decide +kernel
theorem dX4_parentAt_9 : decode cX4_parentAt 9 = .ok (.aload_n 0, 1) := by decide +kernel
theorem dX4_parentAt_10 : decode cX4_parentAt 10 = .ok (.iload_n 1, 1) := by decide +kernel
theorem dX4_parentAt_11 : decode cX4_parentAt 11 = .ok (.invokevirtual 69, 3) := by decide +kernel
theorem dX4_parentAt_14 : decode cX4_parentAt 14 = .ok (.areturn, 1) := by decide +kernel
theorem dX4_placeAt_0 : decode cX4_placeAt 0 = .ok (.iload_n 1, 1) := by decide +kernel
theorem dX4_placeAt_1 : decode cX4_placeAt 1 = .ok (.ifCond .lt 9, 3) := by decide +kernel
theorem dX4_placeAt_4 : decode cX4_placeAt 4 = .ok (.iload_n 1, 1) := by decide +kernel
theorem dX4_placeAt_5 : decode cX4_placeAt 5 = .ok (.bipush 6, 2) := by decide +kernel
theorem dX4_placeAt_7 : decode cX4_placeAt 7 = .ok (.if_icmp .lt 13, 3) := by decide +kernel
theorem dX4_placeAt_10 : decode cX4_placeAt 10 = .ok (.new 187, 3) := by decide +kernel
theorem dX4_placeAt_13 : decode cX4_placeAt 13 = .ok (.dup, 1) := by decide +kernel
theorem dX4_placeAt_14 : decode cX4_placeAt 14 = .ok (.ldc 245, 2) := by decide +kernel
theorem dX4_placeAt_16 : decode cX4_placeAt 16 = .ok (.invokespecial 191, 3) := by decide +kernel
theorem dX4_placeAt_19 : decode cX4_placeAt 19 = .ok (.athrow, 1) := by decide +kernel
theorem dX4_placeAt_20 : decode cX4_placeAt 20 = .ok (.aload_n 0, 1) := by decide +kernel
theorem dX4_placeAt_21 : decode cX4_placeAt 21 = .ok (.getfield 24, 3) := by decide +kernel
theorem dX4_placeAt_24 : decode cX4_placeAt 24 = .ok (.iload_n 1, 1) := by decide +kernel
theorem dX4_placeAt_25 : decode cX4_placeAt 25 = .ok (.aaload, 1) := by decide +kernel
theorem dX4_placeAt_26 : decode cX4_placeAt 26 = .ok (.areturn, 1) := by decide +kernel
theorem dX4_isName_0 : decode cX4_isName 0 = .ok (.iload_n 0, 1) := by decide +kernel
theorem dX4_isName_1 : decode cX4_isName 1 = .ok (.ifCond .lt 13, 3) := by decide +kernel
theorem dX4_isName_4 : decode cX4_isName 4 = .ok (.iload_n 0, 1) := by decide +kernel
theorem dX4_isName_5 : decode cX4_isName 5 = .ok (.bipush 12, 2) := by decide +kernel
theorem dX4_isName_7 : decode cX4_isName 7 = .ok (.if_icmp .ge 7, 3) := by decide +kernel
theorem dX4_isName_10 : decode cX4_isName 10 = .ok (.iconst 1, 1) := by decide +kernel
theorem dX4_isName_11 : decode cX4_isName 11 = .ok (.goto 4, 3) := by decide +kernel
theorem dX4_isName_14 : decode cX4_isName 14 = .ok (.iconst 0, 1) := by decide +kernel
theorem dX4_isName_15 : decode cX4_isName 15 = .ok (.ireturn, 1) := by decide +kernel
theorem dX4_needName_0 : decode cX4_needName 0 = .ok (.iload_n 0, 1) := by decide +kernel
theorem dX4_needName_1 : decode cX4_needName 1 = .ok (.invokestatic 247, 3) := by decide +kernel
theorem dX4_needName_4 : decode cX4_needName 4 = .ok (.ifCond .ne 13, 3) := by decide +kernel
theorem dX4_needName_7 : decode cX4_needName 7 = .ok (.new 187, 3) := by decide +kernel
theorem dX4_needName_10 : decode cX4_needName 10 = .ok (.dup, 1) := by decide +kernel
theorem dX4_needName_11 : decode cX4_needName 11 = .ok (.ldc 250, 2) := by decide +kernel
theorem dX4_needName_13 : decode cX4_needName 13 = .ok (.invokespecial 191, 3) := by decide +kernel
theorem dX4_needName_16 : decode cX4_needName 16 = .ok (.athrow, 1) := by decide +kernel
theorem dX4_needName_17 : decode cX4_needName 17 = .ok (.return_, 1) := by decide +kernel
theorem dX4_needWhat_0 : decode cX4_needWhat 0 = .ok (.iload_n 0, 1) := by decide +kernel
theorem dX4_needWhat_1 : decode cX4_needWhat 1 = .ok (.ifCond .lt 8, 3) := by decide +kernel
theorem dX4_needWhat_4 : decode cX4_needWhat 4 = .ok (.iload_n 0, 1) := by decide +kernel
theorem dX4_needWhat_5 : decode cX4_needWhat 5 = .ok (.iload_n 1, 1) := by decide +kernel
theorem dX4_needWhat_6 : decode cX4_needWhat 6 = .ok (.if_icmp .le 13, 3) := by decide +kernel
theorem dX4_needWhat_9 : decode cX4_needWhat 9 = .ok (.new 252, 3) := by decide +kernel
theorem dX4_needWhat_12 : decode cX4_needWhat 12 = .ok (.dup, 1) := by decide +kernel
theorem dX4_needWhat_13 : decode cX4_needWhat 13 = .ok (.ldc 254, 2) := by decide +kernel
theorem dX4_needWhat_15 : decode cX4_needWhat 15 = .ok (.invokespecial 256, 3) := by decide +kernel
theorem dX4_needWhat_18 : decode cX4_needWhat 18 = .ok (.athrow, 1) := by decide +kernel
theorem dX4_needWhat_19 : decode cX4_needWhat 19 = .ok (.return_, 1) := by decide +kernel
theorem dX4_needValue_0 : decode cX4_needValue 0 = .ok (.iload_n 1, 1) := by decide +kernel
theorem dX4_needValue_1 : decode cX4_needValue 1 = .ok (.sipush 1000, 3) := by decide +kernel
theorem dX4_needValue_4 : decode cX4_needValue 4 = .ok (.if_icmp .lt 19, 3) := by decide +kernel
theorem dX4_needValue_7 : decode cX4_needValue 7 = .ok (.iload_n 1, 1) := by decide +kernel
theorem dX4_needValue_8 : decode cX4_needValue 8 = .ok (.sipush 1000, 3) := by decide +kernel
theorem dX4_needValue_11 : decode cX4_needValue 11 = .ok (.isub, 1) := by decide +kernel
theorem dX4_needValue_12 : decode cX4_needValue 12 = .ok (.aload_n 0, 1) := by decide +kernel
theorem dX4_needValue_13 : decode cX4_needValue 13 = .ok (.getfield 40, 3) := by decide +kernel
theorem dX4_needValue_16 : decode cX4_needValue 16 = .ok (.if_icmp .ge 7, 3) := by decide +kernel
theorem dX4_needValue_19 : decode cX4_needValue 19 = .ok (.iconst 1, 1) := by decide +kernel
theorem dX4_needValue_20 : decode cX4_needValue 20 = .ok (.goto 4, 3) := by decide +kernel
theorem dX4_needValue_23 : decode cX4_needValue 23 = .ok (.iconst 0, 1) := by decide +kernel
theorem dX4_needValue_24 : decode cX4_needValue 24 = .ok (.istore_n 2, 1) := by decide +kernel
theorem dX4_needValue_25 : decode cX4_needValue 25 = .ok (.iload_n 1, 1) := by decide +kernel
theorem dX4_needValue_26 : decode cX4_needValue 26 = .ok (.invokestatic 257, 3) := by decide +kernel
theorem dX4_needValue_29 : decode cX4_needValue 29 = .ok (.ifCond .ne 25, 3) := by decide +kernel
theorem dX4_needValue_32 : decode cX4_needValue 32 = .ok (.iload_n 1, 1) := by decide +kernel
theorem dX4_needValue_33 : decode cX4_needValue 33 = .ok (.sipush (-1000), 3) := by decide +kernel
theorem dX4_needValue_36 : decode cX4_needValue 36 = .ok (.if_icmp .eq 18, 3) := by decide +kernel
theorem dX4_needValue_39 : decode cX4_needValue 39 = .ok (.iload_n 2, 1) := by decide +kernel
theorem dX4_needValue_40 : decode cX4_needValue 40 = .ok (.ifCond .ne 14, 3) := by decide +kernel
theorem dX4_needValue_43 : decode cX4_needValue 43 = .ok (.new 252, 3) := by decide +kernel
theorem dX4_needValue_46 : decode cX4_needValue 46 = .ok (.dup, 1) := by decide +kernel
theorem dX4_needValue_47 : decode cX4_needValue 47 = .ok (.ldc_w 260, 3) := by decide +kernel
theorem dX4_needValue_50 : decode cX4_needValue 50 = .ok (.invokespecial 256, 3) := by decide +kernel
theorem dX4_needValue_53 : decode cX4_needValue 53 = .ok (.athrow, 1) := by decide +kernel
theorem dX4_needValue_54 : decode cX4_needValue 54 = .ok (.return_, 1) := by decide +kernel
theorem dX4_needPair_0 : decode cX4_needPair 0 = .ok (.iload_n 0, 1) := by decide +kernel
theorem dX4_needPair_1 : decode cX4_needPair 1 = .ok (.iconst (-1), 1) := by decide +kernel
theorem dX4_needPair_2 : decode cX4_needPair 2 = .ok (.if_icmp .eq 21, 3) := by decide +kernel
theorem dX4_needPair_5 : decode cX4_needPair 5 = .ok (.iload_n 0, 1) := by decide +kernel
theorem dX4_needPair_6 : decode cX4_needPair 6 = .ok (.invokestatic 247, 3) := by decide +kernel
theorem dX4_needPair_9 : decode cX4_needPair 9 = .ok (.ifCond .ne 14, 3) := by decide +kernel
theorem dX4_needPair_12 : decode cX4_needPair 12 = .ok (.new 252, 3) := by decide +kernel
theorem dX4_needPair_15 : decode cX4_needPair 15 = .ok (.dup, 1) := by decide +kernel
theorem dX4_needPair_16 : decode cX4_needPair 16 = .ok (.ldc_w 262, 3) := by decide +kernel
theorem dX4_needPair_19 : decode cX4_needPair 19 = .ok (.invokespecial 256, 3) := by decide +kernel
theorem dX4_needPair_22 : decode cX4_needPair 22 = .ok (.athrow, 1) := by decide +kernel
theorem dX4_needPair_23 : decode cX4_needPair 23 = .ok (.iload_n 1, 1) := by decide +kernel
theorem dX4_needPair_24 : decode cX4_needPair 24 = .ok (.iconst (-1), 1) := by decide +kernel
theorem dX4_needPair_25 : decode cX4_needPair 25 = .ok (.if_icmp .eq 21, 3) := by decide +kernel
theorem dX4_needPair_28 : decode cX4_needPair 28 = .ok (.iload_n 1, 1) := by decide +kernel
theorem dX4_needPair_29 : decode cX4_needPair 29 = .ok (.invokestatic 247, 3) := by decide +kernel
theorem dX4_needPair_32 : decode cX4_needPair 32 = .ok (.ifCond .ne 14, 3) := by decide +kernel
theorem dX4_needPair_35 : decode cX4_needPair 35 = .ok (.new 252, 3) := by decide +kernel
theorem dX4_needPair_38 : decode cX4_needPair 38 = .ok (.dup, 1) := by decide +kernel
theorem dX4_needPair_39 : decode cX4_needPair 39 = .ok (.ldc_w 264, 3) := by decide +kernel
theorem dX4_needPair_42 : decode cX4_needPair 42 = .ok (.invokespecial 256, 3) := by decide +kernel
theorem dX4_needPair_45 : decode cX4_needPair 45 = .ok (.athrow, 1) := by decide +kernel
theorem dX4_needPair_46 : decode cX4_needPair 46 = .ok (.iload_n 0, 1) := by decide +kernel
theorem dX4_needPair_47 : decode cX4_needPair 47 = .ok (.iconst (-1), 1) := by decide +kernel
theorem dX4_needPair_48 : decode cX4_needPair 48 = .ok (.if_icmp .ne 19, 3) := by decide +kernel
theorem dX4_needPair_51 : decode cX4_needPair 51 = .ok (.iload_n 1, 1) := by decide +kernel
theorem dX4_needPair_52 : decode cX4_needPair 52 = .ok (.iconst (-1), 1) := by decide +kernel
theorem dX4_needPair_53 : decode cX4_needPair 53 = .ok (.if_icmp .ne 14, 3) := by decide +kernel
theorem dX4_needPair_56 : decode cX4_needPair 56 = .ok (.new 252, 3) := by decide +kernel
theorem dX4_needPair_59 : decode cX4_needPair 59 = .ok (.dup, 1) := by decide +kernel
theorem dX4_needPair_60 : decode cX4_needPair 60 = .ok (.ldc_w 266, 3) := by decide +kernel
theorem dX4_needPair_63 : decode cX4_needPair 63 = .ok (.invokespecial 256, 3) := by decide +kernel
theorem dX4_needPair_66 : decode cX4_needPair 66 = .ok (.athrow, 1) := by decide +kernel
theorem dX4_needPair_67 : decode cX4_needPair 67 = .ok (.iload_n 2, 1) := by decide +kernel
theorem dX4_needPair_68 : decode cX4_needPair 68 = .ok (.bipush (-99), 2) := by decide +kernel
theorem dX4_needPair_70 : decode cX4_needPair 70 = .ok (.if_icmp .lt 9, 3) := by decide +kernel
theorem dX4_needPair_73 : decode cX4_needPair 73 = .ok (.iload_n 2, 1) := by decide +kernel
theorem dX4_needPair_74 : decode cX4_needPair 74 = .ok (.bipush 99, 2) := by decide +kernel
theorem dX4_needPair_76 : decode cX4_needPair 76 = .ok (.if_icmp .le 14, 3) := by decide +kernel
theorem dX4_needPair_79 : decode cX4_needPair 79 = .ok (.new 252, 3) := by decide +kernel
theorem dX4_needPair_82 : decode cX4_needPair 82 = .ok (.dup, 1) := by decide +kernel
theorem dX4_needPair_83 : decode cX4_needPair 83 = .ok (.ldc_w 268, 3) := by decide +kernel
theorem dX4_needPair_86 : decode cX4_needPair 86 = .ok (.invokespecial 256, 3) := by decide +kernel
theorem dX4_needPair_89 : decode cX4_needPair 89 = .ok (.athrow, 1) := by decide +kernel
theorem dX4_needPair_90 : decode cX4_needPair 90 = .ok (.return_, 1) := by decide +kernel
theorem dX4_isNumber_0 : decode cX4_isNumber 0 = .ok (.iload_n 0, 1) := by decide +kernel
theorem dX4_isNumber_1 : decode cX4_isNumber 1 = .ok (.sipush (-999), 3) := by decide +kernel
theorem dX4_isNumber_4 : decode cX4_isNumber 4 = .ok (.if_icmp .lt 14, 3) := by decide +kernel
theorem dX4_isNumber_7 : decode cX4_isNumber 7 = .ok (.iload_n 0, 1) := by decide +kernel
theorem dX4_isNumber_8 : decode cX4_isNumber 8 = .ok (.sipush 999, 3) := by decide +kernel
theorem dX4_isNumber_11 : decode cX4_isNumber 11 = .ok (.if_icmp .gt 7, 3) := by decide +kernel
theorem dX4_isNumber_14 : decode cX4_isNumber 14 = .ok (.iconst 1, 1) := by decide +kernel
theorem dX4_isNumber_15 : decode cX4_isNumber 15 = .ok (.goto 4, 3) := by decide +kernel
theorem dX4_isNumber_18 : decode cX4_isNumber 18 = .ok (.iconst 0, 1) := by decide +kernel
theorem dX4_isNumber_19 : decode cX4_isNumber 19 = .ok (.ireturn, 1) := by decide +kernel
theorem dX4_raised_0 : decode cX4_raised 0 = .ok (.iload_n 0, 1) := by decide +kernel
theorem dX4_raised_1 : decode cX4_raised 1 = .ok (.invokestatic 257, 3) := by decide +kernel
theorem dX4_raised_4 : decode cX4_raised 4 = .ok (.ifCond .ne 5, 3) := by decide +kernel
theorem dX4_raised_7 : decode cX4_raised 7 = .ok (.iload_n 0, 1) := by decide +kernel
theorem dX4_raised_8 : decode cX4_raised 8 = .ok (.ireturn, 1) := by decide +kernel
theorem dX4_raised_9 : decode cX4_raised 9 = .ok (.sipush (-999), 3) := by decide +kernel
theorem dX4_raised_12 : decode cX4_raised 12 = .ok (.sipush 999, 3) := by decide +kernel
theorem dX4_raised_15 : decode cX4_raised 15 = .ok (.iload_n 0, 1) := by decide +kernel
theorem dX4_raised_16 : decode cX4_raised 16 = .ok (.iload_n 1, 1) := by decide +kernel
theorem dX4_raised_17 : decode cX4_raised 17 = .ok (.iadd, 1) := by decide +kernel
theorem dX4_raised_18 : decode cX4_raised 18 = .ok (.invokestatic 270, 3) := by decide +kernel
theorem dX4_raised_21 : decode cX4_raised 21 = .ok (.invokestatic 275, 3) := by decide +kernel
theorem dX4_raised_24 : decode cX4_raised 24 = .ok (.ireturn, 1) := by decide +kernel
theorem dX4_isInLine_0 : decode cX4_isInLine 0 = .ok (.aload_n 0, 1) := by decide +kernel
theorem dX4_isInLine_1 : decode cX4_isInLine 1 = .ok (.astore_n 2, 1) := by decide +kernel
theorem dX4_isInLine_2 : decode cX4_isInLine 2 = .ok (.aload_n 2, 1) := by decide +kernel
theorem dX4_isInLine_3 : decode cX4_isInLine 3 = .ok (.ifnull 18, 3) := by decide +kernel
theorem dX4_isInLine_6 : decode cX4_isInLine 6 = .ok (.aload_n 2, 1) := by decide +kernel
theorem dX4_isInLine_7 : decode cX4_isInLine 7 = .ok (.aload_n 1, 1) := by decide +kernel
theorem dX4_isInLine_8 : decode cX4_isInLine 8 = .ok (.if_acmp .ne 5, 3) := by decide +kernel
theorem dX4_isInLine_11 : decode cX4_isInLine 11 = .ok (.iconst 1, 1) := by decide +kernel
theorem dX4_isInLine_12 : decode cX4_isInLine 12 = .ok (.ireturn, 1) := by decide +kernel
theorem dX4_isInLine_13 : decode cX4_isInLine 13 = .ok (.aload_n 2, 1) := by decide +kernel
theorem dX4_isInLine_14 : decode cX4_isInLine 14 = .ok (.getfield 129, 3) := by decide +kernel
theorem dX4_isInLine_17 : decode cX4_isInLine 17 = .ok (.astore_n 2, 1) := by decide +kernel
theorem dX4_isInLine_18 : decode cX4_isInLine 18 = .ok (.goto (-16), 3) := by decide +kernel
theorem dX4_isInLine_21 : decode cX4_isInLine 21 = .ok (.iconst 0, 1) := by decide +kernel
theorem dX4_isInLine_22 : decode cX4_isInLine 22 = .ok (.ireturn, 1) := by decide +kernel
theorem dX4_lineLength_0 : decode cX4_lineLength 0 = .ok (.iconst 0, 1) := by decide +kernel
theorem dX4_lineLength_1 : decode cX4_lineLength 1 = .ok (.istore_n 1, 1) := by decide +kernel
theorem dX4_lineLength_2 : decode cX4_lineLength 2 = .ok (.aload_n 0, 1) := by decide +kernel
theorem dX4_lineLength_3 : decode cX4_lineLength 3 = .ok (.astore_n 2, 1) := by decide +kernel
theorem dX4_lineLength_4 : decode cX4_lineLength 4 = .ok (.aload_n 2, 1) := by decide +kernel
theorem dX4_lineLength_5 : decode cX4_lineLength 5 = .ok (.ifnull 14, 3) := by decide +kernel
theorem dX4_lineLength_8 : decode cX4_lineLength 8 = .ok (.iinc 1 1, 3) := by decide +kernel
theorem dX4_lineLength_11 : decode cX4_lineLength 11 = .ok (.aload_n 2, 1) := by decide +kernel
theorem dX4_lineLength_12 : decode cX4_lineLength 12 = .ok (.getfield 129, 3) := by decide +kernel
theorem dX4_lineLength_15 : decode cX4_lineLength 15 = .ok (.astore_n 2, 1) := by decide +kernel
theorem dX4_lineLength_16 : decode cX4_lineLength 16 = .ok (.goto (-12), 3) := by decide +kernel
theorem dX4_lineLength_19 : decode cX4_lineLength 19 = .ok (.iload_n 1, 1) := by decide +kernel
theorem dX4_lineLength_20 : decode cX4_lineLength 20 = .ok (.ireturn, 1) := by decide +kernel
theorem dX4_holderOf_0 : decode cX4_holderOf 0 = .ok (.aload_n 0, 1) := by decide +kernel
theorem dX4_holderOf_1 : decode cX4_holderOf 1 = .ok (.astore_n 2, 1) := by decide +kernel
theorem dX4_holderOf_2 : decode cX4_holderOf 2 = .ok (.aload_n 2, 1) := by decide +kernel
theorem dX4_holderOf_3 : decode cX4_holderOf 3 = .ok (.ifnull 21, 3) := by decide +kernel
theorem dX4_holderOf_6 : decode cX4_holderOf 6 = .ok (.aload_n 2, 1) := by decide +kernel
theorem dX4_holderOf_7 : decode cX4_holderOf 7 = .ok (.iload_n 1, 1) := by decide +kernel
theorem dX4_holderOf_8 : decode cX4_holderOf 8 = .ok (.invokevirtual 118, 3) := by decide +kernel
theorem dX4_holderOf_11 : decode cX4_holderOf 11 = .ok (.ifCond .eq 5, 3) := by decide +kernel
theorem dX4_holderOf_14 : decode cX4_holderOf 14 = .ok (.aload_n 2, 1) := by decide +kernel
theorem dX4_holderOf_15 : decode cX4_holderOf 15 = .ok (.areturn, 1) := by decide +kernel
theorem dX4_holderOf_16 : decode cX4_holderOf 16 = .ok (.aload_n 2, 1) := by decide +kernel
theorem dX4_holderOf_17 : decode cX4_holderOf 17 = .ok (.getfield 129, 3) := by decide +kernel
theorem dX4_holderOf_20 : decode cX4_holderOf 20 = .ok (.astore_n 2, 1) := by decide +kernel
theorem dX4_holderOf_21 : decode cX4_holderOf 21 = .ok (.goto (-19), 3) := by decide +kernel
theorem dX4_holderOf_24 : decode cX4_holderOf 24 = .ok (.aconst_null, 1) := by decide +kernel
theorem dX4_holderOf_25 : decode cX4_holderOf 25 = .ok (.areturn, 1) := by decide +kernel
theorem dX4_wayUp_0 : decode cX4_wayUp 0 = .ok (.iconst 0, 1) := by decide +kernel
theorem dX4_wayUp_1 : decode cX4_wayUp 1 = .ok (.istore_n 2, 1) := by decide +kernel
theorem dX4_wayUp_2 : decode cX4_wayUp 2 = .ok (.aload_n 0, 1) := by decide +kernel
theorem dX4_wayUp_3 : decode cX4_wayUp 3 = .ok (.astore_n 3, 1) := by decide +kernel
theorem dX4_wayUp_4 : decode cX4_wayUp 4 = .ok (.aload_n 3, 1) := by decide +kernel
theorem dX4_wayUp_5 : decode cX4_wayUp 5 = .ok (.ifnull 24, 3) := by decide +kernel
theorem dX4_wayUp_8 : decode cX4_wayUp 8 = .ok (.aload_n 3, 1) := by decide +kernel
theorem dX4_wayUp_9 : decode cX4_wayUp 9 = .ok (.iload_n 1, 1) := by decide +kernel
theorem dX4_wayUp_10 : decode cX4_wayUp 10 = .ok (.invokevirtual 118, 3) := by decide +kernel
theorem dX4_wayUp_13 : decode cX4_wayUp 13 = .ok (.ifCond .eq 5, 3) := by decide +kernel
theorem dX4_wayUp_16 : decode cX4_wayUp 16 = .ok (.iload_n 2, 1) := by decide +kernel
theorem dX4_wayUp_17 : decode cX4_wayUp 17 = .ok (.ireturn, 1) := by decide +kernel
theorem dX4_wayUp_18 : decode cX4_wayUp 18 = .ok (.iinc 2 1, 3) := by decide +kernel
theorem dX4_wayUp_21 : decode cX4_wayUp 21 = .ok (.aload_n 3, 1) := by decide +kernel
theorem dX4_wayUp_22 : decode cX4_wayUp 22 = .ok (.getfield 129, 3) := by decide +kernel
theorem dX4_wayUp_25 : decode cX4_wayUp 25 = .ok (.astore_n 3, 1) := by decide +kernel
theorem dX4_wayUp_26 : decode cX4_wayUp 26 = .ok (.goto (-22), 3) := by decide +kernel
theorem dX4_wayUp_29 : decode cX4_wayUp 29 = .ok (.iconst (-1), 1) := by decide +kernel
theorem dX4_wayUp_30 : decode cX4_wayUp 30 = .ok (.ireturn, 1) := by decide +kernel
theorem dX4_lookedAt_0 : decode cX4_lookedAt 0 = .ok (.aload_n 0, 1) := by decide +kernel
theorem dX4_lookedAt_1 : decode cX4_lookedAt 1 = .ok (.iload_n 1, 1) := by decide +kernel
theorem dX4_lookedAt_2 : decode cX4_lookedAt 2 = .ok (.invokestatic 171, 3) := by decide +kernel
theorem dX4_lookedAt_5 : decode cX4_lookedAt 5 = .ok (.istore_n 2, 1) := by decide +kernel
theorem dX4_lookedAt_6 : decode cX4_lookedAt 6 = .ok (.iload_n 2, 1) := by decide +kernel
theorem dX4_lookedAt_7 : decode cX4_lookedAt 7 = .ok (.iconst (-1), 1) := by decide +kernel
theorem dX4_lookedAt_8 : decode cX4_lookedAt 8 = .ok (.if_icmp .ne 10, 3) := by decide +kernel
theorem dX4_lookedAt_11 : decode cX4_lookedAt 11 = .ok (.aload_n 0, 1) := by decide +kernel
theorem dX4_lookedAt_12 : decode cX4_lookedAt 12 = .ok (.invokestatic 278, 3) := by decide +kernel
theorem dX4_lookedAt_15 : decode cX4_lookedAt 15 = .ok (.goto 6, 3) := by decide +kernel
theorem dX4_lookedAt_18 : decode cX4_lookedAt 18 = .ok (.iload_n 2, 1) := by decide +kernel
theorem dX4_lookedAt_19 : decode cX4_lookedAt 19 = .ok (.iconst 1, 1) := by decide +kernel
theorem dX4_lookedAt_20 : decode cX4_lookedAt 20 = .ok (.iadd, 1) := by decide +kernel
theorem dX4_lookedAt_21 : decode cX4_lookedAt 21 = .ok (.ireturn, 1) := by decide +kernel
theorem dX4_getterOf_0 : decode cX4_getterOf 0 = .ok (.aload_n 0, 1) := by decide +kernel
theorem dX4_getterOf_1 : decode cX4_getterOf 1 = .ok (.iload_n 1, 1) := by decide +kernel
theorem dX4_getterOf_2 : decode cX4_getterOf 2 = .ok (.invokestatic 82, 3) := by decide +kernel
theorem dX4_getterOf_5 : decode cX4_getterOf 5 = .ok (.astore_n 2, 1) := by decide +kernel
theorem dX4_getterOf_6 : decode cX4_getterOf 6 = .ok (.aload_n 2, 1) := by decide +kernel
theorem dX4_getterOf_7 : decode cX4_getterOf 7 = .ok (.ifnonnull 7, 3) := by decide +kernel
theorem dX4_getterOf_10 : decode cX4_getterOf 10 = .ok (.iconst (-1), 1) := by decide +kernel
theorem dX4_getterOf_11 : decode cX4_getterOf 11 = .ok (.goto 9, 3) := by decide +kernel
theorem dX4_getterOf_14 : decode cX4_getterOf 14 = .ok (.aload_n 2, 1) := by decide +kernel
theorem dX4_getterOf_15 : decode cX4_getterOf 15 = .ok (.getfield 281, 3) := by decide +kernel
theorem dX4_getterOf_18 : decode cX4_getterOf 18 = .ok (.iload_n 1, 1) := by decide +kernel
theorem dX4_getterOf_19 : decode cX4_getterOf 19 = .ok (.iaload, 1) := by decide +kernel
theorem dX4_getterOf_20 : decode cX4_getterOf 20 = .ok (.ireturn, 1) := by decide +kernel
theorem dX4_valueOf_0 : decode cX4_valueOf 0 = .ok (.iload_n 2, 1) := by decide +kernel
theorem dX4_valueOf_1 : decode cX4_valueOf 1 = .ok (.istore_n 3, 1) := by decide +kernel
theorem dX4_valueOf_2 : decode cX4_valueOf 2 = .ok (.iconst 0, 1) := by decide +kernel
theorem dX4_valueOf_3 : decode cX4_valueOf 3 = .ok (.istore 4, 2) := by decide +kernel
theorem dX4_valueOf_5 : decode cX4_valueOf 5 = .ok (.aload_n 1, 1) := by decide +kernel
theorem dX4_valueOf_6 : decode cX4_valueOf 6 = .ok (.iload_n 3, 1) := by decide +kernel
theorem dX4_valueOf_7 : decode cX4_valueOf 7 = .ok (.invokestatic 82, 3) := by decide +kernel
theorem dX4_valueOf_10 : decode cX4_valueOf 10 = .ok (.astore 5, 2) := by decide +kernel
theorem dX4_valueOf_12 : decode cX4_valueOf 12 = .ok (.iload 4, 2) := by decide +kernel
theorem dX4_valueOf_14 : decode cX4_valueOf 14 = .ok (.bipush 6, 2) := by decide +kernel
theorem dX4_valueOf_16 : decode cX4_valueOf 16 = .ok (.if_icmp .ge 54, 3) := by decide +kernel
theorem dX4_valueOf_19 : decode cX4_valueOf 19 = .ok (.aload 5, 2) := by decide +kernel
theorem dX4_valueOf_21 : decode cX4_valueOf 21 = .ok (.ifnull 49, 3) := by decide +kernel
theorem dX4_valueOf_24 : decode cX4_valueOf 24 = .ok (.aload 5, 2) := by decide +kernel
theorem dX4_valueOf_26 : decode cX4_valueOf 26 = .ok (.getfield 281, 3) := by decide +kernel
theorem dX4_valueOf_29 : decode cX4_valueOf 29 = .ok (.iload_n 3, 1) := by decide +kernel
theorem dX4_valueOf_30 : decode cX4_valueOf 30 = .ok (.iaload, 1) := by decide +kernel
theorem dX4_valueOf_31 : decode cX4_valueOf 31 = .ok (.iconst (-1), 1) := by decide +kernel
theorem dX4_valueOf_32 : decode cX4_valueOf 32 = .ok (.if_icmp .eq 38, 3) := by decide +kernel
theorem dX4_valueOf_35 : decode cX4_valueOf 35 = .ok (.aload_n 0, 1) := by decide +kernel
theorem dX4_valueOf_36 : decode cX4_valueOf 36 = .ok (.getfield 28, 3) := by decide +kernel
theorem dX4_valueOf_39 : decode cX4_valueOf 39 = .ok (.iload 4, 2) := by decide +kernel
theorem dX4_valueOf_41 : decode cX4_valueOf 41 = .ok (.aload 5, 2) := by decide +kernel
theorem dX4_valueOf_43 : decode cX4_valueOf 43 = .ok (.getfield 94, 3) := by decide +kernel
theorem dX4_valueOf_46 : decode cX4_valueOf 46 = .ok (.iload_n 3, 1) := by decide +kernel
theorem dX4_valueOf_47 : decode cX4_valueOf 47 = .ok (.iaload, 1) := by decide +kernel
theorem dX4_valueOf_48 : decode cX4_valueOf 48 = .ok (.iastore, 1) := by decide +kernel
theorem dX4_valueOf_49 : decode cX4_valueOf 49 = .ok (.iinc 4 1, 3) := by decide +kernel
theorem dX4_valueOf_52 : decode cX4_valueOf 52 = .ok (.aload 5, 2) := by decide +kernel
theorem dX4_valueOf_54 : decode cX4_valueOf 54 = .ok (.getfield 281, 3) := by decide +kernel
theorem dX4_valueOf_57 : decode cX4_valueOf 57 = .ok (.iload_n 3, 1) := by decide +kernel
theorem dX4_valueOf_58 : decode cX4_valueOf 58 = .ok (.iaload, 1) := by decide +kernel
theorem dX4_valueOf_59 : decode cX4_valueOf 59 = .ok (.istore_n 3, 1) := by decide +kernel
theorem dX4_valueOf_60 : decode cX4_valueOf 60 = .ok (.aload_n 1, 1) := by decide +kernel
theorem dX4_valueOf_61 : decode cX4_valueOf 61 = .ok (.iload_n 3, 1) := by decide +kernel
theorem dX4_valueOf_62 : decode cX4_valueOf 62 = .ok (.invokestatic 82, 3) := by decide +kernel
theorem dX4_valueOf_65 : decode cX4_valueOf 65 = .ok (.astore 5, 2) := by decide +kernel
theorem dX4_valueOf_67 : decode cX4_valueOf 67 = .ok (.goto (-55), 3) := by decide +kernel
theorem dX4_valueOf_70 : decode cX4_valueOf 70 = .ok (.aload 5, 2) := by decide +kernel
theorem dX4_valueOf_72 : decode cX4_valueOf 72 = .ok (.ifnonnull 9, 3) := by decide +kernel
theorem dX4_valueOf_75 : decode cX4_valueOf 75 = .ok (.sipush (-1000), 3) := by decide +kernel
theorem dX4_valueOf_78 : decode cX4_valueOf 78 = .ok (.goto 10, 3) := by decide +kernel
theorem dX4_valueOf_81 : decode cX4_valueOf 81 = .ok (.aload 5, 2) := by decide +kernel
theorem dX4_valueOf_83 : decode cX4_valueOf 83 = .ok (.getfield 284, 3) := by decide +kernel
theorem dX4_valueOf_86 : decode cX4_valueOf 86 = .ok (.iload_n 3, 1) := by decide +kernel
theorem dX4_valueOf_87 : decode cX4_valueOf 87 = .ok (.iaload, 1) := by decide +kernel
theorem dX4_valueOf_88 : decode cX4_valueOf 88 = .ok (.istore 6, 2) := by decide +kernel
theorem dX4_valueOf_90 : decode cX4_valueOf 90 = .ok (.iload 4, 2) := by decide +kernel
theorem dX4_valueOf_92 : decode cX4_valueOf 92 = .ok (.iconst 1, 1) := by decide +kernel
theorem dX4_valueOf_93 : decode cX4_valueOf 93 = .ok (.isub, 1) := by decide +kernel
theorem dX4_valueOf_94 : decode cX4_valueOf 94 = .ok (.istore 7, 2) := by decide +kernel
theorem dX4_valueOf_96 : decode cX4_valueOf 96 = .ok (.iload 7, 2) := by decide +kernel
theorem dX4_valueOf_98 : decode cX4_valueOf 98 = .ok (.ifCond .lt 23, 3) := by decide +kernel
theorem dX4_valueOf_101 : decode cX4_valueOf 101 = .ok (.iload 6, 2) := by decide +kernel
theorem dX4_valueOf_103 : decode cX4_valueOf 103 = .ok (.aload_n 0, 1) := by decide +kernel
theorem dX4_valueOf_104 : decode cX4_valueOf 104 = .ok (.getfield 28, 3) := by decide +kernel
theorem dX4_valueOf_107 : decode cX4_valueOf 107 = .ok (.iload 7, 2) := by decide +kernel
theorem dX4_valueOf_109 : decode cX4_valueOf 109 = .ok (.iaload, 1) := by decide +kernel
theorem dX4_valueOf_110 : decode cX4_valueOf 110 = .ok (.invokestatic 95, 3) := by decide +kernel
theorem dX4_valueOf_113 : decode cX4_valueOf 113 = .ok (.istore 6, 2) := by decide +kernel
theorem dX4_valueOf_115 : decode cX4_valueOf 115 = .ok (.iinc 7 (-1), 3) := by decide +kernel
theorem dX4_valueOf_118 : decode cX4_valueOf 118 = .ok (.goto (-22), 3) := by decide +kernel
theorem dX4_valueOf_121 : decode cX4_valueOf 121 = .ok (.iload 6, 2) := by decide +kernel
theorem dX4_valueOf_123 : decode cX4_valueOf 123 = .ok (.ireturn, 1) := by decide +kernel
theorem dX4_writePlain_0 : decode cX4_writePlain 0 = .ok (.aload_n 2, 1) := by decide +kernel
theorem dX4_writePlain_1 : decode cX4_writePlain 1 = .ok (.ifnull 14, 3) := by decide +kernel
theorem dX4_writePlain_4 : decode cX4_writePlain 4 = .ok (.aload_n 2, 1) := by decide +kernel
theorem dX4_writePlain_5 : decode cX4_writePlain 5 = .ok (.iload_n 3, 1) := by decide +kernel
theorem dX4_writePlain_6 : decode cX4_writePlain 6 = .ok (.iconst 4, 1) := by decide +kernel
theorem dX4_writePlain_7 : decode cX4_writePlain 7 = .ok (.invokevirtual 86, 3) := by decide +kernel
theorem dX4_writePlain_10 : decode cX4_writePlain 10 = .ok (.ifCond .eq 5, 3) := by decide +kernel
theorem dX4_writePlain_13 : decode cX4_writePlain 13 = .ok (.iconst 0, 1) := by decide +kernel
theorem dX4_writePlain_14 : decode cX4_writePlain 14 = .ok (.ireturn, 1) := by decide +kernel
theorem dX4_writePlain_15 : decode cX4_writePlain 15 = .ok (.aload_n 2, 1) := by decide +kernel
theorem dX4_writePlain_16 : decode cX4_writePlain 16 = .ok (.aload_n 1, 1) := by decide +kernel
theorem dX4_writePlain_17 : decode cX4_writePlain 17 = .ok (.if_acmp .eq 19, 3) := by decide +kernel
theorem dX4_writePlain_20 : decode cX4_writePlain 20 = .ok (.aload_n 1, 1) := by decide +kernel
theorem dX4_writePlain_21 : decode cX4_writePlain 21 = .ok (.getfield 133, 3) := by decide +kernel
theorem dX4_writePlain_24 : decode cX4_writePlain 24 = .ok (.ifCond .eq 5, 3) := by decide +kernel
theorem dX4_writePlain_27 : decode cX4_writePlain 27 = .ok (.iconst 0, 1) := by decide +kernel
theorem dX4_writePlain_28 : decode cX4_writePlain 28 = .ok (.ireturn, 1) := by decide +kernel
theorem dX4_writePlain_29 : decode cX4_writePlain 29 = .ok (.aload_n 0, 1) := by decide +kernel
theorem dX4_writePlain_30 : decode cX4_writePlain 30 = .ok (.aload_n 1, 1) := by decide +kernel
theorem dX4_writePlain_31 : decode cX4_writePlain 31 = .ok (.iload_n 3, 1) := by decide +kernel
theorem dX4_writePlain_32 : decode cX4_writePlain 32 = .ok (.iconst 1, 1) := by decide +kernel
theorem dX4_writePlain_33 : decode cX4_writePlain 33 = .ok (.invokevirtual 106, 3) := by decide +kernel
theorem dX4_writePlain_36 : decode cX4_writePlain 36 = .ok (.aload_n 1, 1) := by decide +kernel
theorem dX4_writePlain_37 : decode cX4_writePlain 37 = .ok (.iload_n 3, 1) := by decide +kernel
theorem dX4_writePlain_38 : decode cX4_writePlain 38 = .ok (.iload 4, 2) := by decide +kernel
theorem dX4_writePlain_40 : decode cX4_writePlain 40 = .ok (.iconst (-1), 1) := by decide +kernel
theorem dX4_writePlain_41 : decode cX4_writePlain 41 = .ok (.iconst (-1), 1) := by decide +kernel
theorem dX4_writePlain_42 : decode cX4_writePlain 42 = .ok (.iconst 0, 1) := by decide +kernel
theorem dX4_writePlain_43 : decode cX4_writePlain 43 = .ok (.invokevirtual 110, 3) := by decide +kernel
theorem dX4_writePlain_46 : decode cX4_writePlain 46 = .ok (.iconst 1, 1) := by decide +kernel
theorem dX4_writePlain_47 : decode cX4_writePlain 47 = .ok (.ireturn, 1) := by decide +kernel
theorem dX4_hangBeneath_0 : decode cX4_hangBeneath 0 = .ok (.aload_n 0, 1) := by decide +kernel
theorem dX4_hangBeneath_1 : decode cX4_hangBeneath 1 = .ok (.aload_n 1, 1) := by decide +kernel
theorem dX4_hangBeneath_2 : decode cX4_hangBeneath 2 = .ok (.putfield 129, 3) := by decide +kernel
theorem dX4_hangBeneath_5 : decode cX4_hangBeneath 5 = .ok (.aload_n 1, 1) := by decide +kernel
theorem dX4_hangBeneath_6 : decode cX4_hangBeneath 6 = .ok (.ifnull 8, 3) := by decide +kernel
theorem dX4_hangBeneath_9 : decode cX4_hangBeneath 9 = .ok (.aload_n 1, 1) := by decide +kernel
theorem dX4_hangBeneath_10 : decode cX4_hangBeneath 10 = .ok (.iconst 1, 1) := by decide +kernel
theorem dX4_hangBeneath_11 : decode cX4_hangBeneath 11 = .ok (.putfield 287, 3) := by decide +kernel
theorem dX4_hangBeneath_14 : decode cX4_hangBeneath 14 = .ok (.return_, 1) := by decide +kernel
theorem dX4_mayDefine_0 : decode cX4_mayDefine 0 = .ok (.aload_n 0, 1) := by decide +kernel
theorem dX4_mayDefine_1 : decode cX4_mayDefine 1 = .ok (.iload_n 1, 1) := by decide +kernel
theorem dX4_mayDefine_2 : decode cX4_mayDefine 2 = .ok (.invokevirtual 118, 3) := by decide +kernel
theorem dX4_mayDefine_5 : decode cX4_mayDefine 5 = .ok (.ifCond .eq 20, 3) := by decide +kernel
theorem dX4_mayDefine_8 : decode cX4_mayDefine 8 = .ok (.aload_n 0, 1) := by decide +kernel
theorem dX4_mayDefine_9 : decode cX4_mayDefine 9 = .ok (.iload_n 1, 1) := by decide +kernel
theorem dX4_mayDefine_10 : decode cX4_mayDefine 10 = .ok (.iconst 4, 1) := by decide +kernel
theorem dX4_mayDefine_11 : decode cX4_mayDefine 11 = .ok (.invokevirtual 86, 3) := by decide +kernel
theorem dX4_mayDefine_14 : decode cX4_mayDefine 14 = .ok (.ifCond .ne 7, 3) := by decide +kernel
theorem dX4_mayDefine_17 : decode cX4_mayDefine 17 = .ok (.iconst 1, 1) := by decide +kernel
theorem dX4_mayDefine_18 : decode cX4_mayDefine 18 = .ok (.goto 19, 3) := by decide +kernel
theorem dX4_mayDefine_21 : decode cX4_mayDefine 21 = .ok (.iconst 0, 1) := by decide +kernel
theorem dX4_mayDefine_22 : decode cX4_mayDefine 22 = .ok (.goto 15, 3) := by decide +kernel
theorem dX4_mayDefine_25 : decode cX4_mayDefine 25 = .ok (.aload_n 0, 1) := by decide +kernel
theorem dX4_mayDefine_26 : decode cX4_mayDefine 26 = .ok (.getfield 133, 3) := by decide +kernel
theorem dX4_mayDefine_29 : decode cX4_mayDefine 29 = .ok (.ifCond .ne 7, 3) := by decide +kernel
theorem dX4_mayDefine_32 : decode cX4_mayDefine 32 = .ok (.iconst 1, 1) := by decide +kernel
theorem dX4_mayDefine_33 : decode cX4_mayDefine 33 = .ok (.goto 4, 3) := by decide +kernel
theorem dX4_mayDefine_36 : decode cX4_mayDefine 36 = .ok (.iconst 0, 1) := by decide +kernel
theorem dX4_mayDefine_37 : decode cX4_mayDefine 37 = .ok (.ireturn, 1) := by decide +kernel
theorem dX4_putTraits_0 : decode cX4_putTraits 0 = .ok (.aload_n 1, 1) := by decide +kernel
theorem dX4_putTraits_1 : decode cX4_putTraits 1 = .ok (.getfield 290, 3) := by decide +kernel
theorem dX4_putTraits_4 : decode cX4_putTraits 4 = .ok (.iload_n 2, 1) := by decide +kernel
theorem dX4_putTraits_5 : decode cX4_putTraits 5 = .ok (.iaload, 1) := by decide +kernel
theorem dX4_putTraits_6 : decode cX4_putTraits 6 = .ok (.iload_n 3, 1) := by decide +kernel
theorem dX4_putTraits_7 : decode cX4_putTraits 7 = .ok (.if_icmp .ne 4, 3) := by decide +kernel
theorem dX4_putTraits_10 : decode cX4_putTraits 10 = .ok (.return_, 1) := by decide +kernel
theorem dX4_putTraits_11 : decode cX4_putTraits 11 = .ok (.aload_n 1, 1) := by decide +kernel
theorem dX4_putTraits_12 : decode cX4_putTraits 12 = .ok (.iload_n 2, 1) := by decide +kernel
theorem dX4_putTraits_13 : decode cX4_putTraits 13 = .ok (.invokevirtual 118, 3) := by decide +kernel
theorem dX4_putTraits_16 : decode cX4_putTraits 16 = .ok (.ifCond .eq 11, 3) := by decide +kernel
theorem dX4_putTraits_19 : decode cX4_putTraits 19 = .ok (.aload_n 1, 1) := by decide +kernel
theorem dX4_putTraits_20 : decode cX4_putTraits 20 = .ok (.aconst_null, 1) := by decide +kernel
theorem dX4_putTraits_21 : decode cX4_putTraits 21 = .ok (.putfield 62, 3) := by decide +kernel
theorem dX4_putTraits_24 : decode cX4_putTraits 24 = .ok (.goto 25, 3) := by decide +kernel
theorem dX4_putTraits_27 : decode cX4_putTraits 27 = .ok (.aload_n 1, 1) := by decide +kernel
theorem dX4_putTraits_28 : decode cX4_putTraits 28 = .ok (.iload_n 2, 1) := by decide +kernel
theorem dX4_putTraits_29 : decode cX4_putTraits 29 = .ok (.invokevirtual 293, 3) := by decide +kernel
theorem dX4_putTraits_32 : decode cX4_putTraits 32 = .ok (.aload_n 1, 1) := by decide +kernel
theorem dX4_putTraits_33 : decode cX4_putTraits 33 = .ok (.aload_n 0, 1) := by decide +kernel
theorem dX4_putTraits_34 : decode cX4_putTraits 34 = .ok (.getfield 18, 3) := by decide +kernel
theorem dX4_putTraits_37 : decode cX4_putTraits 37 = .ok (.aload_n 1, 1) := by decide +kernel
theorem dX4_putTraits_38 : decode cX4_putTraits 38 = .ok (.getfield 62, 3) := by decide +kernel
theorem dX4_putTraits_41 : decode cX4_putTraits 41 = .ok (.iload_n 2, 1) := by decide +kernel
theorem dX4_putTraits_42 : decode cX4_putTraits 42 = .ok (.iload_n 3, 1) := by decide +kernel
theorem dX4_putTraits_43 : decode cX4_putTraits 43 = .ok (.invokevirtual 296, 3) := by decide +kernel
theorem dX4_putTraits_46 : decode cX4_putTraits 46 = .ok (.putfield 62, 3) := by decide +kernel
theorem dX4_putTraits_49 : decode cX4_putTraits 49 = .ok (.aload_n 1, 1) := by decide +kernel
theorem dX4_putTraits_50 : decode cX4_putTraits 50 = .ok (.getfield 290, 3) := by decide +kernel
theorem dX4_putTraits_53 : decode cX4_putTraits 53 = .ok (.iload_n 2, 1) := by decide +kernel
theorem dX4_putTraits_54 : decode cX4_putTraits 54 = .ok (.iload_n 3, 1) := by decide +kernel
theorem dX4_putTraits_55 : decode cX4_putTraits 55 = .ok (.iastore, 1) := by decide +kernel
theorem dX4_putTraits_56 : decode cX4_putTraits 56 = .ok (.aload_n 0, 1) := by decide +kernel
theorem dX4_putTraits_57 : decode cX4_putTraits 57 = .ok (.aload_n 1, 1) := by decide +kernel
theorem dX4_putTraits_58 : decode cX4_putTraits 58 = .ok (.invokevirtual 125, 3) := by decide +kernel
theorem dX4_putTraits_61 : decode cX4_putTraits 61 = .ok (.return_, 1) := by decide +kernel
theorem dX4_freeze_0 : decode cX4_freeze 0 = .ok (.iconst 0, 1) := by decide +kernel
theorem dX4_freeze_1 : decode cX4_freeze 1 = .ok (.istore_n 2, 1) := by decide +kernel
theorem dX4_freeze_2 : decode cX4_freeze 2 = .ok (.iconst 0, 1) := by decide +kernel
theorem dX4_freeze_3 : decode cX4_freeze 3 = .ok (.istore_n 3, 1) := by decide +kernel
theorem dX4_freeze_4 : decode cX4_freeze 4 = .ok (.iload_n 3, 1) := by decide +kernel
theorem dX4_freeze_5 : decode cX4_freeze 5 = .ok (.bipush 12, 2) := by decide +kernel
theorem dX4_freeze_7 : decode cX4_freeze 7 = .ok (.if_icmp .ge 52, 3) := by decide +kernel
theorem dX4_freeze_10 : decode cX4_freeze 10 = .ok (.aload_n 1, 1) := by decide +kernel
theorem dX4_freeze_11 : decode cX4_freeze 11 = .ok (.iload_n 3, 1) := by decide +kernel
theorem dX4_freeze_12 : decode cX4_freeze 12 = .ok (.invokevirtual 118, 3) := by decide +kernel
theorem dX4_freeze_15 : decode cX4_freeze 15 = .ok (.ifCond .eq 38, 3) := by decide +kernel
theorem dX4_freeze_18 : decode cX4_freeze 18 = .ok (.aload_n 1, 1) := by decide +kernel
theorem dX4_freeze_19 : decode cX4_freeze 19 = .ok (.iload_n 3, 1) := by decide +kernel
theorem dX4_freeze_20 : decode cX4_freeze 20 = .ok (.iconst 2, 1) := by decide +kernel
theorem dX4_freeze_21 : decode cX4_freeze 21 = .ok (.invokevirtual 86, 3) := by decide +kernel
theorem dX4_freeze_24 : decode cX4_freeze 24 = .ok (.ifCond .ne 29, 3) := by decide +kernel
theorem dX4_freeze_27 : decode cX4_freeze 27 = .ok (.aload_n 1, 1) := by decide +kernel
theorem dX4_freeze_28 : decode cX4_freeze 28 = .ok (.iload_n 3, 1) := by decide +kernel
theorem dX4_freeze_29 : decode cX4_freeze 29 = .ok (.iconst 4, 1) := by decide +kernel
theorem dX4_freeze_30 : decode cX4_freeze 30 = .ok (.invokevirtual 86, 3) := by decide +kernel
theorem dX4_freeze_33 : decode cX4_freeze 33 = .ok (.ifCond .ne 20, 3) := by decide +kernel
theorem dX4_freeze_36 : decode cX4_freeze 36 = .ok (.aload_n 0, 1) := by decide +kernel
theorem dX4_freeze_37 : decode cX4_freeze 37 = .ok (.aload_n 1, 1) := by decide +kernel
theorem dX4_freeze_38 : decode cX4_freeze 38 = .ok (.iload_n 3, 1) := by decide +kernel
theorem dX4_freeze_39 : decode cX4_freeze 39 = .ok (.aload_n 1, 1) := by decide +kernel
theorem dX4_freeze_40 : decode cX4_freeze 40 = .ok (.getfield 290, 3) := by decide +kernel
theorem dX4_freeze_43 : decode cX4_freeze 43 = .ok (.iload_n 3, 1) := by decide +kernel
theorem dX4_freeze_44 : decode cX4_freeze 44 = .ok (.iaload, 1) := by decide +kernel
theorem dX4_freeze_45 : decode cX4_freeze 45 = .ok (.iconst 4, 1) := by decide +kernel
theorem dX4_freeze_46 : decode cX4_freeze 46 = .ok (.ior, 1) := by decide +kernel
theorem dX4_freeze_47 : decode cX4_freeze 47 = .ok (.invokevirtual 106, 3) := by decide +kernel
theorem dX4_freeze_50 : decode cX4_freeze 50 = .ok (.iinc 2 1, 3) := by decide +kernel
theorem dX4_freeze_53 : decode cX4_freeze 53 = .ok (.iinc 3 1, 3) := by decide +kernel
theorem dX4_freeze_56 : decode cX4_freeze 56 = .ok (.goto (-52), 3) := by decide +kernel
theorem dX4_freeze_59 : decode cX4_freeze 59 = .ok (.iload_n 2, 1) := by decide +kernel
theorem dX4_freeze_60 : decode cX4_freeze 60 = .ok (.ireturn, 1) := by decide +kernel
theorem dX4_canSettle_0 : decode cX4_canSettle 0 = .ok (.aload_n 0, 1) := by decide +kernel
theorem dX4_canSettle_1 : decode cX4_canSettle 1 = .ok (.getfield 62, 3) := by decide +kernel
theorem dX4_canSettle_4 : decode cX4_canSettle 4 = .ok (.ifnonnull 16, 3) := by decide +kernel
theorem dX4_canSettle_7 : decode cX4_canSettle 7 = .ok (.aload_n 0, 1) := by decide +kernel
theorem dX4_canSettle_8 : decode cX4_canSettle 8 = .ok (.getfield 141, 3) := by decide +kernel
theorem dX4_canSettle_11 : decode cX4_canSettle 11 = .ok (.bipush 8, 2) := by decide +kernel
theorem dX4_canSettle_13 : decode cX4_canSettle 13 = .ok (.if_icmp .gt 7, 3) := by decide +kernel
theorem dX4_canSettle_16 : decode cX4_canSettle 16 = .ok (.iconst 1, 1) := by decide +kernel
theorem dX4_canSettle_17 : decode cX4_canSettle 17 = .ok (.goto 4, 3) := by decide +kernel
theorem dX4_canSettle_20 : decode cX4_canSettle 20 = .ok (.iconst 0, 1) := by decide +kernel
theorem dX4_canSettle_21 : decode cX4_canSettle 21 = .ok (.ireturn, 1) := by decide +kernel
theorem dX4_settledShape_0 : decode cX4_settledShape 0 = .ok (.aload_n 0, 1) := by decide +kernel
theorem dX4_settledShape_1 : decode cX4_settledShape 1 = .ok (.getfield 18, 3) := by decide +kernel
theorem dX4_settledShape_4 : decode cX4_settledShape 4 = .ok (.aload_n 1, 1) := by decide +kernel
theorem dX4_settledShape_5 : decode cX4_settledShape 5 = .ok (.getfield 129, 3) := by decide +kernel
theorem dX4_settledShape_8 : decode cX4_settledShape 8 = .ok (.invokevirtual 58, 3) := by decide +kernel
theorem dX4_settledShape_11 : decode cX4_settledShape 11 = .ok (.astore_n 2, 1) := by decide +kernel
theorem dX4_settledShape_12 : decode cX4_settledShape 12 = .ok (.iconst 0, 1) := by decide +kernel
theorem dX4_settledShape_13 : decode cX4_settledShape 13 = .ok (.istore_n 3, 1) := by decide +kernel
theorem dX4_settledShape_14 : decode cX4_settledShape 14 = .ok (.iload_n 3, 1) := by decide +kernel
theorem dX4_settledShape_15 : decode cX4_settledShape 15 = .ok (.aload_n 1, 1) := by decide +kernel
theorem dX4_settledShape_16 : decode cX4_settledShape 16 = .ok (.getfield 141, 3) := by decide +kernel
theorem dX4_settledShape_19 : decode cX4_settledShape 19 = .ok (.if_icmp .ge 35, 3) := by decide +kernel
theorem dX4_settledShape_22 : decode cX4_settledShape 22 = .ok (.aload_n 1, 1) := by decide +kernel
theorem dX4_settledShape_23 : decode cX4_settledShape 23 = .ok (.getfield 300, 3) := by decide +kernel
theorem dX4_settledShape_26 : decode cX4_settledShape 26 = .ok (.iload_n 3, 1) := by decide +kernel
theorem dX4_settledShape_27 : decode cX4_settledShape 27 = .ok (.iaload, 1) := by decide +kernel
theorem dX4_settledShape_28 : decode cX4_settledShape 28 = .ok (.istore 4, 2) := by decide +kernel
theorem dX4_settledShape_30 : decode cX4_settledShape 30 = .ok (.aload_n 0, 1) := by decide +kernel
theorem dX4_settledShape_31 : decode cX4_settledShape 31 = .ok (.getfield 18, 3) := by decide +kernel
theorem dX4_settledShape_34 : decode cX4_settledShape 34 = .ok (.aload_n 2, 1) := by decide +kernel
theorem dX4_settledShape_35 : decode cX4_settledShape 35 = .ok (.iload 4, 2) := by decide +kernel
theorem dX4_settledShape_37 : decode cX4_settledShape 37 = .ok (.aload_n 1, 1) := by decide +kernel
theorem dX4_settledShape_38 : decode cX4_settledShape 38 = .ok (.getfield 290, 3) := by decide +kernel
theorem dX4_settledShape_41 : decode cX4_settledShape 41 = .ok (.iload 4, 2) := by decide +kernel
theorem dX4_settledShape_43 : decode cX4_settledShape 43 = .ok (.iaload, 1) := by decide +kernel
theorem dX4_settledShape_44 : decode cX4_settledShape 44 = .ok (.invokevirtual 296, 3) := by decide +kernel
theorem dX4_settledShape_47 : decode cX4_settledShape 47 = .ok (.astore_n 2, 1) := by decide +kernel
theorem dX4_settledShape_48 : decode cX4_settledShape 48 = .ok (.iinc 3 1, 3) := by decide +kernel
theorem dX4_settledShape_51 : decode cX4_settledShape 51 = .ok (.goto (-37), 3) := by decide +kernel
theorem dX4_settledShape_54 : decode cX4_settledShape 54 = .ok (.aload_n 2, 1) := by decide +kernel
theorem dX4_settledShape_55 : decode cX4_settledShape 55 = .ok (.areturn, 1) := by decide +kernel
theorem dX4_dropEntries_0 : decode cX4_dropEntries 0 = .ok (.aload_n 1, 1) := by decide +kernel
theorem dX4_dropEntries_1 : decode cX4_dropEntries 1 = .ok (.getfield 287, 3) := by decide +kernel
theorem dX4_dropEntries_4 : decode cX4_dropEntries 4 = .ok (.ifCond .ne 4, 3) := by decide +kernel
theorem dX4_dropEntries_7 : decode cX4_dropEntries 7 = .ok (.return_, 1) := by decide +kernel
theorem dX4_dropEntries_8 : decode cX4_dropEntries 8 = .ok (.iconst 0, 1) := by decide +kernel
theorem dX4_dropEntries_9 : decode cX4_dropEntries 9 = .ok (.istore_n 2, 1) := by decide +kernel
theorem dX4_dropEntries_10 : decode cX4_dropEntries 10 = .ok (.iload_n 2, 1) := by decide +kernel
theorem dX4_dropEntries_11 : decode cX4_dropEntries 11 = .ok (.bipush 6, 2) := by decide +kernel
theorem dX4_dropEntries_13 : decode cX4_dropEntries 13 = .ok (.if_icmp .ge 68, 3) := by decide +kernel
theorem dX4_dropEntries_16 : decode cX4_dropEntries 16 = .ok (.aload_n 0, 1) := by decide +kernel
theorem dX4_dropEntries_17 : decode cX4_dropEntries 17 = .ok (.getfield 24, 3) := by decide +kernel
theorem dX4_dropEntries_20 : decode cX4_dropEntries 20 = .ok (.iload_n 2, 1) := by decide +kernel
theorem dX4_dropEntries_21 : decode cX4_dropEntries 21 = .ok (.aaload, 1) := by decide +kernel
theorem dX4_dropEntries_22 : decode cX4_dropEntries 22 = .ok (.astore_n 3, 1) := by decide +kernel
theorem dX4_dropEntries_23 : decode cX4_dropEntries 23 = .ok (.aload_n 3, 1) := by decide +kernel
theorem dX4_dropEntries_24 : decode cX4_dropEntries 24 = .ok (.getfield 186, 3) := by decide +kernel
theorem dX4_dropEntries_27 : decode cX4_dropEntries 27 = .ok (.iconst 1, 1) := by decide +kernel
theorem dX4_dropEntries_28 : decode cX4_dropEntries 28 = .ok (.isub, 1) := by decide +kernel
theorem dX4_dropEntries_29 : decode cX4_dropEntries 29 = .ok (.istore 4, 2) := by decide +kernel
theorem dX4_dropEntries_31 : decode cX4_dropEntries 31 = .ok (.iload 4, 2) := by decide +kernel
theorem dX4_dropEntries_33 : decode cX4_dropEntries 33 = .ok (.ifCond .lt 42, 3) := by decide +kernel
theorem dX4_dropEntries_36 : decode cX4_dropEntries 36 = .ok (.aload_n 3, 1) := by decide +kernel
theorem dX4_dropEntries_37 : decode cX4_dropEntries 37 = .ok (.getfield 303, 3) := by decide +kernel
theorem dX4_dropEntries_40 : decode cX4_dropEntries 40 = .ok (.iload 4, 2) := by decide +kernel
theorem dX4_dropEntries_42 : decode cX4_dropEntries 42 = .ok (.aaload, 1) := by decide +kernel
theorem dX4_dropEntries_43 : decode cX4_dropEntries 43 = .ok (.getfield 304, 3) := by decide +kernel
theorem dX4_dropEntries_46 : decode cX4_dropEntries 46 = .ok (.aload_n 1, 1) := by decide +kernel
theorem dX4_dropEntries_47 : decode cX4_dropEntries 47 = .ok (.invokestatic 137, 3) := by decide +kernel
theorem dX4_dropEntries_50 : decode cX4_dropEntries 50 = .ok (.ifCond .eq 19, 3) := by decide +kernel
theorem dX4_dropEntries_53 : decode cX4_dropEntries 53 = .ok (.aload_n 3, 1) := by decide +kernel
theorem dX4_dropEntries_54 : decode cX4_dropEntries 54 = .ok (.iload 4, 2) := by decide +kernel
theorem dX4_dropEntries_56 : decode cX4_dropEntries 56 = .ok (.invokevirtual 309, 3) := by decide +kernel
theorem dX4_dropEntries_59 : decode cX4_dropEntries 59 = .ok (.aload_n 3, 1) := by decide +kernel
theorem dX4_dropEntries_60 : decode cX4_dropEntries 60 = .ok (.dup, 1) := by decide +kernel
theorem dX4_dropEntries_61 : decode cX4_dropEntries 61 = .ok (.getfield 310, 3) := by decide +kernel
theorem dX4_dropEntries_64 : decode cX4_dropEntries 64 = .ok (.iconst 1, 1) := by decide +kernel
theorem dX4_dropEntries_65 : decode cX4_dropEntries 65 = .ok (.iadd, 1) := by decide +kernel
theorem dX4_dropEntries_66 : decode cX4_dropEntries 66 = .ok (.putfield 310, 3) := by decide +kernel
theorem dX4_dropEntries_69 : decode cX4_dropEntries 69 = .ok (.iinc 4 (-1), 3) := by decide +kernel
theorem dX4_dropEntries_72 : decode cX4_dropEntries 72 = .ok (.goto (-41), 3) := by decide +kernel
theorem dX4_dropEntries_75 : decode cX4_dropEntries 75 = .ok (.iinc 2 1, 3) := by decide +kernel
theorem dX4_dropEntries_78 : decode cX4_dropEntries 78 = .ok (.goto (-68), 3) := by decide +kernel
theorem dX4_dropEntries_81 : decode cX4_dropEntries 81 = .ok (.return_, 1) := by decide +kernel
theorem dX4_droppable_0 : decode cX4_droppable 0 = .ok (.aload_n 1, 1) := by decide +kernel
theorem dX4_droppable_1 : decode cX4_droppable 1 = .ok (.getfield 287, 3) := by decide +kernel
theorem dX4_droppable_4 : decode cX4_droppable 4 = .ok (.ifCond .ne 5, 3) := by decide +kernel
theorem dX4_droppable_7 : decode cX4_droppable 7 = .ok (.iconst 0, 1) := by decide +kernel
theorem dX4_droppable_8 : decode cX4_droppable 8 = .ok (.ireturn, 1) := by decide +kernel
theorem dX4_droppable_9 : decode cX4_droppable 9 = .ok (.iconst 0, 1) := by decide +kernel
theorem dX4_droppable_10 : decode cX4_droppable 10 = .ok (.istore_n 2, 1) := by decide +kernel
theorem dX4_droppable_11 : decode cX4_droppable 11 = .ok (.iconst 0, 1) := by decide +kernel
theorem dX4_droppable_12 : decode cX4_droppable 12 = .ok (.istore_n 3, 1) := by decide +kernel
theorem dX4_droppable_13 : decode cX4_droppable 13 = .ok (.iload_n 3, 1) := by decide +kernel
theorem dX4_droppable_14 : decode cX4_droppable 14 = .ok (.bipush 6, 2) := by decide +kernel
theorem dX4_droppable_16 : decode cX4_droppable 16 = .ok (.if_icmp .ge 57, 3) := by decide +kernel
theorem dX4_droppable_19 : decode cX4_droppable 19 = .ok (.aload_n 0, 1) := by decide +kernel
theorem dX4_droppable_20 : decode cX4_droppable 20 = .ok (.getfield 24, 3) := by decide +kernel
theorem dX4_droppable_23 : decode cX4_droppable 23 = .ok (.iload_n 3, 1) := by decide +kernel
theorem dX4_droppable_24 : decode cX4_droppable 24 = .ok (.aaload, 1) := by decide +kernel
theorem dX4_droppable_25 : decode cX4_droppable 25 = .ok (.astore 4, 2) := by decide +kernel
theorem dX4_droppable_27 : decode cX4_droppable 27 = .ok (.iconst 0, 1) := by decide +kernel
theorem dX4_droppable_28 : decode cX4_droppable 28 = .ok (.istore 5, 2) := by decide +kernel
theorem dX4_droppable_30 : decode cX4_droppable 30 = .ok (.iload 5, 2) := by decide +kernel
theorem dX4_droppable_32 : decode cX4_droppable 32 = .ok (.aload 4, 2) := by decide +kernel
theorem dX4_droppable_34 : decode cX4_droppable 34 = .ok (.getfield 186, 3) := by decide +kernel
theorem dX4_droppable_37 : decode cX4_droppable 37 = .ok (.if_icmp .ge 30, 3) := by decide +kernel
theorem dX4_droppable_40 : decode cX4_droppable 40 = .ok (.aload 4, 2) := by decide +kernel
theorem dX4_droppable_42 : decode cX4_droppable 42 = .ok (.getfield 303, 3) := by decide +kernel
theorem dX4_droppable_45 : decode cX4_droppable 45 = .ok (.iload 5, 2) := by decide +kernel
theorem dX4_droppable_47 : decode cX4_droppable 47 = .ok (.aaload, 1) := by decide +kernel
theorem dX4_droppable_48 : decode cX4_droppable 48 = .ok (.getfield 304, 3) := by decide +kernel
theorem dX4_droppable_51 : decode cX4_droppable 51 = .ok (.aload_n 1, 1) := by decide +kernel
theorem dX4_droppable_52 : decode cX4_droppable 52 = .ok (.invokestatic 137, 3) := by decide +kernel
theorem dX4_droppable_55 : decode cX4_droppable 55 = .ok (.ifCond .eq 6, 3) := by decide +kernel
theorem dX4_droppable_58 : decode cX4_droppable 58 = .ok (.iinc 2 1, 3) := by decide +kernel
theorem dX4_droppable_61 : decode cX4_droppable 61 = .ok (.iinc 5 1, 3) := by decide +kernel
theorem dX4_droppable_64 : decode cX4_droppable 64 = .ok (.goto (-34), 3) := by decide +kernel
theorem dX4_droppable_67 : decode cX4_droppable 67 = .ok (.iinc 3 1, 3) := by decide +kernel
theorem dX4_droppable_70 : decode cX4_droppable 70 = .ok (.goto (-57), 3) := by decide +kernel
theorem dX4_droppable_73 : decode cX4_droppable 73 = .ok (.iload_n 2, 1) := by decide +kernel
theorem dX4_droppable_74 : decode cX4_droppable 74 = .ok (.ireturn, 1) := by decide +kernel
theorem dX4_costAt_0 : decode cX4_costAt 0 = .ok (.aload_n 0, 1) := by decide +kernel
theorem dX4_costAt_1 : decode cX4_costAt 1 = .ok (.aload_n 1, 1) := by decide +kernel
theorem dX4_costAt_2 : decode cX4_costAt 2 = .ok (.getfield 62, 3) := by decide +kernel
theorem dX4_costAt_5 : decode cX4_costAt 5 = .ok (.iload_n 2, 1) := by decide +kernel
theorem dX4_costAt_6 : decode cX4_costAt 6 = .ok (.invokevirtual 159, 3) := by decide +kernel
theorem dX4_costAt_9 : decode cX4_costAt 9 = .ok (.ifCond .eq 7, 3) := by decide +kernel
theorem dX4_costAt_12 : decode cX4_costAt 12 = .ok (.iconst 1, 1) := by decide +kernel
theorem dX4_costAt_13 : decode cX4_costAt 13 = .ok (.goto 10, 3) := by decide +kernel
theorem dX4_costAt_16 : decode cX4_costAt 16 = .ok (.iconst 4, 1) := by decide +kernel
theorem dX4_costAt_17 : decode cX4_costAt 17 = .ok (.aload_n 1, 1) := by decide +kernel
theorem dX4_costAt_18 : decode cX4_costAt 18 = .ok (.iload_n 2, 1) := by decide +kernel
theorem dX4_costAt_19 : decode cX4_costAt 19 = .ok (.invokestatic 313, 3) := by decide +kernel
theorem dX4_costAt_22 : decode cX4_costAt 22 = .ok (.iadd, 1) := by decide +kernel
theorem dX4_costAt_23 : decode cX4_costAt 23 = .ok (.istore_n 3, 1) := by decide +kernel
theorem dX4_costAt_24 : decode cX4_costAt 24 = .ok (.aload_n 1, 1) := by decide +kernel
theorem dX4_costAt_25 : decode cX4_costAt 25 = .ok (.iload_n 2, 1) := by decide +kernel
theorem dX4_costAt_26 : decode cX4_costAt 26 = .ok (.invokestatic 316, 3) := by decide +kernel
theorem dX4_costAt_29 : decode cX4_costAt 29 = .ok (.istore 4, 2) := by decide +kernel
theorem dX4_costAt_31 : decode cX4_costAt 31 = .ok (.iconst 0, 1) := by decide +kernel
theorem dX4_costAt_32 : decode cX4_costAt 32 = .ok (.istore 5, 2) := by decide +kernel
theorem dX4_costAt_34 : decode cX4_costAt 34 = .ok (.iload 5, 2) := by decide +kernel
theorem dX4_costAt_36 : decode cX4_costAt 36 = .ok (.bipush 6, 2) := by decide +kernel
theorem dX4_costAt_38 : decode cX4_costAt 38 = .ok (.if_icmp .ge 34, 3) := by decide +kernel
theorem dX4_costAt_41 : decode cX4_costAt 41 = .ok (.iload 4, 2) := by decide +kernel
theorem dX4_costAt_43 : decode cX4_costAt 43 = .ok (.iconst (-1), 1) := by decide +kernel
theorem dX4_costAt_44 : decode cX4_costAt 44 = .ok (.if_icmp .eq 28, 3) := by decide +kernel
theorem dX4_costAt_47 : decode cX4_costAt 47 = .ok (.iload_n 3, 1) := by decide +kernel
theorem dX4_costAt_48 : decode cX4_costAt 48 = .ok (.iconst 2, 1) := by decide +kernel
theorem dX4_costAt_49 : decode cX4_costAt 49 = .ok (.aload_n 1, 1) := by decide +kernel
theorem dX4_costAt_50 : decode cX4_costAt 50 = .ok (.iload 4, 2) := by decide +kernel
theorem dX4_costAt_52 : decode cX4_costAt 52 = .ok (.invokestatic 313, 3) := by decide +kernel
theorem dX4_costAt_55 : decode cX4_costAt 55 = .ok (.iadd, 1) := by decide +kernel
theorem dX4_costAt_56 : decode cX4_costAt 56 = .ok (.iadd, 1) := by decide +kernel
theorem dX4_costAt_57 : decode cX4_costAt 57 = .ok (.istore_n 3, 1) := by decide +kernel
theorem dX4_costAt_58 : decode cX4_costAt 58 = .ok (.aload_n 1, 1) := by decide +kernel
theorem dX4_costAt_59 : decode cX4_costAt 59 = .ok (.iload 4, 2) := by decide +kernel
theorem dX4_costAt_61 : decode cX4_costAt 61 = .ok (.invokestatic 316, 3) := by decide +kernel
theorem dX4_costAt_64 : decode cX4_costAt 64 = .ok (.istore 4, 2) := by decide +kernel
theorem dX4_costAt_66 : decode cX4_costAt 66 = .ok (.iinc 5 1, 3) := by decide +kernel
theorem dX4_costAt_69 : decode cX4_costAt 69 = .ok (.goto (-35), 3) := by decide +kernel
theorem dX4_costAt_72 : decode cX4_costAt 72 = .ok (.iload_n 3, 1) := by decide +kernel
theorem dX4_costAt_73 : decode cX4_costAt 73 = .ok (.ireturn, 1) := by decide +kernel
theorem dX4_looseWords_0 : decode cX4_looseWords 0 = .ok (.iconst 3, 1) := by decide +kernel
theorem dX4_looseWords_1 : decode cX4_looseWords 1 = .ok (.iconst 3, 1) := by decide +kernel
theorem dX4_looseWords_2 : decode cX4_looseWords 2 = .ok (.aload_n 0, 1) := by decide +kernel
theorem dX4_looseWords_3 : decode cX4_looseWords 3 = .ok (.getfield 141, 3) := by decide +kernel
theorem dX4_looseWords_6 : decode cX4_looseWords 6 = .ok (.imul, 1) := by decide +kernel
theorem dX4_looseWords_7 : decode cX4_looseWords 7 = .ok (.iadd, 1) := by decide +kernel
theorem dX4_looseWords_8 : decode cX4_looseWords 8 = .ok (.ireturn, 1) := by decide +kernel
theorem dX4_shapedWords_0 : decode cX4_shapedWords 0 = .ok (.iconst 3, 1) := by decide +kernel
theorem dX4_shapedWords_1 : decode cX4_shapedWords 1 = .ok (.aload_n 0, 1) := by decide +kernel
theorem dX4_shapedWords_2 : decode cX4_shapedWords 2 = .ok (.getfield 141, 3) := by decide +kernel
theorem dX4_shapedWords_5 : decode cX4_shapedWords 5 = .ok (.iadd, 1) := by decide +kernel
theorem dX4_shapedWords_6 : decode cX4_shapedWords 6 = .ok (.aload_n 0, 1) := by decide +kernel
theorem dX4_shapedWords_7 : decode cX4_shapedWords 7 = .ok (.invokevirtual 319, 3) := by decide +kernel
theorem dX4_shapedWords_10 : decode cX4_shapedWords 10 = .ok (.iadd, 1) := by decide +kernel
theorem dX4_shapedWords_11 : decode cX4_shapedWords 11 = .ok (.ireturn, 1) := by decide +kernel
theorem dX4_wordsOf_0 : decode cX4_wordsOf 0 = .ok (.aload_n 0, 1) := by decide +kernel
theorem dX4_wordsOf_1 : decode cX4_wordsOf 1 = .ok (.getfield 62, 3) := by decide +kernel
theorem dX4_wordsOf_4 : decode cX4_wordsOf 4 = .ok (.ifnonnull 10, 3) := by decide +kernel
theorem dX4_wordsOf_7 : decode cX4_wordsOf 7 = .ok (.aload_n 0, 1) := by decide +kernel
theorem dX4_wordsOf_8 : decode cX4_wordsOf 8 = .ok (.invokestatic 323, 3) := by decide +kernel
theorem dX4_wordsOf_11 : decode cX4_wordsOf 11 = .ok (.goto 7, 3) := by decide +kernel
theorem dX4_wordsOf_14 : decode cX4_wordsOf 14 = .ok (.aload_n 0, 1) := by decide +kernel
theorem dX4_wordsOf_15 : decode cX4_wordsOf 15 = .ok (.invokestatic 326, 3) := by decide +kernel
theorem dX4_wordsOf_18 : decode cX4_wordsOf 18 = .ok (.ireturn, 1) := by decide +kernel
theorem dX4_missingShapes_0 : decode cX4_missingShapes 0 = .ok (.aload_n 0, 1) := by decide +kernel
theorem dX4_missingShapes_1 : decode cX4_missingShapes 1 = .ok (.getfield 18, 3) := by decide +kernel
theorem dX4_missingShapes_4 : decode cX4_missingShapes 4 = .ok (.aload_n 1, 1) := by decide +kernel
theorem dX4_missingShapes_5 : decode cX4_missingShapes 5 = .ok (.getfield 129, 3) := by decide +kernel
theorem dX4_missingShapes_8 : decode cX4_missingShapes 8 = .ok (.invokevirtual 329, 3) := by decide +kernel
theorem dX4_missingShapes_11 : decode cX4_missingShapes 11 = .ok (.astore_n 2, 1) := by decide +kernel
theorem dX4_missingShapes_12 : decode cX4_missingShapes 12 = .ok (.aload_n 2, 1) := by decide +kernel
theorem dX4_missingShapes_13 : decode cX4_missingShapes 13 = .ok (.ifnonnull 7, 3) := by decide +kernel
theorem dX4_missingShapes_16 : decode cX4_missingShapes 16 = .ok (.iconst 1, 1) := by decide +kernel
theorem dX4_missingShapes_17 : decode cX4_missingShapes 17 = .ok (.goto 4, 3) := by decide +kernel
theorem dX4_missingShapes_20 : decode cX4_missingShapes 20 = .ok (.iconst 0, 1) := by decide +kernel
theorem dX4_missingShapes_21 : decode cX4_missingShapes 21 = .ok (.istore_n 3, 1) := by decide +kernel
theorem dX4_missingShapes_22 : decode cX4_missingShapes 22 = .ok (.iconst 0, 1) := by decide +kernel
theorem dX4_missingShapes_23 : decode cX4_missingShapes 23 = .ok (.istore 4, 2) := by decide +kernel
theorem dX4_missingShapes_25 : decode cX4_missingShapes 25 = .ok (.iload 4, 2) := by decide +kernel
theorem dX4_missingShapes_27 : decode cX4_missingShapes 27 = .ok (.aload_n 1, 1) := by decide +kernel
theorem dX4_missingShapes_28 : decode cX4_missingShapes 28 = .ok (.getfield 141, 3) := by decide +kernel
theorem dX4_missingShapes_31 : decode cX4_missingShapes 31 = .ok (.if_icmp .ge 51, 3) := by decide +kernel
theorem dX4_missingShapes_34 : decode cX4_missingShapes 34 = .ok (.aload_n 1, 1) := by decide +kernel
theorem dX4_missingShapes_35 : decode cX4_missingShapes 35 = .ok (.getfield 300, 3) := by decide +kernel
theorem dX4_missingShapes_38 : decode cX4_missingShapes 38 = .ok (.iload 4, 2) := by decide +kernel
theorem dX4_missingShapes_40 : decode cX4_missingShapes 40 = .ok (.iaload, 1) := by decide +kernel
theorem dX4_missingShapes_41 : decode cX4_missingShapes 41 = .ok (.istore 5, 2) := by decide +kernel
theorem dX4_missingShapes_43 : decode cX4_missingShapes 43 = .ok (.aload_n 2, 1) := by decide +kernel
theorem dX4_missingShapes_44 : decode cX4_missingShapes 44 = .ok (.ifnonnull 7, 3) := by decide +kernel
theorem dX4_missingShapes_47 : decode cX4_missingShapes 47 = .ok (.aconst_null, 1) := by decide +kernel
theorem dX4_missingShapes_48 : decode cX4_missingShapes 48 = .ok (.goto 20, 3) := by decide +kernel
theorem dX4_missingShapes_51 : decode cX4_missingShapes 51 = .ok (.aload_n 0, 1) := by decide +kernel
theorem dX4_missingShapes_52 : decode cX4_missingShapes 52 = .ok (.getfield 18, 3) := by decide +kernel
theorem dX4_missingShapes_55 : decode cX4_missingShapes 55 = .ok (.aload_n 2, 1) := by decide +kernel
theorem dX4_missingShapes_56 : decode cX4_missingShapes 56 = .ok (.iload 5, 2) := by decide +kernel
theorem dX4_missingShapes_58 : decode cX4_missingShapes 58 = .ok (.aload_n 1, 1) := by decide +kernel
theorem dX4_missingShapes_59 : decode cX4_missingShapes 59 = .ok (.getfield 290, 3) := by decide +kernel
theorem dX4_missingShapes_62 : decode cX4_missingShapes 62 = .ok (.iload 5, 2) := by decide +kernel
theorem dX4_missingShapes_64 : decode cX4_missingShapes 64 = .ok (.iaload, 1) := by decide +kernel
theorem dX4_missingShapes_65 : decode cX4_missingShapes 65 = .ok (.invokevirtual 332, 3) := by decide +kernel
theorem dX4_missingShapes_68 : decode cX4_missingShapes 68 = .ok (.astore_n 2, 1) := by decide +kernel
theorem dX4_missingShapes_69 : decode cX4_missingShapes 69 = .ok (.aload_n 2, 1) := by decide +kernel
theorem dX4_missingShapes_70 : decode cX4_missingShapes 70 = .ok (.ifnonnull 6, 3) := by decide +kernel
theorem dX4_missingShapes_73 : decode cX4_missingShapes 73 = .ok (.iinc 3 1, 3) := by decide +kernel
theorem dX4_missingShapes_76 : decode cX4_missingShapes 76 = .ok (.iinc 4 1, 3) := by decide +kernel
theorem dX4_missingShapes_79 : decode cX4_missingShapes 79 = .ok (.goto (-54), 3) := by decide +kernel
theorem dX4_missingShapes_82 : decode cX4_missingShapes 82 = .ok (.iload_n 3, 1) := by decide +kernel
theorem dX4_missingShapes_83 : decode cX4_missingShapes 83 = .ok (.ireturn, 1) := by decide +kernel
theorem dX4_saving_0 : decode cX4_saving 0 = .ok (.aload_n 1, 1) := by decide +kernel
theorem dX4_saving_1 : decode cX4_saving 1 = .ok (.invokestatic 148, 3) := by decide +kernel
theorem dX4_saving_4 : decode cX4_saving 4 = .ok (.ifCond .ne 5, 3) := by decide +kernel
theorem dX4_saving_7 : decode cX4_saving 7 = .ok (.iconst 0, 1) := by decide +kernel
theorem dX4_saving_8 : decode cX4_saving 8 = .ok (.ireturn, 1) := by decide +kernel
theorem dX4_saving_9 : decode cX4_saving 9 = .ok (.aload_n 0, 1) := by decide +kernel
theorem dX4_saving_10 : decode cX4_saving 10 = .ok (.aload_n 1, 1) := by decide +kernel
theorem dX4_saving_11 : decode cX4_saving 11 = .ok (.invokevirtual 335, 3) := by decide +kernel
theorem dX4_saving_14 : decode cX4_saving 14 = .ok (.istore_n 2, 1) := by decide +kernel
theorem dX4_saving_15 : decode cX4_saving 15 = .ok (.bipush 80, 2) := by decide +kernel
theorem dX4_saving_17 : decode cX4_saving 17 = .ok (.aload_n 0, 1) := by decide +kernel
theorem dX4_saving_18 : decode cX4_saving 18 = .ok (.getfield 18, 3) := by decide +kernel
theorem dX4_saving_21 : decode cX4_saving 21 = .ok (.getfield 206, 3) := by decide +kernel
theorem dX4_saving_24 : decode cX4_saving 24 = .ok (.isub, 1) := by decide +kernel
theorem dX4_saving_25 : decode cX4_saving 25 = .ok (.istore_n 3, 1) := by decide +kernel
theorem dX4_saving_26 : decode cX4_saving 26 = .ok (.iload_n 2, 1) := by decide +kernel
theorem dX4_saving_27 : decode cX4_saving 27 = .ok (.iload_n 3, 1) := by decide +kernel
theorem dX4_saving_28 : decode cX4_saving 28 = .ok (.if_icmp .le 8, 3) := by decide +kernel
theorem dX4_saving_31 : decode cX4_saving 31 = .ok (.bipush (-4), 2) := by decide +kernel
theorem dX4_saving_33 : decode cX4_saving 33 = .ok (.iload_n 3, 1) := by decide +kernel
theorem dX4_saving_34 : decode cX4_saving 34 = .ok (.imul, 1) := by decide +kernel
theorem dX4_saving_35 : decode cX4_saving 35 = .ok (.ireturn, 1) := by decide +kernel
theorem dX4_saving_36 : decode cX4_saving 36 = .ok (.aload_n 1, 1) := by decide +kernel
theorem dX4_saving_37 : decode cX4_saving 37 = .ok (.invokestatic 323, 3) := by decide +kernel
theorem dX4_saving_40 : decode cX4_saving 40 = .ok (.aload_n 1, 1) := by decide +kernel
theorem dX4_saving_41 : decode cX4_saving 41 = .ok (.invokestatic 326, 3) := by decide +kernel
theorem dX4_saving_44 : decode cX4_saving 44 = .ok (.isub, 1) := by decide +kernel
theorem dX4_saving_45 : decode cX4_saving 45 = .ok (.iconst 4, 1) := by decide +kernel
theorem dX4_saving_46 : decode cX4_saving 46 = .ok (.iload_n 2, 1) := by decide +kernel
theorem dX4_saving_47 : decode cX4_saving 47 = .ok (.imul, 1) := by decide +kernel
theorem dX4_saving_48 : decode cX4_saving 48 = .ok (.isub, 1) := by decide +kernel
theorem dX4_saving_49 : decode cX4_saving 49 = .ok (.ireturn, 1) := by decide +kernel
theorem dX4_objectFact_0 : decode cX4_objectFact 0 = .ok (.iload_n 2, 1) := by decide +kernel
theorem dX4_objectFact_1 : decode cX4_objectFact 1 = .ok (.tableswitch 112 0 6 #[43, 51, 56, 75, 88, 101, 107], 43) := by decide +kernel
theorem dX4_objectFact_44 : decode cX4_objectFact 44 = .ok (.aload_n 1, 1) := by decide +kernel
theorem dX4_objectFact_45 : decode cX4_objectFact 45 = .ok (.getfield 129, 3) := by decide +kernel
theorem dX4_objectFact_48 : decode cX4_objectFact 48 = .ok (.invokestatic 338, 3) := by decide +kernel
theorem dX4_objectFact_51 : decode cX4_objectFact 51 = .ok (.ireturn, 1) := by decide +kernel
theorem dX4_objectFact_52 : decode cX4_objectFact 52 = .ok (.aload_n 1, 1) := by decide +kernel
theorem dX4_objectFact_53 : decode cX4_objectFact 53 = .ok (.getfield 141, 3) := by decide +kernel
theorem dX4_objectFact_56 : decode cX4_objectFact 56 = .ok (.ireturn, 1) := by decide +kernel
theorem dX4_objectFact_57 : decode cX4_objectFact 57 = .ok (.aload_n 1, 1) := by decide +kernel
theorem dX4_objectFact_58 : decode cX4_objectFact 58 = .ok (.getfield 62, 3) := by decide +kernel
theorem dX4_objectFact_61 : decode cX4_objectFact 61 = .ok (.ifnonnull 7, 3) := by decide +kernel
theorem dX4_objectFact_64 : decode cX4_objectFact 64 = .ok (.iconst (-1), 1) := by decide +kernel
theorem dX4_objectFact_65 : decode cX4_objectFact 65 = .ok (.goto 10, 3) := by decide +kernel
theorem dX4_objectFact_68 : decode cX4_objectFact 68 = .ok (.aload_n 1, 1) := by decide +kernel
theorem dX4_objectFact_69 : decode cX4_objectFact 69 = .ok (.getfield 62, 3) := by decide +kernel
theorem dX4_objectFact_72 : decode cX4_objectFact 72 = .ok (.getfield 341, 3) := by decide +kernel
theorem dX4_objectFact_75 : decode cX4_objectFact 75 = .ok (.ireturn, 1) := by decide +kernel
theorem dX4_objectFact_76 : decode cX4_objectFact 76 = .ok (.aload_n 1, 1) := by decide +kernel
theorem dX4_objectFact_77 : decode cX4_objectFact 77 = .ok (.getfield 133, 3) := by decide +kernel
theorem dX4_objectFact_80 : decode cX4_objectFact 80 = .ok (.ifCond .eq 7, 3) := by decide +kernel
theorem dX4_objectFact_83 : decode cX4_objectFact 83 = .ok (.iconst 1, 1) := by decide +kernel
theorem dX4_objectFact_84 : decode cX4_objectFact 84 = .ok (.goto 4, 3) := by decide +kernel
theorem dX4_objectFact_87 : decode cX4_objectFact 87 = .ok (.iconst 0, 1) := by decide +kernel
theorem dX4_objectFact_88 : decode cX4_objectFact 88 = .ok (.ireturn, 1) := by decide +kernel
theorem dX4_objectFact_89 : decode cX4_objectFact 89 = .ok (.aload_n 1, 1) := by decide +kernel
theorem dX4_objectFact_90 : decode cX4_objectFact 90 = .ok (.getfield 287, 3) := by decide +kernel
theorem dX4_objectFact_93 : decode cX4_objectFact 93 = .ok (.ifCond .eq 7, 3) := by decide +kernel
theorem dX4_objectFact_96 : decode cX4_objectFact 96 = .ok (.iconst 1, 1) := by decide +kernel
theorem dX4_objectFact_97 : decode cX4_objectFact 97 = .ok (.goto 4, 3) := by decide +kernel
theorem dX4_objectFact_100 : decode cX4_objectFact 100 = .ok (.iconst 0, 1) := by decide +kernel
theorem dX4_objectFact_101 : decode cX4_objectFact 101 = .ok (.ireturn, 1) := by decide +kernel
theorem dX4_objectFact_102 : decode cX4_objectFact 102 = .ok (.aload_n 0, 1) := by decide +kernel
theorem dX4_objectFact_103 : decode cX4_objectFact 103 = .ok (.aload_n 1, 1) := by decide +kernel
theorem dX4_objectFact_104 : decode cX4_objectFact 104 = .ok (.invokevirtual 342, 3) := by decide +kernel
theorem dX4_objectFact_107 : decode cX4_objectFact 107 = .ok (.ireturn, 1) := by decide +kernel
theorem dX4_objectFact_108 : decode cX4_objectFact 108 = .ok (.aload_n 1, 1) := by decide +kernel
theorem dX4_objectFact_109 : decode cX4_objectFact 109 = .ok (.invokestatic 278, 3) := by decide +kernel
theorem dX4_objectFact_112 : decode cX4_objectFact 112 = .ok (.ireturn, 1) := by decide +kernel
theorem dX4_objectFact_113 : decode cX4_objectFact 113 = .ok (.aload_n 1, 1) := by decide +kernel
theorem dX4_objectFact_114 : decode cX4_objectFact 114 = .ok (.invokestatic 345, 3) := by decide +kernel
theorem dX4_objectFact_117 : decode cX4_objectFact 117 = .ok (.ireturn, 1) := by decide +kernel
theorem dX4_numberOf_0 : decode cX4_numberOf 0 = .ok (.aload_n 0, 1) := by decide +kernel
theorem dX4_numberOf_1 : decode cX4_numberOf 1 = .ok (.ifnonnull 7, 3) := by decide +kernel
theorem dX4_numberOf_4 : decode cX4_numberOf 4 = .ok (.iconst (-1), 1) := by decide +kernel
theorem dX4_numberOf_5 : decode cX4_numberOf 5 = .ok (.goto 7, 3) := by decide +kernel
theorem dX4_numberOf_8 : decode cX4_numberOf 8 = .ok (.aload_n 0, 1) := by decide +kernel
