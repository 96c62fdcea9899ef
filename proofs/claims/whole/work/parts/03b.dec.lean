theorem dX10_init_0 : decode cX10_init 0 = .ok (.aload_n 0, 1) := by decide +kernel
theorem dX10_init_1 : decode cX10_init 1 = .ok (.invokespecial 1, 3) := by decide +kernel
theorem dX10_init_4 : decode cX10_init 4 = .ok (.aload_n 0, 1) := by decide +kernel
theorem dX10_init_5 : decode cX10_init 5 = .ok (.new 7, 3) := by decide +kernel
theorem dX10_init_8 : decode cX10_init 8 = .ok (.dup, 1) := by decide +kernel
theorem dX10_init_9 : decode cX10_init 9 = .ok (.invokespecial 9, 3) := by decide +kernel
theorem dX10_init_12 : decode cX10_init 12 = .ok (.putfield 10, 3) := by decide +kernel
theorem dX10_init_15 : decode cX10_init 15 = .ok (.aload_n 0, 1) := by decide +kernel
theorem dX10_init_16 : decode cX10_init 16 = .ok (.new 16, 3) := by decide +kernel
theorem dX10_init_19 : decode cX10_init 19 = .ok (.dup, 1) := by decide +kernel
theorem dX10_init_20 : decode cX10_init 20 = .ok (.invokespecial 18, 3) := by decide +kernel
theorem dX10_init_23 : decode cX10_init 23 = .ok (.putfield 19, 3) := by decide +kernel
theorem dX10_init_26 : decode cX10_init 26 = .ok (.aload_n 0, 1) := by decide +kernel
theorem dX10_init_27 : decode cX10_init 27 = .ok (.new 23, 3) := by decide +kernel
theorem dX10_init_30 : decode cX10_init 30 = .ok (.dup, 1) := by decide +kernel
theorem dX10_init_31 : decode cX10_init 31 = .ok (.aload_n 0, 1) := by decide +kernel
theorem dX10_init_32 : decode cX10_init 32 = .ok (.getfield 10, 3) := by decide +kernel
theorem dX10_init_35 : decode cX10_init 35 = .ok (.invokespecial 25, 3) := by decide +kernel
theorem dX10_init_38 : decode cX10_init 38 = .ok (.putfield 28, 3) := by decide +kernel
theorem dX10_init_41 : decode cX10_init 41 = .ok (.aload_n 0, 1) := by decide +kernel
theorem dX10_init_42 : decode cX10_init 42 = .ok (.new 32, 3) := by decide +kernel
theorem dX10_init_45 : decode cX10_init 45 = .ok (.dup, 1) := by decide +kernel
theorem dX10_init_46 : decode cX10_init 46 = .ok (.aload_n 0, 1) := by decide +kernel
theorem dX10_init_47 : decode cX10_init 47 = .ok (.getfield 10, 3) := by decide +kernel
theorem dX10_init_50 : decode cX10_init 50 = .ok (.invokespecial 34, 3) := by decide +kernel
theorem dX10_init_53 : decode cX10_init 53 = .ok (.putfield 35, 3) := by decide +kernel
theorem dX10_init_56 : decode cX10_init 56 = .ok (.aload_n 0, 1) := by decide +kernel
theorem dX10_init_57 : decode cX10_init 57 = .ok (.new 39, 3) := by decide +kernel
theorem dX10_init_60 : decode cX10_init 60 = .ok (.dup, 1) := by decide +kernel
theorem dX10_init_61 : decode cX10_init 61 = .ok (.aload_n 0, 1) := by decide +kernel
theorem dX10_init_62 : decode cX10_init 62 = .ok (.getfield 10, 3) := by decide +kernel
theorem dX10_init_65 : decode cX10_init 65 = .ok (.invokespecial 41, 3) := by decide +kernel
theorem dX10_init_68 : decode cX10_init 68 = .ok (.putfield 42, 3) := by decide +kernel
theorem dX10_init_71 : decode cX10_init 71 = .ok (.aload_n 0, 1) := by decide +kernel
theorem dX10_init_72 : decode cX10_init 72 = .ok (.new 46, 3) := by decide +kernel
theorem dX10_init_75 : decode cX10_init 75 = .ok (.dup, 1) := by decide +kernel
theorem dX10_init_76 : decode cX10_init 76 = .ok (.aload_n 0, 1) := by decide +kernel
theorem dX10_init_77 : decode cX10_init 77 = .ok (.getfield 10, 3) := by decide +kernel
theorem dX10_init_80 : decode cX10_init 80 = .ok (.invokespecial 48, 3) := by decide +kernel
theorem dX10_init_83 : decode cX10_init 83 = .ok (.putfield 49, 3) := by decide +kernel
theorem dX10_init_86 : decode cX10_init 86 = .ok (.aload_n 0, 1) := by decide +kernel
theorem dX10_init_87 : decode cX10_init 87 = .ok (.new 53, 3) := by decide +kernel
theorem dX10_init_90 : decode cX10_init 90 = .ok (.dup, 1) := by decide +kernel
theorem dX10_init_91 : decode cX10_init 91 = .ok (.aload_n 0, 1) := by decide +kernel
theorem dX10_init_92 : decode cX10_init 92 = .ok (.getfield 19, 3) := by decide +kernel
theorem dX10_init_95 : decode cX10_init 95 = .ok (.invokespecial 55, 3) := by decide +kernel
theorem dX10_init_98 : decode cX10_init 98 = .ok (.putfield 58, 3) := by decide +kernel
theorem dX10_init_101 : decode cX10_init 101 = .ok (.aload_n 0, 1) := by decide +kernel
theorem dX10_init_102 : decode cX10_init 102 = .ok (.new 62, 3) := by decide +kernel
theorem dX10_init_105 : decode cX10_init 105 = .ok (.dup, 1) := by decide +kernel
theorem dX10_init_106 : decode cX10_init 106 = .ok (.invokespecial 64, 3) := by decide +kernel
theorem dX10_init_109 : decode cX10_init 109 = .ok (.putfield 65, 3) := by decide +kernel
theorem dX10_init_112 : decode cX10_init 112 = .ok (.aload_n 0, 1) := by decide +kernel
theorem dX10_init_113 : decode cX10_init 113 = .ok (.new 62, 3) := by decide +kernel
theorem dX10_init_116 : decode cX10_init 116 = .ok (.dup, 1) := by decide +kernel
theorem dX10_init_117 : decode cX10_init 117 = .ok (.invokespecial 64, 3) := by decide +kernel
theorem dX10_init_120 : decode cX10_init 120 = .ok (.putfield 69, 3) := by decide +kernel
theorem dX10_init_123 : decode cX10_init 123 = .ok (.aload_n 0, 1) := by decide +kernel
theorem dX10_init_124 : decode cX10_init 124 = .ok (.new 62, 3) := by decide +kernel
theorem dX10_init_127 : decode cX10_init 127 = .ok (.dup, 1) := by decide +kernel
theorem dX10_init_128 : decode cX10_init 128 = .ok (.invokespecial 64, 3) := by decide +kernel
theorem dX10_init_131 : decode cX10_init 131 = .ok (.putfield 72, 3) := by decide +kernel
theorem dX10_init_134 : decode cX10_init 134 = .ok (.return_, 1) := by decide +kernel
theorem dX10_trunk_0 : decode cX10_trunk 0 = .ok (.iload_n 1, 1) := by decide +kernel
theorem dX10_trunk_1 : decode cX10_trunk 1 = .ok (.iload_n 2, 1) := by decide +kernel
theorem dX10_trunk_2 : decode cX10_trunk 2 = .ok (.invokestatic 75, 3) := by decide +kernel
theorem dX10_trunk_5 : decode cX10_trunk 5 = .ok (.ifCond .eq 13, 3) := by decide +kernel
theorem dX10_trunk_8 : decode cX10_trunk 8 = .ok (.iload_n 3, 1) := by decide +kernel
theorem dX10_trunk_9 : decode cX10_trunk 9 = .ok (.iconst 0, 1) := by decide +kernel
theorem dX10_trunk_10 : decode cX10_trunk 10 = .ok (.bipush 9, 2) := by decide +kernel
theorem dX10_trunk_12 : decode cX10_trunk 12 = .ok (.invokestatic 79, 3) := by decide +kernel
theorem dX10_trunk_15 : decode cX10_trunk 15 = .ok (.ifCond .ne 5, 3) := by decide +kernel
theorem dX10_trunk_18 : decode cX10_trunk 18 = .ok (.iconst 0, 1) := by decide +kernel
theorem dX10_trunk_19 : decode cX10_trunk 19 = .ok (.ireturn, 1) := by decide +kernel
theorem dX10_trunk_20 : decode cX10_trunk 20 = .ok (.aload_n 0, 1) := by decide +kernel
theorem dX10_trunk_21 : decode cX10_trunk 21 = .ok (.getfield 19, 3) := by decide +kernel
theorem dX10_trunk_24 : decode cX10_trunk 24 = .ok (.iload_n 1, 1) := by decide +kernel
theorem dX10_trunk_25 : decode cX10_trunk 25 = .ok (.iload_n 2, 1) := by decide +kernel
theorem dX10_trunk_26 : decode cX10_trunk 26 = .ok (.iload_n 3, 1) := by decide +kernel
theorem dX10_trunk_27 : decode cX10_trunk 27 = .ok (.invokevirtual 83, 3) := by decide +kernel
theorem dX10_trunk_30 : decode cX10_trunk 30 = .ok (.iconst 1, 1) := by decide +kernel
theorem dX10_trunk_31 : decode cX10_trunk 31 = .ok (.ireturn, 1) := by decide +kernel
theorem dX10_subscriber_0 : decode cX10_subscriber 0 = .ok (.iload_n 1, 1) := by decide +kernel
theorem dX10_subscriber_1 : decode cX10_subscriber 1 = .ok (.iconst 0, 1) := by decide +kernel
theorem dX10_subscriber_2 : decode cX10_subscriber 2 = .ok (.bipush 15, 2) := by decide +kernel
theorem dX10_subscriber_4 : decode cX10_subscriber 4 = .ok (.invokestatic 79, 3) := by decide +kernel
theorem dX10_subscriber_7 : decode cX10_subscriber 7 = .ok (.ifCond .eq 10, 3) := by decide +kernel
theorem dX10_subscriber_10 : decode cX10_subscriber 10 = .ok (.iload_n 2, 1) := by decide +kernel
theorem dX10_subscriber_11 : decode cX10_subscriber 11 = .ok (.invokestatic 87, 3) := by decide +kernel
theorem dX10_subscriber_14 : decode cX10_subscriber 14 = .ok (.ifCond .ne 5, 3) := by decide +kernel
theorem dX10_subscriber_17 : decode cX10_subscriber 17 = .ok (.iconst 0, 1) := by decide +kernel
theorem dX10_subscriber_18 : decode cX10_subscriber 18 = .ok (.ireturn, 1) := by decide +kernel
theorem dX10_subscriber_19 : decode cX10_subscriber 19 = .ok (.aload_n 0, 1) := by decide +kernel
theorem dX10_subscriber_20 : decode cX10_subscriber 20 = .ok (.getfield 65, 3) := by decide +kernel
theorem dX10_subscriber_23 : decode cX10_subscriber 23 = .ok (.iload_n 1, 1) := by decide +kernel
theorem dX10_subscriber_24 : decode cX10_subscriber 24 = .ok (.iload_n 2, 1) := by decide +kernel
theorem dX10_subscriber_25 : decode cX10_subscriber 25 = .ok (.iload_n 3, 1) := by decide +kernel
theorem dX10_subscriber_26 : decode cX10_subscriber 26 = .ok (.invokevirtual 91, 3) := by decide +kernel
theorem dX10_subscriber_29 : decode cX10_subscriber 29 = .ok (.iconst 1, 1) := by decide +kernel
theorem dX10_subscriber_30 : decode cX10_subscriber 30 = .ok (.ireturn, 1) := by decide +kernel
theorem dX10_fund_0 : decode cX10_fund 0 = .ok (.iload_n 1, 1) := by decide +kernel
theorem dX10_fund_1 : decode cX10_fund 1 = .ok (.iconst 0, 1) := by decide +kernel
theorem dX10_fund_2 : decode cX10_fund 2 = .ok (.ldc 95, 2) := by decide +kernel
theorem dX10_fund_4 : decode cX10_fund 4 = .ok (.invokestatic 79, 3) := by decide +kernel
theorem dX10_fund_7 : decode cX10_fund 7 = .ok (.ifCond .ne 5, 3) := by decide +kernel
theorem dX10_fund_10 : decode cX10_fund 10 = .ok (.iconst 0, 1) := by decide +kernel
theorem dX10_fund_11 : decode cX10_fund 11 = .ok (.ireturn, 1) := by decide +kernel
theorem dX10_fund_12 : decode cX10_fund 12 = .ok (.aload_n 0, 1) := by decide +kernel
theorem dX10_fund_13 : decode cX10_fund 13 = .ok (.getfield 65, 3) := by decide +kernel
theorem dX10_fund_16 : decode cX10_fund 16 = .ok (.iload_n 1, 1) := by decide +kernel
theorem dX10_fund_17 : decode cX10_fund 17 = .ok (.putfield 96, 3) := by decide +kernel
theorem dX10_fund_20 : decode cX10_fund 20 = .ok (.iconst 1, 1) := by decide +kernel
theorem dX10_fund_21 : decode cX10_fund 21 = .ok (.ireturn, 1) := by decide +kernel
theorem dX10_rate_0 : decode cX10_rate 0 = .ok (.iload_n 1, 1) := by decide +kernel
theorem dX10_rate_1 : decode cX10_rate 1 = .ok (.iconst 0, 1) := by decide +kernel
theorem dX10_rate_2 : decode cX10_rate 2 = .ok (.bipush 99, 2) := by decide +kernel
theorem dX10_rate_4 : decode cX10_rate 4 = .ok (.invokestatic 79, 3) := by decide +kernel
theorem dX10_rate_7 : decode cX10_rate 7 = .ok (.ifCond .eq 13, 3) := by decide +kernel
theorem dX10_rate_10 : decode cX10_rate 10 = .ok (.iload_n 2, 1) := by decide +kernel
theorem dX10_rate_11 : decode cX10_rate 11 = .ok (.iconst 0, 1) := by decide +kernel
theorem dX10_rate_12 : decode cX10_rate 12 = .ok (.bipush 99, 2) := by decide +kernel
theorem dX10_rate_14 : decode cX10_rate 14 = .ok (.invokestatic 79, 3) := by decide +kernel
theorem dX10_rate_17 : decode cX10_rate 17 = .ok (.ifCond .ne 5, 3) := by decide +kernel
theorem dX10_rate_20 : decode cX10_rate 20 = .ok (.iconst 0, 1) := by decide +kernel
theorem dX10_rate_21 : decode cX10_rate 21 = .ok (.ireturn, 1) := by decide +kernel
theorem dX10_rate_22 : decode cX10_rate 22 = .ok (.aload_n 0, 1) := by decide +kernel
theorem dX10_rate_23 : decode cX10_rate 23 = .ok (.getfield 58, 3) := by decide +kernel
theorem dX10_rate_26 : decode cX10_rate 26 = .ok (.iload_n 1, 1) := by decide +kernel
theorem dX10_rate_27 : decode cX10_rate 27 = .ok (.putfield 100, 3) := by decide +kernel
theorem dX10_rate_30 : decode cX10_rate 30 = .ok (.aload_n 0, 1) := by decide +kernel
theorem dX10_rate_31 : decode cX10_rate 31 = .ok (.getfield 58, 3) := by decide +kernel
theorem dX10_rate_34 : decode cX10_rate 34 = .ok (.iload_n 2, 1) := by decide +kernel
theorem dX10_rate_35 : decode cX10_rate 35 = .ok (.putfield 103, 3) := by decide +kernel
theorem dX10_rate_38 : decode cX10_rate 38 = .ok (.iconst 1, 1) := by decide +kernel
theorem dX10_rate_39 : decode cX10_rate 39 = .ok (.ireturn, 1) := by decide +kernel
theorem dX10_feed_0 : decode cX10_feed 0 = .ok (.aload_n 0, 1) := by decide +kernel
theorem dX10_feed_1 : decode cX10_feed 1 = .ok (.getfield 10, 3) := by decide +kernel
theorem dX10_feed_4 : decode cX10_feed 4 = .ok (.invokevirtual 106, 3) := by decide +kernel
theorem dX10_feed_7 : decode cX10_feed 7 = .ok (.ifCond .ne 5, 3) := by decide +kernel
theorem dX10_feed_10 : decode cX10_feed 10 = .ok (.iconst (-1), 1) := by decide +kernel
theorem dX10_feed_11 : decode cX10_feed 11 = .ok (.ireturn, 1) := by decide +kernel
theorem dX10_feed_12 : decode cX10_feed 12 = .ok (.aload_n 0, 1) := by decide +kernel
theorem dX10_feed_13 : decode cX10_feed 13 = .ok (.getfield 10, 3) := by decide +kernel
theorem dX10_feed_16 : decode cX10_feed 16 = .ok (.iload_n 1, 1) := by decide +kernel
theorem dX10_feed_17 : decode cX10_feed 17 = .ok (.invokevirtual 110, 3) := by decide +kernel
theorem dX10_feed_20 : decode cX10_feed 20 = .ok (.aload_n 0, 1) := by decide +kernel
theorem dX10_feed_21 : decode cX10_feed 21 = .ok (.getfield 10, 3) := by decide +kernel
theorem dX10_feed_24 : decode cX10_feed 24 = .ok (.iload_n 2, 1) := by decide +kernel
theorem dX10_feed_25 : decode cX10_feed 25 = .ok (.invokevirtual 110, 3) := by decide +kernel
theorem dX10_feed_28 : decode cX10_feed 28 = .ok (.aload_n 0, 1) := by decide +kernel
theorem dX10_feed_29 : decode cX10_feed 29 = .ok (.getfield 10, 3) := by decide +kernel
theorem dX10_feed_32 : decode cX10_feed 32 = .ok (.iload_n 3, 1) := by decide +kernel
theorem dX10_feed_33 : decode cX10_feed 33 = .ok (.invokevirtual 110, 3) := by decide +kernel
theorem dX10_feed_36 : decode cX10_feed 36 = .ok (.aload_n 0, 1) := by decide +kernel
theorem dX10_feed_37 : decode cX10_feed 37 = .ok (.getfield 10, 3) := by decide +kernel
theorem dX10_feed_40 : decode cX10_feed 40 = .ok (.iload 4, 2) := by decide +kernel
theorem dX10_feed_42 : decode cX10_feed 42 = .ok (.invokevirtual 110, 3) := by decide +kernel
theorem dX10_feed_45 : decode cX10_feed 45 = .ok (.aload_n 0, 1) := by decide +kernel
theorem dX10_feed_46 : decode cX10_feed 46 = .ok (.getfield 10, 3) := by decide +kernel
theorem dX10_feed_49 : decode cX10_feed 49 = .ok (.iload 5, 2) := by decide +kernel
theorem dX10_feed_51 : decode cX10_feed 51 = .ok (.invokevirtual 110, 3) := by decide +kernel
theorem dX10_feed_54 : decode cX10_feed 54 = .ok (.aload_n 0, 1) := by decide +kernel
theorem dX10_feed_55 : decode cX10_feed 55 = .ok (.getfield 10, 3) := by decide +kernel
theorem dX10_feed_58 : decode cX10_feed 58 = .ok (.getfield 114, 3) := by decide +kernel
theorem dX10_feed_61 : decode cX10_feed 61 = .ok (.ireturn, 1) := by decide +kernel
theorem dX10_law_0 : decode cX10_law 0 = .ok (.iload_n 1, 1) := by decide +kernel
theorem dX10_law_1 : decode cX10_law 1 = .ok (.iconst 1, 1) := by decide +kernel
theorem dX10_law_2 : decode cX10_law 2 = .ok (.sipush 240, 3) := by decide +kernel
theorem dX10_law_5 : decode cX10_law 5 = .ok (.invokestatic 79, 3) := by decide +kernel
theorem dX10_law_8 : decode cX10_law 8 = .ok (.ifCond .eq 14, 3) := by decide +kernel
theorem dX10_law_11 : decode cX10_law 11 = .ok (.aload_n 0, 1) := by decide +kernel
theorem dX10_law_12 : decode cX10_law 12 = .ok (.getfield 10, 3) := by decide +kernel
theorem dX10_law_15 : decode cX10_law 15 = .ok (.iload_n 1, 1) := by decide +kernel
theorem dX10_law_16 : decode cX10_law 16 = .ok (.invokevirtual 117, 3) := by decide +kernel
theorem dX10_law_19 : decode cX10_law 19 = .ok (.ifCond .ne 5, 3) := by decide +kernel
theorem dX10_law_22 : decode cX10_law 22 = .ok (.iconst (-1), 1) := by decide +kernel
theorem dX10_law_23 : decode cX10_law 23 = .ok (.ireturn, 1) := by decide +kernel
theorem dX10_law_24 : decode cX10_law 24 = .ok (.aload_n 0, 1) := by decide +kernel
theorem dX10_law_25 : decode cX10_law 25 = .ok (.getfield 49, 3) := by decide +kernel
theorem dX10_law_28 : decode cX10_law 28 = .ok (.invokevirtual 120, 3) := by decide +kernel
theorem dX10_law_31 : decode cX10_law 31 = .ok (.istore_n 2, 1) := by decide +kernel
theorem dX10_law_32 : decode cX10_law 32 = .ok (.iload_n 2, 1) := by decide +kernel
theorem dX10_law_33 : decode cX10_law 33 = .ok (.ifCond .le 33, 3) := by decide +kernel
theorem dX10_law_36 : decode cX10_law 36 = .ok (.aload_n 0, 1) := by decide +kernel
theorem dX10_law_37 : decode cX10_law 37 = .ok (.getfield 58, 3) := by decide +kernel
theorem dX10_law_40 : decode cX10_law 40 = .ok (.getfield 124, 3) := by decide +kernel
theorem dX10_law_43 : decode cX10_law 43 = .ok (.astore_n 3, 1) := by decide +kernel
theorem dX10_law_44 : decode cX10_law 44 = .ok (.aload_n 0, 1) := by decide +kernel
theorem dX10_law_45 : decode cX10_law 45 = .ok (.getfield 58, 3) := by decide +kernel
theorem dX10_law_48 : decode cX10_law 48 = .ok (.aload_n 0, 1) := by decide +kernel
theorem dX10_law_49 : decode cX10_law 49 = .ok (.getfield 49, 3) := by decide +kernel
theorem dX10_law_52 : decode cX10_law 52 = .ok (.getfield 128, 3) := by decide +kernel
theorem dX10_law_55 : decode cX10_law 55 = .ok (.putfield 124, 3) := by decide +kernel
theorem dX10_law_58 : decode cX10_law 58 = .ok (.aload_n 0, 1) := by decide +kernel
theorem dX10_law_59 : decode cX10_law 59 = .ok (.getfield 49, 3) := by decide +kernel
theorem dX10_law_62 : decode cX10_law 62 = .ok (.aload_n 3, 1) := by decide +kernel
theorem dX10_law_63 : decode cX10_law 63 = .ok (.putfield 128, 3) := by decide +kernel
theorem dX10_law_66 : decode cX10_law 66 = .ok (.iload_n 2, 1) := by decide +kernel
theorem dX10_law_67 : decode cX10_law 67 = .ok (.ireturn, 1) := by decide +kernel
theorem dX10_bill_0 : decode cX10_bill 0 = .ok (.iload_n 1, 1) := by decide +kernel
theorem dX10_bill_1 : decode cX10_bill 1 = .ok (.iconst 1, 1) := by decide +kernel
theorem dX10_bill_2 : decode cX10_bill 2 = .ok (.bipush 120, 2) := by decide +kernel
theorem dX10_bill_4 : decode cX10_bill 4 = .ok (.invokestatic 79, 3) := by decide +kernel
theorem dX10_bill_7 : decode cX10_bill 7 = .ok (.ifCond .eq 14, 3) := by decide +kernel
theorem dX10_bill_10 : decode cX10_bill 10 = .ok (.aload_n 0, 1) := by decide +kernel
theorem dX10_bill_11 : decode cX10_bill 11 = .ok (.getfield 10, 3) := by decide +kernel
theorem dX10_bill_14 : decode cX10_bill 14 = .ok (.iload_n 1, 1) := by decide +kernel
theorem dX10_bill_15 : decode cX10_bill 15 = .ok (.invokevirtual 117, 3) := by decide +kernel
theorem dX10_bill_18 : decode cX10_bill 18 = .ok (.ifCond .ne 5, 3) := by decide +kernel
theorem dX10_bill_21 : decode cX10_bill 21 = .ok (.iconst (-1), 1) := by decide +kernel
theorem dX10_bill_22 : decode cX10_bill 22 = .ok (.ireturn, 1) := by decide +kernel
theorem dX10_bill_23 : decode cX10_bill 23 = .ok (.aload_n 0, 1) := by decide +kernel
theorem dX10_bill_24 : decode cX10_bill 24 = .ok (.getfield 42, 3) := by decide +kernel
theorem dX10_bill_27 : decode cX10_bill 27 = .ok (.aload_n 0, 1) := by decide +kernel
theorem dX10_bill_28 : decode cX10_bill 28 = .ok (.getfield 65, 3) := by decide +kernel
theorem dX10_bill_31 : decode cX10_bill 31 = .ok (.getfield 129, 3) := by decide +kernel
theorem dX10_bill_34 : decode cX10_bill 34 = .ok (.invokevirtual 132, 3) := by decide +kernel
theorem dX10_bill_37 : decode cX10_bill 37 = .ok (.istore_n 2, 1) := by decide +kernel
theorem dX10_bill_38 : decode cX10_bill 38 = .ok (.iload_n 2, 1) := by decide +kernel
theorem dX10_bill_39 : decode cX10_bill 39 = .ok (.ifCond .le 14, 3) := by decide +kernel
theorem dX10_bill_42 : decode cX10_bill 42 = .ok (.aload_n 0, 1) := by decide +kernel
theorem dX10_bill_43 : decode cX10_bill 43 = .ok (.getfield 42, 3) := by decide +kernel
theorem dX10_bill_46 : decode cX10_bill 46 = .ok (.aload_n 0, 1) := by decide +kernel
theorem dX10_bill_47 : decode cX10_bill 47 = .ok (.getfield 65, 3) := by decide +kernel
theorem dX10_bill_50 : decode cX10_bill 50 = .ok (.invokevirtual 136, 3) := by decide +kernel
theorem dX10_bill_53 : decode cX10_bill 53 = .ok (.iload_n 2, 1) := by decide +kernel
theorem dX10_bill_54 : decode cX10_bill 54 = .ok (.ireturn, 1) := by decide +kernel
theorem dX10_code_0 : decode cX10_code 0 = .ok (.iload_n 1, 1) := by decide +kernel
theorem dX10_code_1 : decode cX10_code 1 = .ok (.invokestatic 87, 3) := by decide +kernel
theorem dX10_code_4 : decode cX10_code 4 = .ok (.ifCond .eq 24, 3) := by decide +kernel
theorem dX10_code_7 : decode cX10_code 7 = .ok (.iload_n 2, 1) := by decide +kernel
theorem dX10_code_8 : decode cX10_code 8 = .ok (.iconst 1, 1) := by decide +kernel
theorem dX10_code_9 : decode cX10_code 9 = .ok (.bipush 6, 2) := by decide +kernel
theorem dX10_code_11 : decode cX10_code 11 = .ok (.invokestatic 79, 3) := by decide +kernel
theorem dX10_code_14 : decode cX10_code 14 = .ok (.ifCond .eq 14, 3) := by decide +kernel
theorem dX10_code_17 : decode cX10_code 17 = .ok (.aload_n 0, 1) := by decide +kernel
theorem dX10_code_18 : decode cX10_code 18 = .ok (.getfield 10, 3) := by decide +kernel
theorem dX10_code_21 : decode cX10_code 21 = .ok (.iload_n 2, 1) := by decide +kernel
theorem dX10_code_22 : decode cX10_code 22 = .ok (.invokevirtual 117, 3) := by decide +kernel
theorem dX10_code_25 : decode cX10_code 25 = .ok (.ifCond .ne 5, 3) := by decide +kernel
theorem dX10_code_28 : decode cX10_code 28 = .ok (.iconst (-1), 1) := by decide +kernel
theorem dX10_code_29 : decode cX10_code 29 = .ok (.ireturn, 1) := by decide +kernel
theorem dX10_code_30 : decode cX10_code 30 = .ok (.aload_n 0, 1) := by decide +kernel
theorem dX10_code_31 : decode cX10_code 31 = .ok (.getfield 28, 3) := by decide +kernel
theorem dX10_code_34 : decode cX10_code 34 = .ok (.iload_n 1, 1) := by decide +kernel
theorem dX10_code_35 : decode cX10_code 35 = .ok (.iload_n 2, 1) := by decide +kernel
theorem dX10_code_36 : decode cX10_code 36 = .ok (.invokevirtual 140, 3) := by decide +kernel
theorem dX10_code_39 : decode cX10_code 39 = .ok (.ireturn, 1) := by decide +kernel
theorem dX10_minutes_0 : decode cX10_minutes 0 = .ok (.iload_n 1, 1) := by decide +kernel
theorem dX10_minutes_1 : decode cX10_minutes 1 = .ok (.iconst 1, 1) := by decide +kernel
theorem dX10_minutes_2 : decode cX10_minutes 2 = .ok (.sipush 240, 3) := by decide +kernel
theorem dX10_minutes_5 : decode cX10_minutes 5 = .ok (.invokestatic 79, 3) := by decide +kernel
theorem dX10_minutes_8 : decode cX10_minutes 8 = .ok (.ifCond .ne 5, 3) := by decide +kernel
theorem dX10_minutes_11 : decode cX10_minutes 11 = .ok (.iconst (-1), 1) := by decide +kernel
theorem dX10_minutes_12 : decode cX10_minutes 12 = .ok (.ireturn, 1) := by decide +kernel
theorem dX10_minutes_13 : decode cX10_minutes 13 = .ok (.aload_n 0, 1) := by decide +kernel
theorem dX10_minutes_14 : decode cX10_minutes 14 = .ok (.getfield 58, 3) := by decide +kernel
theorem dX10_minutes_17 : decode cX10_minutes 17 = .ok (.aload_n 0, 1) := by decide +kernel
theorem dX10_minutes_18 : decode cX10_minutes 18 = .ok (.getfield 65, 3) := by decide +kernel
theorem dX10_minutes_21 : decode cX10_minutes 21 = .ok (.iload_n 1, 1) := by decide +kernel
theorem dX10_minutes_22 : decode cX10_minutes 22 = .ok (.invokevirtual 144, 3) := by decide +kernel
theorem dX10_minutes_25 : decode cX10_minutes 25 = .ok (.aload_n 0, 1) := by decide +kernel
theorem dX10_minutes_26 : decode cX10_minutes 26 = .ok (.getfield 58, 3) := by decide +kernel
theorem dX10_minutes_29 : decode cX10_minutes 29 = .ok (.getfield 148, 3) := by decide +kernel
theorem dX10_minutes_32 : decode cX10_minutes 32 = .ok (.ireturn, 1) := by decide +kernel
theorem dX10_tried_0 : decode cX10_tried 0 = .ok (.aload_n 0, 1) := by decide +kernel
theorem dX10_tried_1 : decode cX10_tried 1 = .ok (.getfield 65, 3) := by decide +kernel
theorem dX10_tried_4 : decode cX10_tried 4 = .ok (.iload_n 2, 1) := by decide +kernel
theorem dX10_tried_5 : decode cX10_tried 5 = .ok (.bipush 100, 2) := by decide +kernel
theorem dX10_tried_7 : decode cX10_tried 7 = .ok (.isub, 1) := by decide +kernel
theorem dX10_tried_8 : decode cX10_tried 8 = .ok (.invokevirtual 151, 3) := by decide +kernel
theorem dX10_tried_11 : decode cX10_tried 11 = .ok (.istore_n 3, 1) := by decide +kernel
theorem dX10_tried_12 : decode cX10_tried 12 = .ok (.iload_n 1, 1) := by decide +kernel
theorem dX10_tried_13 : decode cX10_tried 13 = .ok (.iconst 1, 1) := by decide +kernel
theorem dX10_tried_14 : decode cX10_tried 14 = .ok (.sipush 240, 3) := by decide +kernel
theorem dX10_tried_17 : decode cX10_tried 17 = .ok (.invokestatic 79, 3) := by decide +kernel
theorem dX10_tried_20 : decode cX10_tried 20 = .ok (.ifCond .eq 16, 3) := by decide +kernel
theorem dX10_tried_23 : decode cX10_tried 23 = .ok (.iload_n 2, 1) := by decide +kernel
theorem dX10_tried_24 : decode cX10_tried 24 = .ok (.iconst 0, 1) := by decide +kernel
theorem dX10_tried_25 : decode cX10_tried 25 = .ok (.iconst 4, 1) := by decide +kernel
theorem dX10_tried_26 : decode cX10_tried 26 = .ok (.invokestatic 79, 3) := by decide +kernel
theorem dX10_tried_29 : decode cX10_tried 29 = .ok (.ifCond .ne 9, 3) := by decide +kernel
theorem dX10_tried_32 : decode cX10_tried 32 = .ok (.iload_n 3, 1) := by decide +kernel
theorem dX10_tried_33 : decode cX10_tried 33 = .ok (.ifCond .ne 5, 3) := by decide +kernel
theorem dX10_tried_36 : decode cX10_tried 36 = .ok (.iconst (-1), 1) := by decide +kernel
theorem dX10_tried_37 : decode cX10_tried 37 = .ok (.ireturn, 1) := by decide +kernel
theorem dX10_tried_38 : decode cX10_tried 38 = .ok (.aload_n 0, 1) := by decide +kernel
theorem dX10_tried_39 : decode cX10_tried 39 = .ok (.getfield 72, 3) := by decide +kernel
theorem dX10_tried_42 : decode cX10_tried 42 = .ok (.aload_n 0, 1) := by decide +kernel
theorem dX10_tried_43 : decode cX10_tried 43 = .ok (.getfield 65, 3) := by decide +kernel
theorem dX10_tried_46 : decode cX10_tried 46 = .ok (.invokevirtual 154, 3) := by decide +kernel
theorem dX10_tried_49 : decode cX10_tried 49 = .ok (.aload_n 0, 1) := by decide +kernel
theorem dX10_tried_50 : decode cX10_tried 50 = .ok (.getfield 58, 3) := by decide +kernel
theorem dX10_tried_53 : decode cX10_tried 53 = .ok (.aload_n 0, 1) := by decide +kernel
theorem dX10_tried_54 : decode cX10_tried 54 = .ok (.getfield 72, 3) := by decide +kernel
theorem dX10_tried_57 : decode cX10_tried 57 = .ok (.iload_n 1, 1) := by decide +kernel
theorem dX10_tried_58 : decode cX10_tried 58 = .ok (.invokevirtual 144, 3) := by decide +kernel
theorem dX10_tried_61 : decode cX10_tried 61 = .ok (.iload_n 2, 1) := by decide +kernel
theorem dX10_tried_62 : decode cX10_tried 62 = .ok (.tableswitch 82 0 4 #[34, 42, 50, 66, 74], 34) := by decide +kernel
theorem dX10_tried_96 : decode cX10_tried 96 = .ok (.aload_n 0, 1) := by decide +kernel
theorem dX10_tried_97 : decode cX10_tried 97 = .ok (.getfield 58, 3) := by decide +kernel
theorem dX10_tried_100 : decode cX10_tried 100 = .ok (.getfield 148, 3) := by decide +kernel
theorem dX10_tried_103 : decode cX10_tried 103 = .ok (.ireturn, 1) := by decide +kernel
theorem dX10_tried_104 : decode cX10_tried 104 = .ok (.aload_n 0, 1) := by decide +kernel
theorem dX10_tried_105 : decode cX10_tried 105 = .ok (.getfield 58, 3) := by decide +kernel
theorem dX10_tried_108 : decode cX10_tried 108 = .ok (.getfield 157, 3) := by decide +kernel
theorem dX10_tried_111 : decode cX10_tried 111 = .ok (.ireturn, 1) := by decide +kernel
theorem dX10_tried_112 : decode cX10_tried 112 = .ok (.aload_n 0, 1) := by decide +kernel
theorem dX10_tried_113 : decode cX10_tried 113 = .ok (.getfield 65, 3) := by decide +kernel
theorem dX10_tried_116 : decode cX10_tried 116 = .ok (.getfield 96, 3) := by decide +kernel
theorem dX10_tried_119 : decode cX10_tried 119 = .ok (.aload_n 0, 1) := by decide +kernel
theorem dX10_tried_120 : decode cX10_tried 120 = .ok (.getfield 72, 3) := by decide +kernel
theorem dX10_tried_123 : decode cX10_tried 123 = .ok (.getfield 96, 3) := by decide +kernel
theorem dX10_tried_126 : decode cX10_tried 126 = .ok (.isub, 1) := by decide +kernel
theorem dX10_tried_127 : decode cX10_tried 127 = .ok (.ireturn, 1) := by decide +kernel
theorem dX10_tried_128 : decode cX10_tried 128 = .ok (.aload_n 0, 1) := by decide +kernel
theorem dX10_tried_129 : decode cX10_tried 129 = .ok (.getfield 58, 3) := by decide +kernel
theorem dX10_tried_132 : decode cX10_tried 132 = .ok (.getfield 160, 3) := by decide +kernel
theorem dX10_tried_135 : decode cX10_tried 135 = .ok (.ireturn, 1) := by decide +kernel
theorem dX10_tried_136 : decode cX10_tried 136 = .ok (.aload_n 0, 1) := by decide +kernel
theorem dX10_tried_137 : decode cX10_tried 137 = .ok (.getfield 72, 3) := by decide +kernel
theorem dX10_tried_140 : decode cX10_tried 140 = .ok (.invokevirtual 163, 3) := by decide +kernel
theorem dX10_tried_143 : decode cX10_tried 143 = .ok (.ireturn, 1) := by decide +kernel
theorem dX10_tried_144 : decode cX10_tried 144 = .ok (.aload_n 0, 1) := by decide +kernel
theorem dX10_tried_145 : decode cX10_tried 145 = .ok (.getfield 72, 3) := by decide +kernel
theorem dX10_tried_148 : decode cX10_tried 148 = .ok (.iload_n 2, 1) := by decide +kernel
theorem dX10_tried_149 : decode cX10_tried 149 = .ok (.bipush 100, 2) := by decide +kernel
theorem dX10_tried_151 : decode cX10_tried 151 = .ok (.isub, 1) := by decide +kernel
theorem dX10_tried_152 : decode cX10_tried 152 = .ok (.invokevirtual 166, 3) := by decide +kernel
theorem dX10_tried_155 : decode cX10_tried 155 = .ok (.ireturn, 1) := by decide +kernel
theorem dX10_subscriberIs_0 : decode cX10_subscriberIs 0 = .ok (.aload_n 0, 1) := by decide +kernel
theorem dX10_subscriberIs_1 : decode cX10_subscriberIs 1 = .ok (.getfield 65, 3) := by decide +kernel
theorem dX10_subscriberIs_4 : decode cX10_subscriberIs 4 = .ok (.iload_n 1, 1) := by decide +kernel
theorem dX10_subscriberIs_5 : decode cX10_subscriberIs 5 = .ok (.invokevirtual 151, 3) := by decide +kernel
theorem dX10_subscriberIs_8 : decode cX10_subscriberIs 8 = .ok (.ifCond .ne 5, 3) := by decide +kernel
theorem dX10_subscriberIs_11 : decode cX10_subscriberIs 11 = .ok (.iconst (-1), 1) := by decide +kernel
theorem dX10_subscriberIs_12 : decode cX10_subscriberIs 12 = .ok (.ireturn, 1) := by decide +kernel
theorem dX10_subscriberIs_13 : decode cX10_subscriberIs 13 = .ok (.iconst 1, 1) := by decide +kernel
theorem dX10_subscriberIs_14 : decode cX10_subscriberIs 14 = .ok (.iload_n 1, 1) := by decide +kernel
theorem dX10_subscriberIs_15 : decode cX10_subscriberIs 15 = .ok (.ishl, 1) := by decide +kernel
theorem dX10_subscriberIs_16 : decode cX10_subscriberIs 16 = .ok (.istore_n 3, 1) := by decide +kernel
theorem dX10_subscriberIs_17 : decode cX10_subscriberIs 17 = .ok (.iload_n 2, 1) := by decide +kernel
theorem dX10_subscriberIs_18 : decode cX10_subscriberIs 18 = .ok (.tableswitch 149 0 7 #[46, 56, 74, 92, 110, 120, 129, 139], 46) := by decide +kernel
theorem dX10_subscriberIs_64 : decode cX10_subscriberIs 64 = .ok (.aload_n 0, 1) := by decide +kernel
theorem dX10_subscriberIs_65 : decode cX10_subscriberIs 65 = .ok (.getfield 65, 3) := by decide +kernel
theorem dX10_subscriberIs_68 : decode cX10_subscriberIs 68 = .ok (.getfield 169, 3) := by decide +kernel
theorem dX10_subscriberIs_71 : decode cX10_subscriberIs 71 = .ok (.iload_n 1, 1) := by decide +kernel
theorem dX10_subscriberIs_72 : decode cX10_subscriberIs 72 = .ok (.iaload, 1) := by decide +kernel
theorem dX10_subscriberIs_73 : decode cX10_subscriberIs 73 = .ok (.ireturn, 1) := by decide +kernel
theorem dX10_subscriberIs_74 : decode cX10_subscriberIs 74 = .ok (.aload_n 0, 1) := by decide +kernel
theorem dX10_subscriberIs_75 : decode cX10_subscriberIs 75 = .ok (.getfield 65, 3) := by decide +kernel
theorem dX10_subscriberIs_78 : decode cX10_subscriberIs 78 = .ok (.getfield 173, 3) := by decide +kernel
theorem dX10_subscriberIs_81 : decode cX10_subscriberIs 81 = .ok (.iload_n 3, 1) := by decide +kernel
theorem dX10_subscriberIs_82 : decode cX10_subscriberIs 82 = .ok (.iand, 1) := by decide +kernel
theorem dX10_subscriberIs_83 : decode cX10_subscriberIs 83 = .ok (.ifCond .ne 7, 3) := by decide +kernel
theorem dX10_subscriberIs_86 : decode cX10_subscriberIs 86 = .ok (.iconst 1, 1) := by decide +kernel
theorem dX10_subscriberIs_87 : decode cX10_subscriberIs 87 = .ok (.goto 4, 3) := by decide +kernel
theorem dX10_subscriberIs_90 : decode cX10_subscriberIs 90 = .ok (.iconst 0, 1) := by decide +kernel
theorem dX10_subscriberIs_91 : decode cX10_subscriberIs 91 = .ok (.ireturn, 1) := by decide +kernel
theorem dX10_subscriberIs_92 : decode cX10_subscriberIs 92 = .ok (.aload_n 0, 1) := by decide +kernel
theorem dX10_subscriberIs_93 : decode cX10_subscriberIs 93 = .ok (.getfield 65, 3) := by decide +kernel
theorem dX10_subscriberIs_96 : decode cX10_subscriberIs 96 = .ok (.getfield 176, 3) := by decide +kernel
theorem dX10_subscriberIs_99 : decode cX10_subscriberIs 99 = .ok (.iload_n 3, 1) := by decide +kernel
theorem dX10_subscriberIs_100 : decode cX10_subscriberIs 100 = .ok (.iand, 1) := by decide +kernel
theorem dX10_subscriberIs_101 : decode cX10_subscriberIs 101 = .ok (.ifCond .ne 7, 3) := by decide +kernel
theorem dX10_subscriberIs_104 : decode cX10_subscriberIs 104 = .ok (.iconst 1, 1) := by decide +kernel
theorem dX10_subscriberIs_105 : decode cX10_subscriberIs 105 = .ok (.goto 4, 3) := by decide +kernel
theorem dX10_subscriberIs_108 : decode cX10_subscriberIs 108 = .ok (.iconst 0, 1) := by decide +kernel
theorem dX10_subscriberIs_109 : decode cX10_subscriberIs 109 = .ok (.ireturn, 1) := by decide +kernel
theorem dX10_subscriberIs_110 : decode cX10_subscriberIs 110 = .ok (.aload_n 0, 1) := by decide +kernel
theorem dX10_subscriberIs_111 : decode cX10_subscriberIs 111 = .ok (.getfield 65, 3) := by decide +kernel
theorem dX10_subscriberIs_114 : decode cX10_subscriberIs 114 = .ok (.getfield 179, 3) := by decide +kernel
theorem dX10_subscriberIs_117 : decode cX10_subscriberIs 117 = .ok (.iload_n 3, 1) := by decide +kernel
theorem dX10_subscriberIs_118 : decode cX10_subscriberIs 118 = .ok (.iand, 1) := by decide +kernel
theorem dX10_subscriberIs_119 : decode cX10_subscriberIs 119 = .ok (.ifCond .ne 7, 3) := by decide +kernel
theorem dX10_subscriberIs_122 : decode cX10_subscriberIs 122 = .ok (.iconst 0, 1) := by decide +kernel
theorem dX10_subscriberIs_123 : decode cX10_subscriberIs 123 = .ok (.goto 4, 3) := by decide +kernel
theorem dX10_subscriberIs_126 : decode cX10_subscriberIs 126 = .ok (.iconst 1, 1) := by decide +kernel
theorem dX10_subscriberIs_127 : decode cX10_subscriberIs 127 = .ok (.ireturn, 1) := by decide +kernel
theorem dX10_subscriberIs_128 : decode cX10_subscriberIs 128 = .ok (.aload_n 0, 1) := by decide +kernel
theorem dX10_subscriberIs_129 : decode cX10_subscriberIs 129 = .ok (.getfield 65, 3) := by decide +kernel
theorem dX10_subscriberIs_132 : decode cX10_subscriberIs 132 = .ok (.getfield 182, 3) := by decide +kernel
theorem dX10_subscriberIs_135 : decode cX10_subscriberIs 135 = .ok (.iload_n 1, 1) := by decide +kernel
theorem dX10_subscriberIs_136 : decode cX10_subscriberIs 136 = .ok (.iaload, 1) := by decide +kernel
theorem dX10_subscriberIs_137 : decode cX10_subscriberIs 137 = .ok (.ireturn, 1) := by decide +kernel
theorem dX10_subscriberIs_138 : decode cX10_subscriberIs 138 = .ok (.aload_n 0, 1) := by decide +kernel
theorem dX10_subscriberIs_139 : decode cX10_subscriberIs 139 = .ok (.getfield 65, 3) := by decide +kernel
theorem dX10_subscriberIs_142 : decode cX10_subscriberIs 142 = .ok (.iload_n 1, 1) := by decide +kernel
theorem dX10_subscriberIs_143 : decode cX10_subscriberIs 143 = .ok (.invokevirtual 185, 3) := by decide +kernel
theorem dX10_subscriberIs_146 : decode cX10_subscriberIs 146 = .ok (.ireturn, 1) := by decide +kernel
theorem dX10_subscriberIs_147 : decode cX10_subscriberIs 147 = .ok (.aload_n 0, 1) := by decide +kernel
theorem dX10_subscriberIs_148 : decode cX10_subscriberIs 148 = .ok (.getfield 65, 3) := by decide +kernel
theorem dX10_subscriberIs_151 : decode cX10_subscriberIs 151 = .ok (.getfield 188, 3) := by decide +kernel
theorem dX10_subscriberIs_154 : decode cX10_subscriberIs 154 = .ok (.iload_n 1, 1) := by decide +kernel
theorem dX10_subscriberIs_155 : decode cX10_subscriberIs 155 = .ok (.iaload, 1) := by decide +kernel
theorem dX10_subscriberIs_156 : decode cX10_subscriberIs 156 = .ok (.ireturn, 1) := by decide +kernel
theorem dX10_subscriberIs_157 : decode cX10_subscriberIs 157 = .ok (.aload_n 0, 1) := by decide +kernel
theorem dX10_subscriberIs_158 : decode cX10_subscriberIs 158 = .ok (.getfield 65, 3) := by decide +kernel
theorem dX10_subscriberIs_161 : decode cX10_subscriberIs 161 = .ok (.getfield 191, 3) := by decide +kernel
theorem dX10_subscriberIs_164 : decode cX10_subscriberIs 164 = .ok (.iload_n 1, 1) := by decide +kernel
theorem dX10_subscriberIs_165 : decode cX10_subscriberIs 165 = .ok (.iaload, 1) := by decide +kernel
theorem dX10_subscriberIs_166 : decode cX10_subscriberIs 166 = .ok (.ireturn, 1) := by decide +kernel
theorem dX10_subscriberIs_167 : decode cX10_subscriberIs 167 = .ok (.iconst (-1), 1) := by decide +kernel
theorem dX10_subscriberIs_168 : decode cX10_subscriberIs 168 = .ok (.ireturn, 1) := by decide +kernel
theorem dX10_callIs_0 : decode cX10_callIs 0 = .ok (.iload_n 1, 1) := by decide +kernel
theorem dX10_callIs_1 : decode cX10_callIs 1 = .ok (.iconst 0, 1) := by decide +kernel
theorem dX10_callIs_2 : decode cX10_callIs 2 = .ok (.bipush 19, 2) := by decide +kernel
theorem dX10_callIs_4 : decode cX10_callIs 4 = .ok (.invokestatic 79, 3) := by decide +kernel
theorem dX10_callIs_7 : decode cX10_callIs 7 = .ok (.ifCond .eq 12, 3) := by decide +kernel
theorem dX10_callIs_10 : decode cX10_callIs 10 = .ok (.iload_n 2, 1) := by decide +kernel
theorem dX10_callIs_11 : decode cX10_callIs 11 = .ok (.iconst 0, 1) := by decide +kernel
theorem dX10_callIs_12 : decode cX10_callIs 12 = .ok (.iconst 4, 1) := by decide +kernel
theorem dX10_callIs_13 : decode cX10_callIs 13 = .ok (.invokestatic 79, 3) := by decide +kernel
theorem dX10_callIs_16 : decode cX10_callIs 16 = .ok (.ifCond .ne 5, 3) := by decide +kernel
theorem dX10_callIs_19 : decode cX10_callIs 19 = .ok (.iconst (-1), 1) := by decide +kernel
theorem dX10_callIs_20 : decode cX10_callIs 20 = .ok (.ireturn, 1) := by decide +kernel
theorem dX10_callIs_21 : decode cX10_callIs 21 = .ok (.aload_n 0, 1) := by decide +kernel
theorem dX10_callIs_22 : decode cX10_callIs 22 = .ok (.getfield 65, 3) := by decide +kernel
theorem dX10_callIs_25 : decode cX10_callIs 25 = .ok (.getfield 194, 3) := by decide +kernel
theorem dX10_callIs_28 : decode cX10_callIs 28 = .ok (.iload_n 1, 1) := by decide +kernel
theorem dX10_callIs_29 : decode cX10_callIs 29 = .ok (.iaload, 1) := by decide +kernel
theorem dX10_callIs_30 : decode cX10_callIs 30 = .ok (.ifCond .ne 6, 3) := by decide +kernel
theorem dX10_callIs_33 : decode cX10_callIs 33 = .ok (.bipush (-2), 2) := by decide +kernel
theorem dX10_callIs_35 : decode cX10_callIs 35 = .ok (.ireturn, 1) := by decide +kernel
theorem dX10_callIs_36 : decode cX10_callIs 36 = .ok (.iload_n 2, 1) := by decide +kernel
theorem dX10_callIs_37 : decode cX10_callIs 37 = .ok (.tableswitch 71 0 3 #[31, 41, 51, 61], 31) := by decide +kernel
theorem dX10_callIs_68 : decode cX10_callIs 68 = .ok (.aload_n 0, 1) := by decide +kernel
theorem dX10_callIs_69 : decode cX10_callIs 69 = .ok (.getfield 65, 3) := by decide +kernel
theorem dX10_callIs_72 : decode cX10_callIs 72 = .ok (.getfield 197, 3) := by decide +kernel
theorem dX10_callIs_75 : decode cX10_callIs 75 = .ok (.iload_n 1, 1) := by decide +kernel
theorem dX10_callIs_76 : decode cX10_callIs 76 = .ok (.iaload, 1) := by decide +kernel
theorem dX10_callIs_77 : decode cX10_callIs 77 = .ok (.ireturn, 1) := by decide +kernel
theorem dX10_callIs_78 : decode cX10_callIs 78 = .ok (.aload_n 0, 1) := by decide +kernel
theorem dX10_callIs_79 : decode cX10_callIs 79 = .ok (.getfield 65, 3) := by decide +kernel
theorem dX10_callIs_82 : decode cX10_callIs 82 = .ok (.getfield 200, 3) := by decide +kernel
theorem dX10_callIs_85 : decode cX10_callIs 85 = .ok (.iload_n 1, 1) := by decide +kernel
theorem dX10_callIs_86 : decode cX10_callIs 86 = .ok (.iaload, 1) := by decide +kernel
theorem dX10_callIs_87 : decode cX10_callIs 87 = .ok (.ireturn, 1) := by decide +kernel
theorem dX10_callIs_88 : decode cX10_callIs 88 = .ok (.aload_n 0, 1) := by decide +kernel
theorem dX10_callIs_89 : decode cX10_callIs 89 = .ok (.getfield 65, 3) := by decide +kernel
theorem dX10_callIs_92 : decode cX10_callIs 92 = .ok (.getfield 203, 3) := by decide +kernel
theorem dX10_callIs_95 : decode cX10_callIs 95 = .ok (.iload_n 1, 1) := by decide +kernel
theorem dX10_callIs_96 : decode cX10_callIs 96 = .ok (.iaload, 1) := by decide +kernel
theorem dX10_callIs_97 : decode cX10_callIs 97 = .ok (.ireturn, 1) := by decide +kernel
theorem dX10_callIs_98 : decode cX10_callIs 98 = .ok (.aload_n 0, 1) := by decide +kernel
theorem dX10_callIs_99 : decode cX10_callIs 99 = .ok (.getfield 65, 3) := by decide +kernel
theorem dX10_callIs_102 : decode cX10_callIs 102 = .ok (.getfield 194, 3) := by decide +kernel
theorem dX10_callIs_105 : decode cX10_callIs 105 = .ok (.iload_n 1, 1) := by decide +kernel
theorem dX10_callIs_106 : decode cX10_callIs 106 = .ok (.iaload, 1) := by decide +kernel
theorem dX10_callIs_107 : decode cX10_callIs 107 = .ok (.ireturn, 1) := by decide +kernel
theorem dX10_callIs_108 : decode cX10_callIs 108 = .ok (.aload_n 0, 1) := by decide +kernel
theorem dX10_callIs_109 : decode cX10_callIs 109 = .ok (.getfield 65, 3) := by decide +kernel
theorem dX10_callIs_112 : decode cX10_callIs 112 = .ok (.getfield 206, 3) := by decide +kernel
theorem dX10_callIs_115 : decode cX10_callIs 115 = .ok (.iload_n 1, 1) := by decide +kernel
theorem dX10_callIs_116 : decode cX10_callIs 116 = .ok (.iaload, 1) := by decide +kernel
theorem dX10_callIs_117 : decode cX10_callIs 117 = .ok (.ireturn, 1) := by decide +kernel
theorem dX10_circuits_0 : decode cX10_circuits 0 = .ok (.iload_n 1, 1) := by decide +kernel
theorem dX10_circuits_1 : decode cX10_circuits 1 = .ok (.iload_n 2, 1) := by decide +kernel
theorem dX10_circuits_2 : decode cX10_circuits 2 = .ok (.invokestatic 75, 3) := by decide +kernel
theorem dX10_circuits_5 : decode cX10_circuits 5 = .ok (.ifCond .eq 12, 3) := by decide +kernel
theorem dX10_circuits_8 : decode cX10_circuits 8 = .ok (.iload_n 3, 1) := by decide +kernel
theorem dX10_circuits_9 : decode cX10_circuits 9 = .ok (.iconst 0, 1) := by decide +kernel
theorem dX10_circuits_10 : decode cX10_circuits 10 = .ok (.iconst 1, 1) := by decide +kernel
theorem dX10_circuits_11 : decode cX10_circuits 11 = .ok (.invokestatic 79, 3) := by decide +kernel
theorem dX10_circuits_14 : decode cX10_circuits 14 = .ok (.ifCond .ne 5, 3) := by decide +kernel
theorem dX10_circuits_17 : decode cX10_circuits 17 = .ok (.iconst (-1), 1) := by decide +kernel
theorem dX10_circuits_18 : decode cX10_circuits 18 = .ok (.ireturn, 1) := by decide +kernel
theorem dX10_circuits_19 : decode cX10_circuits 19 = .ok (.aload_n 0, 1) := by decide +kernel
theorem dX10_circuits_20 : decode cX10_circuits 20 = .ok (.getfield 19, 3) := by decide +kernel
theorem dX10_circuits_23 : decode cX10_circuits 23 = .ok (.getfield 209, 3) := by decide +kernel
theorem dX10_circuits_26 : decode cX10_circuits 26 = .ok (.iload_n 1, 1) := by decide +kernel
theorem dX10_circuits_27 : decode cX10_circuits 27 = .ok (.bipush 8, 2) := by decide +kernel
theorem dX10_circuits_29 : decode cX10_circuits 29 = .ok (.imul, 1) := by decide +kernel
theorem dX10_circuits_30 : decode cX10_circuits 30 = .ok (.iload_n 2, 1) := by decide +kernel
theorem dX10_circuits_31 : decode cX10_circuits 31 = .ok (.iadd, 1) := by decide +kernel
theorem dX10_circuits_32 : decode cX10_circuits 32 = .ok (.iaload, 1) := by decide +kernel
theorem dX10_circuits_33 : decode cX10_circuits 33 = .ok (.istore 4, 2) := by decide +kernel
theorem dX10_circuits_35 : decode cX10_circuits 35 = .ok (.iload_n 3, 1) := by decide +kernel
theorem dX10_circuits_36 : decode cX10_circuits 36 = .ok (.ifCond .ne 8, 3) := by decide +kernel
theorem dX10_circuits_39 : decode cX10_circuits 39 = .ok (.iload 4, 2) := by decide +kernel
theorem dX10_circuits_41 : decode cX10_circuits 41 = .ok (.goto 24, 3) := by decide +kernel
theorem dX10_circuits_44 : decode cX10_circuits 44 = .ok (.iconst 0, 1) := by decide +kernel
theorem dX10_circuits_45 : decode cX10_circuits 45 = .ok (.iload 4, 2) := by decide +kernel
theorem dX10_circuits_47 : decode cX10_circuits 47 = .ok (.aload_n 0, 1) := by decide +kernel
theorem dX10_circuits_48 : decode cX10_circuits 48 = .ok (.getfield 65, 3) := by decide +kernel
theorem dX10_circuits_51 : decode cX10_circuits 51 = .ok (.getfield 212, 3) := by decide +kernel
theorem dX10_circuits_54 : decode cX10_circuits 54 = .ok (.iload_n 1, 1) := by decide +kernel
theorem dX10_circuits_55 : decode cX10_circuits 55 = .ok (.bipush 8, 2) := by decide +kernel
theorem dX10_circuits_57 : decode cX10_circuits 57 = .ok (.imul, 1) := by decide +kernel
theorem dX10_circuits_58 : decode cX10_circuits 58 = .ok (.iload_n 2, 1) := by decide +kernel
theorem dX10_circuits_59 : decode cX10_circuits 59 = .ok (.iadd, 1) := by decide +kernel
theorem dX10_circuits_60 : decode cX10_circuits 60 = .ok (.iaload, 1) := by decide +kernel
theorem dX10_circuits_61 : decode cX10_circuits 61 = .ok (.isub, 1) := by decide +kernel
theorem dX10_circuits_62 : decode cX10_circuits 62 = .ok (.invokestatic 215, 3) := by decide +kernel
theorem dX10_circuits_65 : decode cX10_circuits 65 = .ok (.ireturn, 1) := by decide +kernel
theorem dX10_route_0 : decode cX10_route 0 = .ok (.iload_n 1, 1) := by decide +kernel
theorem dX10_route_1 : decode cX10_route 1 = .ok (.invokestatic 87, 3) := by decide +kernel
theorem dX10_route_4 : decode cX10_route 4 = .ok (.ifCond .eq 23, 3) := by decide +kernel
theorem dX10_route_7 : decode cX10_route 7 = .ok (.iload_n 2, 1) := by decide +kernel
theorem dX10_route_8 : decode cX10_route 8 = .ok (.invokestatic 87, 3) := by decide +kernel
theorem dX10_route_11 : decode cX10_route 11 = .ok (.ifCond .eq 16, 3) := by decide +kernel
theorem dX10_route_14 : decode cX10_route 14 = .ok (.iload_n 3, 1) := by decide +kernel
theorem dX10_route_15 : decode cX10_route 15 = .ok (.invokestatic 87, 3) := by decide +kernel
theorem dX10_route_18 : decode cX10_route 18 = .ok (.ifCond .ne 11, 3) := by decide +kernel
theorem dX10_route_21 : decode cX10_route 21 = .ok (.iload_n 3, 1) := by decide +kernel
theorem dX10_route_22 : decode cX10_route 22 = .ok (.bipush 100, 2) := by decide +kernel
theorem dX10_route_24 : decode cX10_route 24 = .ok (.if_icmp .eq 5, 3) := by decide +kernel
theorem dX10_route_27 : decode cX10_route 27 = .ok (.iconst (-1), 1) := by decide +kernel
theorem dX10_route_28 : decode cX10_route 28 = .ok (.ireturn, 1) := by decide +kernel
theorem dX10_route_29 : decode cX10_route 29 = .ok (.aload_n 0, 1) := by decide +kernel
theorem dX10_route_30 : decode cX10_route 30 = .ok (.getfield 19, 3) := by decide +kernel
theorem dX10_route_33 : decode cX10_route 33 = .ok (.iload_n 1, 1) := by decide +kernel
theorem dX10_route_34 : decode cX10_route 34 = .ok (.iload_n 2, 1) := by decide +kernel
theorem dX10_route_35 : decode cX10_route 35 = .ok (.aload_n 0, 1) := by decide +kernel
theorem dX10_route_36 : decode cX10_route 36 = .ok (.getfield 65, 3) := by decide +kernel
theorem dX10_route_39 : decode cX10_route 39 = .ok (.getfield 212, 3) := by decide +kernel
theorem dX10_route_42 : decode cX10_route 42 = .ok (.invokevirtual 220, 3) := by decide +kernel
theorem dX10_route_45 : decode cX10_route 45 = .ok (.istore 4, 2) := by decide +kernel
theorem dX10_route_47 : decode cX10_route 47 = .ok (.iload 4, 2) := by decide +kernel
theorem dX10_route_49 : decode cX10_route 49 = .ok (.iconst (-1), 1) := by decide +kernel
theorem dX10_route_50 : decode cX10_route 50 = .ok (.if_icmp .ne 6, 3) := by decide +kernel
theorem dX10_route_53 : decode cX10_route 53 = .ok (.bipush (-2), 2) := by decide +kernel
theorem dX10_route_55 : decode cX10_route 55 = .ok (.ireturn, 1) := by decide +kernel
theorem dX10_route_56 : decode cX10_route 56 = .ok (.iload_n 3, 1) := by decide +kernel
theorem dX10_route_57 : decode cX10_route 57 = .ok (.bipush 100, 2) := by decide +kernel
theorem dX10_route_59 : decode cX10_route 59 = .ok (.if_icmp .ne 6, 3) := by decide +kernel
theorem dX10_route_62 : decode cX10_route 62 = .ok (.iload 4, 2) := by decide +kernel
theorem dX10_route_64 : decode cX10_route 64 = .ok (.ireturn, 1) := by decide +kernel
theorem dX10_route_65 : decode cX10_route 65 = .ok (.iload_n 3, 1) := by decide +kernel
theorem dX10_route_66 : decode cX10_route 66 = .ok (.iload 4, 2) := by decide +kernel
theorem dX10_route_68 : decode cX10_route 68 = .ok (.if_icmp .gt 15, 3) := by decide +kernel
theorem dX10_route_71 : decode cX10_route 71 = .ok (.aload_n 0, 1) := by decide +kernel
theorem dX10_route_72 : decode cX10_route 72 = .ok (.getfield 19, 3) := by decide +kernel
theorem dX10_route_75 : decode cX10_route 75 = .ok (.getfield 224, 3) := by decide +kernel
theorem dX10_route_78 : decode cX10_route 78 = .ok (.iload_n 3, 1) := by decide +kernel
theorem dX10_route_79 : decode cX10_route 79 = .ok (.iaload, 1) := by decide +kernel
theorem dX10_route_80 : decode cX10_route 80 = .ok (.goto 5, 3) := by decide +kernel
theorem dX10_route_83 : decode cX10_route 83 = .ok (.bipush (-4), 2) := by decide +kernel
theorem dX10_route_85 : decode cX10_route 85 = .ok (.ireturn, 1) := by decide +kernel
theorem dX10_fundLasts_0 : decode cX10_fundLasts 0 = .ok (.iload_n 1, 1) := by decide +kernel
theorem dX10_fundLasts_1 : decode cX10_fundLasts 1 = .ok (.iconst 1, 1) := by decide +kernel
theorem dX10_fundLasts_2 : decode cX10_fundLasts 2 = .ok (.sipush 240, 3) := by decide +kernel
theorem dX10_fundLasts_5 : decode cX10_fundLasts 5 = .ok (.invokestatic 79, 3) := by decide +kernel
theorem dX10_fundLasts_8 : decode cX10_fundLasts 8 = .ok (.ifCond .ne 5, 3) := by decide +kernel
theorem dX10_fundLasts_11 : decode cX10_fundLasts 11 = .ok (.iconst (-1), 1) := by decide +kernel
theorem dX10_fundLasts_12 : decode cX10_fundLasts 12 = .ok (.ireturn, 1) := by decide +kernel
theorem dX10_fundLasts_13 : decode cX10_fundLasts 13 = .ok (.aload_n 0, 1) := by decide +kernel
theorem dX10_fundLasts_14 : decode cX10_fundLasts 14 = .ok (.getfield 72, 3) := by decide +kernel
theorem dX10_fundLasts_17 : decode cX10_fundLasts 17 = .ok (.aload_n 0, 1) := by decide +kernel
theorem dX10_fundLasts_18 : decode cX10_fundLasts 18 = .ok (.getfield 65, 3) := by decide +kernel
theorem dX10_fundLasts_21 : decode cX10_fundLasts 21 = .ok (.invokevirtual 154, 3) := by decide +kernel
theorem dX10_fundLasts_24 : decode cX10_fundLasts 24 = .ok (.aload_n 0, 1) := by decide +kernel
theorem dX10_fundLasts_25 : decode cX10_fundLasts 25 = .ok (.getfield 58, 3) := by decide +kernel
theorem dX10_fundLasts_28 : decode cX10_fundLasts 28 = .ok (.aload_n 0, 1) := by decide +kernel
theorem dX10_fundLasts_29 : decode cX10_fundLasts 29 = .ok (.getfield 72, 3) := by decide +kernel
theorem dX10_fundLasts_32 : decode cX10_fundLasts 32 = .ok (.iload_n 1, 1) := by decide +kernel
theorem dX10_fundLasts_33 : decode cX10_fundLasts 33 = .ok (.invokevirtual 227, 3) := by decide +kernel
theorem dX10_fundLasts_36 : decode cX10_fundLasts 36 = .ok (.ireturn, 1) := by decide +kernel
theorem dX10_atOnce_0 : decode cX10_atOnce 0 = .ok (.iload_n 1, 1) := by decide +kernel
theorem dX10_atOnce_1 : decode cX10_atOnce 1 = .ok (.iload_n 2, 1) := by decide +kernel
theorem dX10_atOnce_2 : decode cX10_atOnce 2 = .ok (.invokestatic 75, 3) := by decide +kernel
theorem dX10_atOnce_5 : decode cX10_atOnce 5 = .ok (.ifCond .eq 17, 3) := by decide +kernel
theorem dX10_atOnce_8 : decode cX10_atOnce 8 = .ok (.aload_n 0, 1) := by decide +kernel
theorem dX10_atOnce_9 : decode cX10_atOnce 9 = .ok (.getfield 19, 3) := by decide +kernel
theorem dX10_atOnce_12 : decode cX10_atOnce 12 = .ok (.iload_n 1, 1) := by decide +kernel
theorem dX10_atOnce_13 : decode cX10_atOnce 13 = .ok (.iload_n 2, 1) := by decide +kernel
theorem dX10_atOnce_14 : decode cX10_atOnce 14 = .ok (.bipush 9, 2) := by decide +kernel
theorem dX10_atOnce_16 : decode cX10_atOnce 16 = .ok (.invokevirtual 231, 3) := by decide +kernel
theorem dX10_atOnce_19 : decode cX10_atOnce 19 = .ok (.goto 4, 3) := by decide +kernel
theorem dX10_atOnce_22 : decode cX10_atOnce 22 = .ok (.iconst (-1), 1) := by decide +kernel
theorem dX10_atOnce_23 : decode cX10_atOnce 23 = .ok (.ireturn, 1) := by decide +kernel
theorem dX10_stops_0 : decode cX10_stops 0 = .ok (.iload_n 1, 1) := by decide +kernel
theorem dX10_stops_1 : decode cX10_stops 1 = .ok (.iload_n 2, 1) := by decide +kernel
theorem dX10_stops_2 : decode cX10_stops 2 = .ok (.invokestatic 75, 3) := by decide +kernel
theorem dX10_stops_5 : decode cX10_stops 5 = .ok (.ifCond .eq 16, 3) := by decide +kernel
theorem dX10_stops_8 : decode cX10_stops 8 = .ok (.aload_n 0, 1) := by decide +kernel
theorem dX10_stops_9 : decode cX10_stops 9 = .ok (.getfield 19, 3) := by decide +kernel
theorem dX10_stops_12 : decode cX10_stops 12 = .ok (.iload_n 1, 1) := by decide +kernel
theorem dX10_stops_13 : decode cX10_stops 13 = .ok (.iload_n 2, 1) := by decide +kernel
theorem dX10_stops_14 : decode cX10_stops 14 = .ok (.iconst 1, 1) := by decide +kernel
theorem dX10_stops_15 : decode cX10_stops 15 = .ok (.invokevirtual 231, 3) := by decide +kernel
theorem dX10_stops_18 : decode cX10_stops 18 = .ok (.goto 4, 3) := by decide +kernel
theorem dX10_stops_21 : decode cX10_stops 21 = .ok (.iconst (-1), 1) := by decide +kernel
theorem dX10_stops_22 : decode cX10_stops 22 = .ok (.ireturn, 1) := by decide +kernel
theorem dX10_inTheMiddle_0 : decode cX10_inTheMiddle 0 = .ok (.aload_n 0, 1) := by decide +kernel
theorem dX10_inTheMiddle_1 : decode cX10_inTheMiddle 1 = .ok (.getfield 19, 3) := by decide +kernel
theorem dX10_inTheMiddle_4 : decode cX10_inTheMiddle 4 = .ok (.invokevirtual 235, 3) := by decide +kernel
theorem dX10_inTheMiddle_7 : decode cX10_inTheMiddle 7 = .ok (.ireturn, 1) := by decide +kernel
theorem dX10_cut_0 : decode cX10_cut 0 = .ok (.iload_n 1, 1) := by decide +kernel
theorem dX10_cut_1 : decode cX10_cut 1 = .ok (.iconst 1, 1) := by decide +kernel
theorem dX10_cut_2 : decode cX10_cut 2 = .ok (.bipush 12, 2) := by decide +kernel
theorem dX10_cut_4 : decode cX10_cut 4 = .ok (.invokestatic 79, 3) := by decide +kernel
theorem dX10_cut_7 : decode cX10_cut 7 = .ok (.ifCond .eq 36, 3) := by decide +kernel
theorem dX10_cut_10 : decode cX10_cut 10 = .ok (.iload_n 2, 1) := by decide +kernel
theorem dX10_cut_11 : decode cX10_cut 11 = .ok (.iconst 0, 1) := by decide +kernel
theorem dX10_cut_12 : decode cX10_cut 12 = .ok (.sipush 3060, 3) := by decide +kernel
theorem dX10_cut_15 : decode cX10_cut 15 = .ok (.invokestatic 79, 3) := by decide +kernel
theorem dX10_cut_18 : decode cX10_cut 18 = .ok (.ifCond .eq 25, 3) := by decide +kernel
theorem dX10_cut_21 : decode cX10_cut 21 = .ok (.iload_n 3, 1) := by decide +kernel
theorem dX10_cut_22 : decode cX10_cut 22 = .ok (.iconst 0, 1) := by decide +kernel
theorem dX10_cut_23 : decode cX10_cut 23 = .ok (.iconst 1, 1) := by decide +kernel
theorem dX10_cut_24 : decode cX10_cut 24 = .ok (.invokestatic 79, 3) := by decide +kernel
theorem dX10_cut_27 : decode cX10_cut 27 = .ok (.ifCond .eq 16, 3) := by decide +kernel
theorem dX10_cut_30 : decode cX10_cut 30 = .ok (.aload_n 0, 1) := by decide +kernel
theorem dX10_cut_31 : decode cX10_cut 31 = .ok (.getfield 10, 3) := by decide +kernel
theorem dX10_cut_34 : decode cX10_cut 34 = .ok (.iconst 2, 1) := by decide +kernel
theorem dX10_cut_35 : decode cX10_cut 35 = .ok (.iload_n 1, 1) := by decide +kernel
theorem dX10_cut_36 : decode cX10_cut 36 = .ok (.imul, 1) := by decide +kernel
theorem dX10_cut_37 : decode cX10_cut 37 = .ok (.invokevirtual 117, 3) := by decide +kernel
theorem dX10_cut_40 : decode cX10_cut 40 = .ok (.ifCond .ne 5, 3) := by decide +kernel
theorem dX10_cut_43 : decode cX10_cut 43 = .ok (.iconst (-1), 1) := by decide +kernel
theorem dX10_cut_44 : decode cX10_cut 44 = .ok (.ireturn, 1) := by decide +kernel
theorem dX10_cut_45 : decode cX10_cut 45 = .ok (.aload_n 0, 1) := by decide +kernel
theorem dX10_cut_46 : decode cX10_cut 46 = .ok (.getfield 35, 3) := by decide +kernel
theorem dX10_cut_49 : decode cX10_cut 49 = .ok (.iload_n 1, 1) := by decide +kernel
theorem dX10_cut_50 : decode cX10_cut 50 = .ok (.iload_n 2, 1) := by decide +kernel
theorem dX10_cut_51 : decode cX10_cut 51 = .ok (.iload_n 3, 1) := by decide +kernel
theorem dX10_cut_52 : decode cX10_cut 52 = .ok (.iconst 1, 1) := by decide +kernel
theorem dX10_cut_53 : decode cX10_cut 53 = .ok (.if_icmp .ne 7, 3) := by decide +kernel
theorem dX10_cut_56 : decode cX10_cut 56 = .ok (.iconst 1, 1) := by decide +kernel
theorem dX10_cut_57 : decode cX10_cut 57 = .ok (.goto 4, 3) := by decide +kernel
theorem dX10_cut_60 : decode cX10_cut 60 = .ok (.iconst 0, 1) := by decide +kernel
theorem dX10_cut_61 : decode cX10_cut 61 = .ok (.invokevirtual 238, 3) := by decide +kernel
theorem dX10_cut_64 : decode cX10_cut 64 = .ok (.ireturn, 1) := by decide +kernel
theorem dX10_heir_0 : decode cX10_heir 0 = .ok (.iload_n 1, 1) := by decide +kernel
theorem dX10_heir_1 : decode cX10_heir 1 = .ok (.iconst 1, 1) := by decide +kernel
theorem dX10_heir_2 : decode cX10_heir 2 = .ok (.bipush 12, 2) := by decide +kernel
theorem dX10_heir_4 : decode cX10_heir 4 = .ok (.invokestatic 79, 3) := by decide +kernel
theorem dX10_heir_7 : decode cX10_heir 7 = .ok (.ifCond .eq 34, 3) := by decide +kernel
theorem dX10_heir_10 : decode cX10_heir 10 = .ok (.iload_n 2, 1) := by decide +kernel
theorem dX10_heir_11 : decode cX10_heir 11 = .ok (.iconst 0, 1) := by decide +kernel
theorem dX10_heir_12 : decode cX10_heir 12 = .ok (.sipush 3060, 3) := by decide +kernel
theorem dX10_heir_15 : decode cX10_heir 15 = .ok (.invokestatic 79, 3) := by decide +kernel
theorem dX10_heir_18 : decode cX10_heir 18 = .ok (.ifCond .eq 23, 3) := by decide +kernel
theorem dX10_heir_21 : decode cX10_heir 21 = .ok (.iload_n 3, 1) := by decide +kernel
theorem dX10_heir_22 : decode cX10_heir 22 = .ok (.iconst 0, 1) := by decide +kernel
theorem dX10_heir_23 : decode cX10_heir 23 = .ok (.iconst 1, 1) := by decide +kernel
theorem dX10_heir_24 : decode cX10_heir 24 = .ok (.invokestatic 79, 3) := by decide +kernel
theorem dX10_heir_27 : decode cX10_heir 27 = .ok (.ifCond .eq 14, 3) := by decide +kernel
theorem dX10_heir_30 : decode cX10_heir 30 = .ok (.aload_n 0, 1) := by decide +kernel
theorem dX10_heir_31 : decode cX10_heir 31 = .ok (.getfield 10, 3) := by decide +kernel
theorem dX10_heir_34 : decode cX10_heir 34 = .ok (.iload_n 1, 1) := by decide +kernel
theorem dX10_heir_35 : decode cX10_heir 35 = .ok (.invokevirtual 117, 3) := by decide +kernel
theorem dX10_heir_38 : decode cX10_heir 38 = .ok (.ifCond .ne 5, 3) := by decide +kernel
theorem dX10_heir_41 : decode cX10_heir 41 = .ok (.iconst (-1), 1) := by decide +kernel
theorem dX10_heir_42 : decode cX10_heir 42 = .ok (.ireturn, 1) := by decide +kernel
theorem dX10_heir_43 : decode cX10_heir 43 = .ok (.aload_n 0, 1) := by decide +kernel
theorem dX10_heir_44 : decode cX10_heir 44 = .ok (.getfield 35, 3) := by decide +kernel
theorem dX10_heir_47 : decode cX10_heir 47 = .ok (.iload_n 1, 1) := by decide +kernel
theorem dX10_heir_48 : decode cX10_heir 48 = .ok (.iload_n 2, 1) := by decide +kernel
theorem dX10_heir_49 : decode cX10_heir 49 = .ok (.iload_n 3, 1) := by decide +kernel
theorem dX10_heir_50 : decode cX10_heir 50 = .ok (.iconst 1, 1) := by decide +kernel
theorem dX10_heir_51 : decode cX10_heir 51 = .ok (.if_icmp .ne 7, 3) := by decide +kernel
theorem dX10_heir_54 : decode cX10_heir 54 = .ok (.iconst 1, 1) := by decide +kernel
theorem dX10_heir_55 : decode cX10_heir 55 = .ok (.goto 4, 3) := by decide +kernel
theorem dX10_heir_58 : decode cX10_heir 58 = .ok (.iconst 0, 1) := by decide +kernel
theorem dX10_heir_59 : decode cX10_heir 59 = .ok (.invokevirtual 242, 3) := by decide +kernel
theorem dX10_heir_62 : decode cX10_heir 62 = .ok (.ireturn, 1) := by decide +kernel
theorem dX10_busy_0 : decode cX10_busy 0 = .ok (.iload_n 2, 1) := by decide +kernel
theorem dX10_busy_1 : decode cX10_busy 1 = .ok (.bipush 100, 2) := by decide +kernel
theorem dX10_busy_3 : decode cX10_busy 3 = .ok (.bipush 120, 2) := by decide +kernel
theorem dX10_busy_5 : decode cX10_busy 5 = .ok (.invokestatic 79, 3) := by decide +kernel
theorem dX10_busy_8 : decode cX10_busy 8 = .ok (.istore_n 3, 1) := by decide +kernel
theorem dX10_busy_9 : decode cX10_busy 9 = .ok (.iload_n 1, 1) := by decide +kernel
theorem dX10_busy_10 : decode cX10_busy 10 = .ok (.iconst 1, 1) := by decide +kernel
theorem dX10_busy_11 : decode cX10_busy 11 = .ok (.bipush 10, 2) := by decide +kernel
theorem dX10_busy_13 : decode cX10_busy 13 = .ok (.invokestatic 79, 3) := by decide +kernel
theorem dX10_busy_16 : decode cX10_busy 16 = .ok (.ifCond .eq 29, 3) := by decide +kernel
theorem dX10_busy_19 : decode cX10_busy 19 = .ok (.iload_n 2, 1) := by decide +kernel
theorem dX10_busy_20 : decode cX10_busy 20 = .ok (.iconst 0, 1) := by decide +kernel
theorem dX10_busy_21 : decode cX10_busy 21 = .ok (.iconst 1, 1) := by decide +kernel
theorem dX10_busy_22 : decode cX10_busy 22 = .ok (.invokestatic 79, 3) := by decide +kernel
theorem dX10_busy_25 : decode cX10_busy 25 = .ok (.ifCond .ne 7, 3) := by decide +kernel
theorem dX10_busy_28 : decode cX10_busy 28 = .ok (.iload_n 3, 1) := by decide +kernel
theorem dX10_busy_29 : decode cX10_busy 29 = .ok (.ifCond .eq 16, 3) := by decide +kernel
theorem dX10_busy_32 : decode cX10_busy 32 = .ok (.aload_n 0, 1) := by decide +kernel
theorem dX10_busy_33 : decode cX10_busy 33 = .ok (.getfield 10, 3) := by decide +kernel
theorem dX10_busy_36 : decode cX10_busy 36 = .ok (.iconst 2, 1) := by decide +kernel
theorem dX10_busy_37 : decode cX10_busy 37 = .ok (.iload_n 1, 1) := by decide +kernel
theorem dX10_busy_38 : decode cX10_busy 38 = .ok (.imul, 1) := by decide +kernel
theorem dX10_busy_39 : decode cX10_busy 39 = .ok (.invokevirtual 117, 3) := by decide +kernel
theorem dX10_busy_42 : decode cX10_busy 42 = .ok (.ifCond .ne 5, 3) := by decide +kernel
theorem dX10_busy_45 : decode cX10_busy 45 = .ok (.iconst (-1), 1) := by decide +kernel
theorem dX10_busy_46 : decode cX10_busy 46 = .ok (.ireturn, 1) := by decide +kernel
theorem dX10_busy_47 : decode cX10_busy 47 = .ok (.aload_n 0, 1) := by decide +kernel
theorem dX10_busy_48 : decode cX10_busy 48 = .ok (.getfield 35, 3) := by decide +kernel
theorem dX10_busy_51 : decode cX10_busy 51 = .ok (.iload_n 1, 1) := by decide +kernel
theorem dX10_busy_52 : decode cX10_busy 52 = .ok (.invokevirtual 245, 3) := by decide +kernel
theorem dX10_busy_55 : decode cX10_busy 55 = .ok (.ifCond .ne 6, 3) := by decide +kernel
theorem dX10_busy_58 : decode cX10_busy 58 = .ok (.bipush (-2), 2) := by decide +kernel
theorem dX10_busy_60 : decode cX10_busy 60 = .ok (.ireturn, 1) := by decide +kernel
theorem dX10_busy_61 : decode cX10_busy 61 = .ok (.iload_n 3, 1) := by decide +kernel
theorem dX10_busy_62 : decode cX10_busy 62 = .ok (.ifCond .eq 18, 3) := by decide +kernel
theorem dX10_busy_65 : decode cX10_busy 65 = .ok (.aload_n 0, 1) := by decide +kernel
theorem dX10_busy_66 : decode cX10_busy 66 = .ok (.getfield 35, 3) := by decide +kernel
theorem dX10_busy_69 : decode cX10_busy 69 = .ok (.iload_n 1, 1) := by decide +kernel
theorem dX10_busy_70 : decode cX10_busy 70 = .ok (.iload_n 2, 1) := by decide +kernel
theorem dX10_busy_71 : decode cX10_busy 71 = .ok (.bipush 100, 2) := by decide +kernel
theorem dX10_busy_73 : decode cX10_busy 73 = .ok (.isub, 1) := by decide +kernel
theorem dX10_busy_74 : decode cX10_busy 74 = .ok (.invokevirtual 248, 3) := by decide +kernel
theorem dX10_busy_77 : decode cX10_busy 77 = .ok (.goto 21, 3) := by decide +kernel
theorem dX10_busy_80 : decode cX10_busy 80 = .ok (.aload_n 0, 1) := by decide +kernel
theorem dX10_busy_81 : decode cX10_busy 81 = .ok (.getfield 35, 3) := by decide +kernel
theorem dX10_busy_84 : decode cX10_busy 84 = .ok (.iload_n 1, 1) := by decide +kernel
theorem dX10_busy_85 : decode cX10_busy 85 = .ok (.iload_n 2, 1) := by decide +kernel
theorem dX10_busy_86 : decode cX10_busy 86 = .ok (.iconst 1, 1) := by decide +kernel
theorem dX10_busy_87 : decode cX10_busy 87 = .ok (.if_icmp .ne 7, 3) := by decide +kernel
theorem dX10_busy_90 : decode cX10_busy 90 = .ok (.iconst 1, 1) := by decide +kernel
theorem dX10_busy_91 : decode cX10_busy 91 = .ok (.goto 4, 3) := by decide +kernel
theorem dX10_busy_94 : decode cX10_busy 94 = .ok (.iconst 0, 1) := by decide +kernel
theorem dX10_busy_95 : decode cX10_busy 95 = .ok (.invokevirtual 251, 3) := by decide +kernel
theorem dX10_busy_98 : decode cX10_busy 98 = .ok (.ireturn, 1) := by decide +kernel
theorem dX10_cheapest_0 : decode cX10_cheapest 0 = .ok (.iload_n 3, 1) := by decide +kernel
theorem dX10_cheapest_1 : decode cX10_cheapest 1 = .ok (.bipush 100, 2) := by decide +kernel
theorem dX10_cheapest_3 : decode cX10_cheapest 3 = .ok (.if_icmp .eq 14, 3) := by decide +kernel
theorem dX10_cheapest_6 : decode cX10_cheapest 6 = .ok (.iload_n 3, 1) := by decide +kernel
theorem dX10_cheapest_7 : decode cX10_cheapest 7 = .ok (.iconst 0, 1) := by decide +kernel
theorem dX10_cheapest_8 : decode cX10_cheapest 8 = .ok (.iload_n 1, 1) := by decide +kernel
theorem dX10_cheapest_9 : decode cX10_cheapest 9 = .ok (.iconst 1, 1) := by decide +kernel
theorem dX10_cheapest_10 : decode cX10_cheapest 10 = .ok (.isub, 1) := by decide +kernel
theorem dX10_cheapest_11 : decode cX10_cheapest 11 = .ok (.invokestatic 79, 3) := by decide +kernel
theorem dX10_cheapest_14 : decode cX10_cheapest 14 = .ok (.ifCond .eq 7, 3) := by decide +kernel
theorem dX10_cheapest_17 : decode cX10_cheapest 17 = .ok (.iconst 1, 1) := by decide +kernel
theorem dX10_cheapest_18 : decode cX10_cheapest 18 = .ok (.goto 4, 3) := by decide +kernel
theorem dX10_cheapest_21 : decode cX10_cheapest 21 = .ok (.iconst 0, 1) := by decide +kernel
theorem dX10_cheapest_22 : decode cX10_cheapest 22 = .ok (.istore 4, 2) := by decide +kernel
theorem dX10_cheapest_24 : decode cX10_cheapest 24 = .ok (.iload_n 1, 1) := by decide +kernel
theorem dX10_cheapest_25 : decode cX10_cheapest 25 = .ok (.iconst 1, 1) := by decide +kernel
theorem dX10_cheapest_26 : decode cX10_cheapest 26 = .ok (.iconst 5, 1) := by decide +kernel
theorem dX10_cheapest_27 : decode cX10_cheapest 27 = .ok (.invokestatic 79, 3) := by decide +kernel
theorem dX10_cheapest_30 : decode cX10_cheapest 30 = .ok (.ifCond .eq 32, 3) := by decide +kernel
theorem dX10_cheapest_33 : decode cX10_cheapest 33 = .ok (.iload_n 2, 1) := by decide +kernel
theorem dX10_cheapest_34 : decode cX10_cheapest 34 = .ok (.iconst 1, 1) := by decide +kernel
theorem dX10_cheapest_35 : decode cX10_cheapest 35 = .ok (.sipush 240, 3) := by decide +kernel
theorem dX10_cheapest_38 : decode cX10_cheapest 38 = .ok (.invokestatic 79, 3) := by decide +kernel
theorem dX10_cheapest_41 : decode cX10_cheapest 41 = .ok (.ifCond .eq 21, 3) := by decide +kernel
theorem dX10_cheapest_44 : decode cX10_cheapest 44 = .ok (.iload 4, 2) := by decide +kernel
theorem dX10_cheapest_46 : decode cX10_cheapest 46 = .ok (.ifCond .eq 16, 3) := by decide +kernel
theorem dX10_cheapest_49 : decode cX10_cheapest 49 = .ok (.aload_n 0, 1) := by decide +kernel
theorem dX10_cheapest_50 : decode cX10_cheapest 50 = .ok (.getfield 10, 3) := by decide +kernel
theorem dX10_cheapest_53 : decode cX10_cheapest 53 = .ok (.iconst 2, 1) := by decide +kernel
theorem dX10_cheapest_54 : decode cX10_cheapest 54 = .ok (.iload_n 1, 1) := by decide +kernel
theorem dX10_cheapest_55 : decode cX10_cheapest 55 = .ok (.imul, 1) := by decide +kernel
theorem dX10_cheapest_56 : decode cX10_cheapest 56 = .ok (.invokevirtual 117, 3) := by decide +kernel
theorem dX10_cheapest_59 : decode cX10_cheapest 59 = .ok (.ifCond .ne 5, 3) := by decide +kernel
theorem dX10_cheapest_62 : decode cX10_cheapest 62 = .ok (.iconst (-1), 1) := by decide +kernel
theorem dX10_cheapest_63 : decode cX10_cheapest 63 = .ok (.ireturn, 1) := by decide +kernel
theorem dX10_cheapest_64 : decode cX10_cheapest 64 = .ok (.aload_n 0, 1) := by decide +kernel
theorem dX10_cheapest_65 : decode cX10_cheapest 65 = .ok (.getfield 35, 3) := by decide +kernel
theorem dX10_cheapest_68 : decode cX10_cheapest 68 = .ok (.iload_n 1, 1) := by decide +kernel
theorem dX10_cheapest_69 : decode cX10_cheapest 69 = .ok (.invokevirtual 255, 3) := by decide +kernel
theorem dX10_cheapest_72 : decode cX10_cheapest 72 = .ok (.ifCond .ne 6, 3) := by decide +kernel
theorem dX10_cheapest_75 : decode cX10_cheapest 75 = .ok (.bipush (-2), 2) := by decide +kernel
theorem dX10_cheapest_77 : decode cX10_cheapest 77 = .ok (.ireturn, 1) := by decide +kernel
theorem dX10_cheapest_78 : decode cX10_cheapest 78 = .ok (.iload_n 3, 1) := by decide +kernel
theorem dX10_cheapest_79 : decode cX10_cheapest 79 = .ok (.bipush 100, 2) := by decide +kernel
theorem dX10_cheapest_81 : decode cX10_cheapest 81 = .ok (.if_icmp .ne 16, 3) := by decide +kernel
theorem dX10_cheapest_84 : decode cX10_cheapest 84 = .ok (.aload_n 0, 1) := by decide +kernel
theorem dX10_cheapest_85 : decode cX10_cheapest 85 = .ok (.getfield 35, 3) := by decide +kernel
theorem dX10_cheapest_88 : decode cX10_cheapest 88 = .ok (.iconst 0, 1) := by decide +kernel
theorem dX10_cheapest_89 : decode cX10_cheapest 89 = .ok (.iload_n 1, 1) := by decide +kernel
theorem dX10_cheapest_90 : decode cX10_cheapest 90 = .ok (.iload_n 2, 1) := by decide +kernel
theorem dX10_cheapest_91 : decode cX10_cheapest 91 = .ok (.invokevirtual 258, 3) := by decide +kernel
theorem dX10_cheapest_94 : decode cX10_cheapest 94 = .ok (.goto 13, 3) := by decide +kernel
theorem dX10_cheapest_97 : decode cX10_cheapest 97 = .ok (.aload_n 0, 1) := by decide +kernel
theorem dX10_cheapest_98 : decode cX10_cheapest 98 = .ok (.getfield 35, 3) := by decide +kernel
theorem dX10_cheapest_101 : decode cX10_cheapest 101 = .ok (.iload_n 1, 1) := by decide +kernel
theorem dX10_cheapest_102 : decode cX10_cheapest 102 = .ok (.iload_n 2, 1) := by decide +kernel
theorem dX10_cheapest_103 : decode cX10_cheapest 103 = .ok (.iload_n 3, 1) := by decide +kernel
theorem dX10_cheapest_104 : decode cX10_cheapest 104 = .ok (.invokevirtual 261, 3) := by decide +kernel
theorem dX10_cheapest_107 : decode cX10_cheapest 107 = .ok (.ireturn, 1) := by decide +kernel
theorem dX10_told_0 : decode cX10_told 0 = .ok (.iload_n 1, 1) := by decide +kernel
theorem dX10_told_1 : decode cX10_told 1 = .ok (.iconst 2, 1) := by decide +kernel
theorem dX10_told_2 : decode cX10_told 2 = .ok (.bipush 16, 2) := by decide +kernel
theorem dX10_told_4 : decode cX10_told 4 = .ok (.invokestatic 79, 3) := by decide +kernel
theorem dX10_told_7 : decode cX10_told 7 = .ok (.ifCond .eq 23, 3) := by decide +kernel
theorem dX10_told_10 : decode cX10_told 10 = .ok (.iload_n 2, 1) := by decide +kernel
theorem dX10_told_11 : decode cX10_told 11 = .ok (.iconst 0, 1) := by decide +kernel
theorem dX10_told_12 : decode cX10_told 12 = .ok (.iconst 1, 1) := by decide +kernel
theorem dX10_told_13 : decode cX10_told 13 = .ok (.invokestatic 79, 3) := by decide +kernel
theorem dX10_told_16 : decode cX10_told 16 = .ok (.ifCond .eq 14, 3) := by decide +kernel
theorem dX10_told_19 : decode cX10_told 19 = .ok (.aload_n 0, 1) := by decide +kernel
theorem dX10_told_20 : decode cX10_told 20 = .ok (.getfield 10, 3) := by decide +kernel
theorem dX10_told_23 : decode cX10_told 23 = .ok (.iload_n 1, 1) := by decide +kernel
theorem dX10_told_24 : decode cX10_told 24 = .ok (.invokevirtual 117, 3) := by decide +kernel
theorem dX10_told_27 : decode cX10_told 27 = .ok (.ifCond .ne 5, 3) := by decide +kernel
theorem dX10_told_30 : decode cX10_told 30 = .ok (.iconst (-1), 1) := by decide +kernel
theorem dX10_told_31 : decode cX10_told 31 = .ok (.ireturn, 1) := by decide +kernel
theorem dX10_told_32 : decode cX10_told 32 = .ok (.aload_n 0, 1) := by decide +kernel
theorem dX10_told_33 : decode cX10_told 33 = .ok (.getfield 35, 3) := by decide +kernel
theorem dX10_told_36 : decode cX10_told 36 = .ok (.iload_n 1, 1) := by decide +kernel
theorem dX10_told_37 : decode cX10_told 37 = .ok (.invokevirtual 264, 3) := by decide +kernel
theorem dX10_told_40 : decode cX10_told 40 = .ok (.ifCond .ne 6, 3) := by decide +kernel
theorem dX10_told_43 : decode cX10_told 43 = .ok (.bipush (-2), 2) := by decide +kernel
theorem dX10_told_45 : decode cX10_told 45 = .ok (.ireturn, 1) := by decide +kernel
theorem dX10_told_46 : decode cX10_told 46 = .ok (.iload_n 2, 1) := by decide +kernel
theorem dX10_told_47 : decode cX10_told 47 = .ok (.ifCond .ne 14, 3) := by decide +kernel
theorem dX10_told_50 : decode cX10_told 50 = .ok (.aload_n 0, 1) := by decide +kernel
theorem dX10_told_51 : decode cX10_told 51 = .ok (.getfield 35, 3) := by decide +kernel
theorem dX10_told_54 : decode cX10_told 54 = .ok (.iload_n 1, 1) := by decide +kernel
theorem dX10_told_55 : decode cX10_told 55 = .ok (.invokevirtual 267, 3) := by decide +kernel
theorem dX10_told_58 : decode cX10_told 58 = .ok (.goto 11, 3) := by decide +kernel
theorem dX10_told_61 : decode cX10_told 61 = .ok (.aload_n 0, 1) := by decide +kernel
theorem dX10_told_62 : decode cX10_told 62 = .ok (.getfield 35, 3) := by decide +kernel
theorem dX10_told_65 : decode cX10_told 65 = .ok (.iload_n 1, 1) := by decide +kernel
theorem dX10_told_66 : decode cX10_told 66 = .ok (.invokevirtual 270, 3) := by decide +kernel
theorem dX10_told_69 : decode cX10_told 69 = .ok (.ireturn, 1) := by decide +kernel
theorem dX10_epitaph_0 : decode cX10_epitaph 0 = .ok (.iload_n 1, 1) := by decide +kernel
theorem dX10_epitaph_1 : decode cX10_epitaph 1 = .ok (.iconst 1, 1) := by decide +kernel
theorem dX10_epitaph_2 : decode cX10_epitaph 2 = .ok (.bipush 30, 2) := by decide +kernel
theorem dX10_epitaph_4 : decode cX10_epitaph 4 = .ok (.invokestatic 79, 3) := by decide +kernel
theorem dX10_epitaph_7 : decode cX10_epitaph 7 = .ok (.ifCond .eq 38, 3) := by decide +kernel
theorem dX10_epitaph_10 : decode cX10_epitaph 10 = .ok (.iload_n 2, 1) := by decide +kernel
theorem dX10_epitaph_11 : decode cX10_epitaph 11 = .ok (.iconst 1, 1) := by decide +kernel
theorem dX10_epitaph_12 : decode cX10_epitaph 12 = .ok (.bipush 30, 2) := by decide +kernel
theorem dX10_epitaph_14 : decode cX10_epitaph 14 = .ok (.invokestatic 79, 3) := by decide +kernel
theorem dX10_epitaph_17 : decode cX10_epitaph 17 = .ok (.ifCond .eq 28, 3) := by decide +kernel
theorem dX10_epitaph_20 : decode cX10_epitaph 20 = .ok (.iload 4, 2) := by decide +kernel
theorem dX10_epitaph_22 : decode cX10_epitaph 22 = .ok (.iconst 0, 1) := by decide +kernel
theorem dX10_epitaph_23 : decode cX10_epitaph 23 = .ok (.iload_n 2, 1) := by decide +kernel
theorem dX10_epitaph_24 : decode cX10_epitaph 24 = .ok (.iconst 1, 1) := by decide +kernel
theorem dX10_epitaph_25 : decode cX10_epitaph 25 = .ok (.isub, 1) := by decide +kernel
theorem dX10_epitaph_26 : decode cX10_epitaph 26 = .ok (.invokestatic 79, 3) := by decide +kernel
theorem dX10_epitaph_29 : decode cX10_epitaph 29 = .ok (.ifCond .eq 16, 3) := by decide +kernel
theorem dX10_epitaph_32 : decode cX10_epitaph 32 = .ok (.aload_n 0, 1) := by decide +kernel
theorem dX10_epitaph_33 : decode cX10_epitaph 33 = .ok (.getfield 10, 3) := by decide +kernel
theorem dX10_epitaph_36 : decode cX10_epitaph 36 = .ok (.iload_n 1, 1) := by decide +kernel
theorem dX10_epitaph_37 : decode cX10_epitaph 37 = .ok (.iload_n 2, 1) := by decide +kernel
theorem dX10_epitaph_38 : decode cX10_epitaph 38 = .ok (.iadd, 1) := by decide +kernel
theorem dX10_epitaph_39 : decode cX10_epitaph 39 = .ok (.invokevirtual 117, 3) := by decide +kernel
theorem dX10_epitaph_42 : decode cX10_epitaph 42 = .ok (.ifCond .ne 5, 3) := by decide +kernel
theorem dX10_epitaph_45 : decode cX10_epitaph 45 = .ok (.iconst (-1), 1) := by decide +kernel
theorem dX10_epitaph_46 : decode cX10_epitaph 46 = .ok (.ireturn, 1) := by decide +kernel
theorem dX10_epitaph_47 : decode cX10_epitaph 47 = .ok (.aload_n 0, 1) := by decide +kernel
theorem dX10_epitaph_48 : decode cX10_epitaph 48 = .ok (.getfield 10, 3) := by decide +kernel
theorem dX10_epitaph_51 : decode cX10_epitaph 51 = .ok (.bipush 65, 2) := by decide +kernel
theorem dX10_epitaph_53 : decode cX10_epitaph 53 = .ok (.bipush 90, 2) := by decide +kernel
theorem dX10_epitaph_55 : decode cX10_epitaph 55 = .ok (.invokevirtual 273, 3) := by decide +kernel
theorem dX10_epitaph_58 : decode cX10_epitaph 58 = .ok (.ifCond .ne 11, 3) := by decide +kernel
theorem dX10_epitaph_61 : decode cX10_epitaph 61 = .ok (.aload_n 0, 1) := by decide +kernel
theorem dX10_epitaph_62 : decode cX10_epitaph 62 = .ok (.getfield 10, 3) := by decide +kernel
theorem dX10_epitaph_65 : decode cX10_epitaph 65 = .ok (.getfield 276, 3) := by decide +kernel
theorem dX10_epitaph_68 : decode cX10_epitaph 68 = .ok (.ireturn, 1) := by decide +kernel
theorem dX10_epitaph_69 : decode cX10_epitaph 69 = .ok (.aload_n 0, 1) := by decide +kernel
theorem dX10_epitaph_70 : decode cX10_epitaph 70 = .ok (.getfield 35, 3) := by decide +kernel
theorem dX10_epitaph_73 : decode cX10_epitaph 73 = .ok (.iload_n 1, 1) := by decide +kernel
theorem dX10_epitaph_74 : decode cX10_epitaph 74 = .ok (.iload_n 3, 1) := by decide +kernel
theorem dX10_epitaph_75 : decode cX10_epitaph 75 = .ok (.iload_n 1, 1) := by decide +kernel
theorem dX10_epitaph_76 : decode cX10_epitaph 76 = .ok (.iload 4, 2) := by decide +kernel
theorem dX10_epitaph_78 : decode cX10_epitaph 78 = .ok (.iadd, 1) := by decide +kernel
theorem dX10_epitaph_79 : decode cX10_epitaph 79 = .ok (.invokevirtual 279, 3) := by decide +kernel
theorem dX10_epitaph_82 : decode cX10_epitaph 82 = .ok (.ireturn, 1) := by decide +kernel
theorem dX10_dialled_0 : decode cX10_dialled 0 = .ok (.iload_n 1, 1) := by decide +kernel
theorem dX10_dialled_1 : decode cX10_dialled 1 = .ok (.iconst 1, 1) := by decide +kernel
theorem dX10_dialled_2 : decode cX10_dialled 2 = .ok (.bipush 12, 2) := by decide +kernel
theorem dX10_dialled_4 : decode cX10_dialled 4 = .ok (.invokestatic 79, 3) := by decide +kernel
theorem dX10_dialled_7 : decode cX10_dialled 7 = .ok (.ifCond .eq 23, 3) := by decide +kernel
theorem dX10_dialled_10 : decode cX10_dialled 10 = .ok (.iload_n 2, 1) := by decide +kernel
theorem dX10_dialled_11 : decode cX10_dialled 11 = .ok (.iconst 0, 1) := by decide +kernel
theorem dX10_dialled_12 : decode cX10_dialled 12 = .ok (.iconst 1, 1) := by decide +kernel
theorem dX10_dialled_13 : decode cX10_dialled 13 = .ok (.invokestatic 79, 3) := by decide +kernel
theorem dX10_dialled_16 : decode cX10_dialled 16 = .ok (.ifCond .eq 14, 3) := by decide +kernel
theorem dX10_dialled_19 : decode cX10_dialled 19 = .ok (.aload_n 0, 1) := by decide +kernel
theorem dX10_dialled_20 : decode cX10_dialled 20 = .ok (.getfield 10, 3) := by decide +kernel
theorem dX10_dialled_23 : decode cX10_dialled 23 = .ok (.iload_n 1, 1) := by decide +kernel
theorem dX10_dialled_24 : decode cX10_dialled 24 = .ok (.invokevirtual 117, 3) := by decide +kernel
theorem dX10_dialled_27 : decode cX10_dialled 27 = .ok (.ifCond .ne 5, 3) := by decide +kernel
theorem dX10_dialled_30 : decode cX10_dialled 30 = .ok (.iconst (-1), 1) := by decide +kernel
theorem dX10_dialled_31 : decode cX10_dialled 31 = .ok (.ireturn, 1) := by decide +kernel
theorem dX10_dialled_32 : decode cX10_dialled 32 = .ok (.aload_n 0, 1) := by decide +kernel
theorem dX10_dialled_33 : decode cX10_dialled 33 = .ok (.getfield 28, 3) := by decide +kernel
theorem dX10_dialled_36 : decode cX10_dialled 36 = .ok (.bipush 8, 2) := by decide +kernel
theorem dX10_dialled_38 : decode cX10_dialled 38 = .ok (.iload_n 1, 1) := by decide +kernel
theorem dX10_dialled_39 : decode cX10_dialled 39 = .ok (.invokevirtual 140, 3) := by decide +kernel
theorem dX10_dialled_42 : decode cX10_dialled 42 = .ok (.istore_n 3, 1) := by decide +kernel
theorem dX10_dialled_43 : decode cX10_dialled 43 = .ok (.iload_n 3, 1) := by decide +kernel
theorem dX10_dialled_44 : decode cX10_dialled 44 = .ok (.ifCond .ge 5, 3) := by decide +kernel
theorem dX10_dialled_47 : decode cX10_dialled 47 = .ok (.iload_n 3, 1) := by decide +kernel
theorem dX10_dialled_48 : decode cX10_dialled 48 = .ok (.ireturn, 1) := by decide +kernel
theorem dX10_dialled_49 : decode cX10_dialled 49 = .ok (.aload_n 0, 1) := by decide +kernel
theorem dX10_dialled_50 : decode cX10_dialled 50 = .ok (.getfield 28, 3) := by decide +kernel
theorem dX10_dialled_53 : decode cX10_dialled 53 = .ok (.invokevirtual 283, 3) := by decide +kernel
theorem dX10_dialled_56 : decode cX10_dialled 56 = .ok (.istore 4, 2) := by decide +kernel
theorem dX10_dialled_58 : decode cX10_dialled 58 = .ok (.iload 4, 2) := by decide +kernel
theorem dX10_dialled_60 : decode cX10_dialled 60 = .ok (.iconst (-1), 1) := by decide +kernel
theorem dX10_dialled_61 : decode cX10_dialled 61 = .ok (.if_icmp .ne 6, 3) := by decide +kernel
theorem dX10_dialled_64 : decode cX10_dialled 64 = .ok (.bipush (-2), 2) := by decide +kernel
theorem dX10_dialled_66 : decode cX10_dialled 66 = .ok (.ireturn, 1) := by decide +kernel
theorem dX10_dialled_67 : decode cX10_dialled 67 = .ok (.iload_n 2, 1) := by decide +kernel
theorem dX10_dialled_68 : decode cX10_dialled 68 = .ok (.ifCond .ne 8, 3) := by decide +kernel
theorem dX10_dialled_71 : decode cX10_dialled 71 = .ok (.iload 4, 2) := by decide +kernel
theorem dX10_dialled_73 : decode cX10_dialled 73 = .ok (.goto 15, 3) := by decide +kernel
theorem dX10_dialled_76 : decode cX10_dialled 76 = .ok (.iload_n 1, 1) := by decide +kernel
theorem dX10_dialled_77 : decode cX10_dialled 77 = .ok (.aload_n 0, 1) := by decide +kernel
theorem dX10_dialled_78 : decode cX10_dialled 78 = .ok (.getfield 28, 3) := by decide +kernel
theorem dX10_dialled_81 : decode cX10_dialled 81 = .ok (.getfield 286, 3) := by decide +kernel
theorem dX10_dialled_84 : decode cX10_dialled 84 = .ok (.iload 4, 2) := by decide +kernel
theorem dX10_dialled_86 : decode cX10_dialled 86 = .ok (.iaload, 1) := by decide +kernel
theorem dX10_dialled_87 : decode cX10_dialled 87 = .ok (.isub, 1) := by decide +kernel
theorem dX10_dialled_88 : decode cX10_dialled 88 = .ok (.ireturn, 1) := by decide +kernel
theorem dX10_clear_0 : decode cX10_clear 0 = .ok (.aload_n 0, 1) := by decide +kernel
theorem dX10_clear_1 : decode cX10_clear 1 = .ok (.getfield 28, 3) := by decide +kernel
theorem dX10_clear_4 : decode cX10_clear 4 = .ok (.invokevirtual 289, 3) := by decide +kernel
theorem dX10_clear_7 : decode cX10_clear 7 = .ok (.ifCond .eq 7, 3) := by decide +kernel
theorem dX10_clear_10 : decode cX10_clear 10 = .ok (.iconst 1, 1) := by decide +kernel
theorem dX10_clear_11 : decode cX10_clear 11 = .ok (.goto 4, 3) := by decide +kernel
theorem dX10_clear_14 : decode cX10_clear 14 = .ok (.iconst 0, 1) := by decide +kernel
theorem dX10_clear_15 : decode cX10_clear 15 = .ok (.ireturn, 1) := by decide +kernel
theorem dX10_freeCode_0 : decode cX10_freeCode 0 = .ok (.iload_n 1, 1) := by decide +kernel
theorem dX10_freeCode_1 : decode cX10_freeCode 1 = .ok (.iconst 1, 1) := by decide +kernel
theorem dX10_freeCode_2 : decode cX10_freeCode 2 = .ok (.iconst 3, 1) := by decide +kernel
theorem dX10_freeCode_3 : decode cX10_freeCode 3 = .ok (.invokestatic 79, 3) := by decide +kernel
theorem dX10_freeCode_6 : decode cX10_freeCode 6 = .ok (.ifCond .ne 5, 3) := by decide +kernel
theorem dX10_freeCode_9 : decode cX10_freeCode 9 = .ok (.iconst (-1), 1) := by decide +kernel
theorem dX10_freeCode_10 : decode cX10_freeCode 10 = .ok (.ireturn, 1) := by decide +kernel
theorem dX10_freeCode_11 : decode cX10_freeCode 11 = .ok (.aload_n 0, 1) := by decide +kernel
theorem dX10_freeCode_12 : decode cX10_freeCode 12 = .ok (.getfield 28, 3) := by decide +kernel
theorem dX10_freeCode_15 : decode cX10_freeCode 15 = .ok (.invokevirtual 289, 3) := by decide +kernel
theorem dX10_freeCode_18 : decode cX10_freeCode 18 = .ok (.ifCond .eq 14, 3) := by decide +kernel
theorem dX10_freeCode_21 : decode cX10_freeCode 21 = .ok (.aload_n 0, 1) := by decide +kernel
theorem dX10_freeCode_22 : decode cX10_freeCode 22 = .ok (.getfield 28, 3) := by decide +kernel
theorem dX10_freeCode_25 : decode cX10_freeCode 25 = .ok (.iload_n 1, 1) := by decide +kernel
theorem dX10_freeCode_26 : decode cX10_freeCode 26 = .ok (.invokevirtual 292, 3) := by decide +kernel
theorem dX10_freeCode_29 : decode cX10_freeCode 29 = .ok (.goto 5, 3) := by decide +kernel
theorem dX10_freeCode_32 : decode cX10_freeCode 32 = .ok (.bipush (-2), 2) := by decide +kernel
theorem dX10_freeCode_34 : decode cX10_freeCode 34 = .ok (.ireturn, 1) := by decide +kernel
theorem dX10_seed_0 : decode cX10_seed 0 = .ok (.iload_n 1, 1) := by decide +kernel
theorem dX10_seed_1 : decode cX10_seed 1 = .ok (.iconst 0, 1) := by decide +kernel
theorem dX10_seed_2 : decode cX10_seed 2 = .ok (.ldc_w 295, 3) := by decide +kernel
theorem dX10_seed_5 : decode cX10_seed 5 = .ok (.invokestatic 79, 3) := by decide +kernel
theorem dX10_seed_8 : decode cX10_seed 8 = .ok (.ifCond .ne 5, 3) := by decide +kernel
theorem dX10_seed_11 : decode cX10_seed 11 = .ok (.iconst 0, 1) := by decide +kernel
theorem dX10_seed_12 : decode cX10_seed 12 = .ok (.ireturn, 1) := by decide +kernel
theorem dX10_seed_13 : decode cX10_seed 13 = .ok (.aload_n 0, 1) := by decide +kernel
theorem dX10_seed_14 : decode cX10_seed 14 = .ok (.getfield 65, 3) := by decide +kernel
theorem dX10_seed_17 : decode cX10_seed 17 = .ok (.iload_n 1, 1) := by decide +kernel
theorem dX10_seed_18 : decode cX10_seed 18 = .ok (.putfield 296, 3) := by decide +kernel
theorem dX10_seed_21 : decode cX10_seed 21 = .ok (.iconst 1, 1) := by decide +kernel
theorem dX10_seed_22 : decode cX10_seed 22 = .ok (.ireturn, 1) := by decide +kernel
theorem dX10_keep_0 : decode cX10_keep 0 = .ok (.aload_n 0, 1) := by decide +kernel
theorem dX10_keep_1 : decode cX10_keep 1 = .ok (.getfield 69, 3) := by decide +kernel
theorem dX10_keep_4 : decode cX10_keep 4 = .ok (.aload_n 0, 1) := by decide +kernel
theorem dX10_keep_5 : decode cX10_keep 5 = .ok (.getfield 65, 3) := by decide +kernel
theorem dX10_keep_8 : decode cX10_keep 8 = .ok (.invokevirtual 154, 3) := by decide +kernel
theorem dX10_keep_11 : decode cX10_keep 11 = .ok (.aload_n 0, 1) := by decide +kernel
theorem dX10_keep_12 : decode cX10_keep 12 = .ok (.iconst 1, 1) := by decide +kernel
theorem dX10_keep_13 : decode cX10_keep 13 = .ok (.putfield 299, 3) := by decide +kernel
theorem dX10_keep_16 : decode cX10_keep 16 = .ok (.aload_n 0, 1) := by decide +kernel
theorem dX10_keep_17 : decode cX10_keep 17 = .ok (.getfield 65, 3) := by decide +kernel
theorem dX10_keep_20 : decode cX10_keep 20 = .ok (.getfield 303, 3) := by decide +kernel
theorem dX10_keep_23 : decode cX10_keep 23 = .ok (.ireturn, 1) := by decide +kernel
theorem dX10_undo_0 : decode cX10_undo 0 = .ok (.aload_n 0, 1) := by decide +kernel
theorem dX10_undo_1 : decode cX10_undo 1 = .ok (.getfield 299, 3) := by decide +kernel
theorem dX10_undo_4 : decode cX10_undo 4 = .ok (.ifCond .ne 5, 3) := by decide +kernel
theorem dX10_undo_7 : decode cX10_undo 7 = .ok (.iconst 0, 1) := by decide +kernel
theorem dX10_undo_8 : decode cX10_undo 8 = .ok (.ireturn, 1) := by decide +kernel
theorem dX10_undo_9 : decode cX10_undo 9 = .ok (.aload_n 0, 1) := by decide +kernel
theorem dX10_undo_10 : decode cX10_undo 10 = .ok (.getfield 65, 3) := by decide +kernel
theorem dX10_undo_13 : decode cX10_undo 13 = .ok (.aload_n 0, 1) := by decide +kernel
theorem dX10_undo_14 : decode cX10_undo 14 = .ok (.getfield 69, 3) := by decide +kernel
theorem dX10_undo_17 : decode cX10_undo 17 = .ok (.invokevirtual 154, 3) := by decide +kernel
theorem dX10_undo_20 : decode cX10_undo 20 = .ok (.iconst 1, 1) := by decide +kernel
theorem dX10_undo_21 : decode cX10_undo 21 = .ok (.ireturn, 1) := by decide +kernel
theorem dX10_check_0 : decode cX10_check 0 = .ok (.iload_n 1, 1) := by decide +kernel
theorem dX10_check_1 : decode cX10_check 1 = .ok (.iconst 0, 1) := by decide +kernel
theorem dX10_check_2 : decode cX10_check 2 = .ok (.bipush 16, 2) := by decide +kernel
theorem dX10_check_4 : decode cX10_check 4 = .ok (.invokestatic 79, 3) := by decide +kernel
theorem dX10_check_7 : decode cX10_check 7 = .ok (.ifCond .eq 14, 3) := by decide +kernel
theorem dX10_check_10 : decode cX10_check 10 = .ok (.aload_n 0, 1) := by decide +kernel
theorem dX10_check_11 : decode cX10_check 11 = .ok (.getfield 10, 3) := by decide +kernel
theorem dX10_check_14 : decode cX10_check 14 = .ok (.iload_n 1, 1) := by decide +kernel
theorem dX10_check_15 : decode cX10_check 15 = .ok (.invokevirtual 117, 3) := by decide +kernel
theorem dX10_check_18 : decode cX10_check 18 = .ok (.ifCond .ne 6, 3) := by decide +kernel
theorem dX10_check_21 : decode cX10_check 21 = .ok (.bipush (-2), 2) := by decide +kernel
theorem dX10_check_23 : decode cX10_check 23 = .ok (.ireturn, 1) := by decide +kernel
theorem dX10_check_24 : decode cX10_check 24 = .ok (.iconst 0, 1) := by decide +kernel
theorem dX10_check_25 : decode cX10_check 25 = .ok (.istore_n 2, 1) := by decide +kernel
theorem dX10_check_26 : decode cX10_check 26 = .ok (.iload_n 2, 1) := by decide +kernel
theorem dX10_check_27 : decode cX10_check 27 = .ok (.iload_n 1, 1) := by decide +kernel
theorem dX10_check_28 : decode cX10_check 28 = .ok (.if_icmp .ge 34, 3) := by decide +kernel
theorem dX10_check_31 : decode cX10_check 31 = .ok (.aload_n 0, 1) := by decide +kernel
theorem dX10_check_32 : decode cX10_check 32 = .ok (.getfield 65, 3) := by decide +kernel
theorem dX10_check_35 : decode cX10_check 35 = .ok (.iload_n 2, 1) := by decide +kernel
theorem dX10_check_36 : decode cX10_check 36 = .ok (.invokevirtual 166, 3) := by decide +kernel
theorem dX10_check_39 : decode cX10_check 39 = .ok (.sipush 256, 3) := by decide +kernel
theorem dX10_check_42 : decode cX10_check 42 = .ok (.irem, 1) := by decide +kernel
theorem dX10_check_43 : decode cX10_check 43 = .ok (.aload_n 0, 1) := by decide +kernel
theorem dX10_check_44 : decode cX10_check 44 = .ok (.getfield 10, 3) := by decide +kernel
theorem dX10_check_47 : decode cX10_check 47 = .ok (.iload_n 2, 1) := by decide +kernel
theorem dX10_check_48 : decode cX10_check 48 = .ok (.invokevirtual 306, 3) := by decide +kernel
theorem dX10_check_51 : decode cX10_check 51 = .ok (.if_icmp .eq 5, 3) := by decide +kernel
theorem dX10_check_54 : decode cX10_check 54 = .ok (.iload_n 2, 1) := by decide +kernel
theorem dX10_check_55 : decode cX10_check 55 = .ok (.ireturn, 1) := by decide +kernel
theorem dX10_check_56 : decode cX10_check 56 = .ok (.iinc 2 1, 3) := by decide +kernel
theorem dX10_check_59 : decode cX10_check 59 = .ok (.goto (-33), 3) := by decide +kernel
theorem dX10_check_62 : decode cX10_check 62 = .ok (.iconst (-1), 1) := by decide +kernel
theorem dX10_check_63 : decode cX10_check 63 = .ok (.ireturn, 1) := by decide +kernel
theorem dX10_count_0 : decode cX10_count 0 = .ok (.iload_n 1, 1) := by decide +kernel
theorem dX10_count_1 : decode cX10_count 1 = .ok (.tableswitch 138 0 9 #[55, 63, 71, 79, 87, 95, 103, 111, 122, 130], 55) := by decide +kernel
theorem dX10_count_56 : decode cX10_count 56 = .ok (.aload_n 0, 1) := by decide +kernel
theorem dX10_count_57 : decode cX10_count 57 = .ok (.getfield 65, 3) := by decide +kernel
theorem dX10_count_60 : decode cX10_count 60 = .ok (.getfield 303, 3) := by decide +kernel
theorem dX10_count_63 : decode cX10_count 63 = .ok (.ireturn, 1) := by decide +kernel
theorem dX10_count_64 : decode cX10_count 64 = .ok (.aload_n 0, 1) := by decide +kernel
theorem dX10_count_65 : decode cX10_count 65 = .ok (.getfield 65, 3) := by decide +kernel
theorem dX10_count_68 : decode cX10_count 68 = .ok (.getfield 96, 3) := by decide +kernel
theorem dX10_count_71 : decode cX10_count 71 = .ok (.ireturn, 1) := by decide +kernel
theorem dX10_count_72 : decode cX10_count 72 = .ok (.aload_n 0, 1) := by decide +kernel
theorem dX10_count_73 : decode cX10_count 73 = .ok (.getfield 65, 3) := by decide +kernel
theorem dX10_count_76 : decode cX10_count 76 = .ok (.getfield 129, 3) := by decide +kernel
theorem dX10_count_79 : decode cX10_count 79 = .ok (.ireturn, 1) := by decide +kernel
theorem dX10_count_80 : decode cX10_count 80 = .ok (.aload_n 0, 1) := by decide +kernel
theorem dX10_count_81 : decode cX10_count 81 = .ok (.getfield 65, 3) := by decide +kernel
theorem dX10_count_84 : decode cX10_count 84 = .ok (.getfield 173, 3) := by decide +kernel
theorem dX10_count_87 : decode cX10_count 87 = .ok (.ireturn, 1) := by decide +kernel
theorem dX10_count_88 : decode cX10_count 88 = .ok (.aload_n 0, 1) := by decide +kernel
theorem dX10_count_89 : decode cX10_count 89 = .ok (.getfield 65, 3) := by decide +kernel
theorem dX10_count_92 : decode cX10_count 92 = .ok (.getfield 176, 3) := by decide +kernel
theorem dX10_count_95 : decode cX10_count 95 = .ok (.ireturn, 1) := by decide +kernel
theorem dX10_count_96 : decode cX10_count 96 = .ok (.aload_n 0, 1) := by decide +kernel
theorem dX10_count_97 : decode cX10_count 97 = .ok (.getfield 65, 3) := by decide +kernel
theorem dX10_count_100 : decode cX10_count 100 = .ok (.invokevirtual 309, 3) := by decide +kernel
theorem dX10_count_103 : decode cX10_count 103 = .ok (.ireturn, 1) := by decide +kernel
theorem dX10_count_104 : decode cX10_count 104 = .ok (.aload_n 0, 1) := by decide +kernel
theorem dX10_count_105 : decode cX10_count 105 = .ok (.getfield 65, 3) := by decide +kernel
theorem dX10_count_108 : decode cX10_count 108 = .ok (.invokevirtual 163, 3) := by decide +kernel
theorem dX10_count_111 : decode cX10_count 111 = .ok (.ireturn, 1) := by decide +kernel
theorem dX10_count_112 : decode cX10_count 112 = .ok (.aload_n 0, 1) := by decide +kernel
theorem dX10_count_113 : decode cX10_count 113 = .ok (.getfield 58, 3) := by decide +kernel
theorem dX10_count_116 : decode cX10_count 116 = .ok (.getfield 124, 3) := by decide +kernel
theorem dX10_count_119 : decode cX10_count 119 = .ok (.getfield 312, 3) := by decide +kernel
theorem dX10_count_122 : decode cX10_count 122 = .ok (.ireturn, 1) := by decide +kernel
theorem dX10_count_123 : decode cX10_count 123 = .ok (.aload_n 0, 1) := by decide +kernel
theorem dX10_count_124 : decode cX10_count 124 = .ok (.getfield 10, 3) := by decide +kernel
theorem dX10_count_127 : decode cX10_count 127 = .ok (.getfield 114, 3) := by decide +kernel
theorem dX10_count_130 : decode cX10_count 130 = .ok (.ireturn, 1) := by decide +kernel
theorem dX10_count_131 : decode cX10_count 131 = .ok (.aload_n 0, 1) := by decide +kernel
theorem dX10_count_132 : decode cX10_count 132 = .ok (.getfield 65, 3) := by decide +kernel
theorem dX10_count_135 : decode cX10_count 135 = .ok (.getfield 296, 3) := by decide +kernel
theorem dX10_count_138 : decode cX10_count 138 = .ok (.ireturn, 1) := by decide +kernel
theorem dX10_count_139 : decode cX10_count 139 = .ok (.iload_n 1, 1) := by decide +kernel
theorem dX10_count_140 : decode cX10_count 140 = .ok (.bipush 10, 2) := by decide +kernel
theorem dX10_count_142 : decode cX10_count 142 = .ok (.isub, 1) := by decide +kernel
theorem dX10_count_143 : decode cX10_count 143 = .ok (.invokestatic 87, 3) := by decide +kernel
theorem dX10_count_146 : decode cX10_count 146 = .ok (.ifCond .eq 33, 3) := by decide +kernel
theorem dX10_count_149 : decode cX10_count 149 = .ok (.aload_n 0, 1) := by decide +kernel
theorem dX10_count_150 : decode cX10_count 150 = .ok (.getfield 28, 3) := by decide +kernel
theorem dX10_count_153 : decode cX10_count 153 = .ok (.getfield 286, 3) := by decide +kernel
theorem dX10_count_156 : decode cX10_count 156 = .ok (.iload_n 1, 1) := by decide +kernel
theorem dX10_count_157 : decode cX10_count 157 = .ok (.bipush 10, 2) := by decide +kernel
theorem dX10_count_159 : decode cX10_count 159 = .ok (.isub, 1) := by decide +kernel
theorem dX10_count_160 : decode cX10_count 160 = .ok (.iaload, 1) := by decide +kernel
theorem dX10_count_161 : decode cX10_count 161 = .ok (.ifCond .le 18, 3) := by decide +kernel
theorem dX10_count_164 : decode cX10_count 164 = .ok (.aload_n 0, 1) := by decide +kernel
theorem dX10_count_165 : decode cX10_count 165 = .ok (.getfield 28, 3) := by decide +kernel
theorem dX10_count_168 : decode cX10_count 168 = .ok (.getfield 286, 3) := by decide +kernel
theorem dX10_count_171 : decode cX10_count 171 = .ok (.iload_n 1, 1) := by decide +kernel
theorem dX10_count_172 : decode cX10_count 172 = .ok (.bipush 10, 2) := by decide +kernel
theorem dX10_count_174 : decode cX10_count 174 = .ok (.isub, 1) := by decide +kernel
theorem dX10_count_175 : decode cX10_count 175 = .ok (.iaload, 1) := by decide +kernel
theorem dX10_count_176 : decode cX10_count 176 = .ok (.goto 4, 3) := by decide +kernel
theorem dX10_count_179 : decode cX10_count 179 = .ok (.iconst (-1), 1) := by decide +kernel
theorem dX10_count_180 : decode cX10_count 180 = .ok (.ireturn, 1) := by decide +kernel
theorem dX10_within_0 : decode cX10_within 0 = .ok (.iload_n 0, 1) := by decide +kernel
theorem dX10_within_1 : decode cX10_within 1 = .ok (.iload_n 1, 1) := by decide +kernel
theorem dX10_within_2 : decode cX10_within 2 = .ok (.if_icmp .lt 12, 3) := by decide +kernel
theorem dX10_within_5 : decode cX10_within 5 = .ok (.iload_n 0, 1) := by decide +kernel
theorem dX10_within_6 : decode cX10_within 6 = .ok (.iload_n 2, 1) := by decide +kernel
theorem dX10_within_7 : decode cX10_within 7 = .ok (.if_icmp .gt 7, 3) := by decide +kernel
theorem dX10_within_10 : decode cX10_within 10 = .ok (.iconst 1, 1) := by decide +kernel
theorem dX10_within_11 : decode cX10_within 11 = .ok (.goto 4, 3) := by decide +kernel
theorem dX10_within_14 : decode cX10_within 14 = .ok (.iconst 0, 1) := by decide +kernel
theorem dX10_within_15 : decode cX10_within 15 = .ok (.ireturn, 1) := by decide +kernel
theorem dX10_isExchange_0 : decode cX10_isExchange 0 = .ok (.iload_n 0, 1) := by decide +kernel
theorem dX10_isExchange_1 : decode cX10_isExchange 1 = .ok (.iconst 0, 1) := by decide +kernel
theorem dX10_isExchange_2 : decode cX10_isExchange 2 = .ok (.bipush 7, 2) := by decide +kernel
theorem dX10_isExchange_4 : decode cX10_isExchange 4 = .ok (.invokestatic 79, 3) := by decide +kernel
theorem dX10_isExchange_7 : decode cX10_isExchange 7 = .ok (.ireturn, 1) := by decide +kernel
theorem dX10_areTwo_0 : decode cX10_areTwo 0 = .ok (.iload_n 0, 1) := by decide +kernel
theorem dX10_areTwo_1 : decode cX10_areTwo 1 = .ok (.invokestatic 87, 3) := by decide +kernel
theorem dX10_areTwo_4 : decode cX10_areTwo 4 = .ok (.ifCond .eq 19, 3) := by decide +kernel
theorem dX10_areTwo_7 : decode cX10_areTwo 7 = .ok (.iload_n 1, 1) := by decide +kernel
theorem dX10_areTwo_8 : decode cX10_areTwo 8 = .ok (.invokestatic 87, 3) := by decide +kernel
theorem dX10_areTwo_11 : decode cX10_areTwo 11 = .ok (.ifCond .eq 12, 3) := by decide +kernel
theorem dX10_areTwo_14 : decode cX10_areTwo 14 = .ok (.iload_n 0, 1) := by decide +kernel
theorem dX10_areTwo_15 : decode cX10_areTwo 15 = .ok (.iload_n 1, 1) := by decide +kernel
theorem dX10_areTwo_16 : decode cX10_areTwo 16 = .ok (.if_icmp .eq 7, 3) := by decide +kernel
theorem dX10_areTwo_19 : decode cX10_areTwo 19 = .ok (.iconst 1, 1) := by decide +kernel
theorem dX10_areTwo_20 : decode cX10_areTwo 20 = .ok (.goto 4, 3) := by decide +kernel
theorem dX10_areTwo_23 : decode cX10_areTwo 23 = .ok (.iconst 0, 1) := by decide +kernel
theorem dX10_areTwo_24 : decode cX10_areTwo 24 = .ok (.ireturn, 1) := by decide +kernel
theorem dX10_isDigit_0 : decode cX10_isDigit 0 = .ok (.iload_n 0, 1) := by decide +kernel
theorem dX10_isDigit_1 : decode cX10_isDigit 1 = .ok (.bipush 48, 2) := by decide +kernel
theorem dX10_isDigit_3 : decode cX10_isDigit 3 = .ok (.if_icmp .lt 13, 3) := by decide +kernel
theorem dX10_isDigit_6 : decode cX10_isDigit 6 = .ok (.iload_n 0, 1) := by decide +kernel
theorem dX10_isDigit_7 : decode cX10_isDigit 7 = .ok (.bipush 57, 2) := by decide +kernel
theorem dX10_isDigit_9 : decode cX10_isDigit 9 = .ok (.if_icmp .gt 7, 3) := by decide +kernel
theorem dX10_isDigit_12 : decode cX10_isDigit 12 = .ok (.iconst 1, 1) := by decide +kernel
theorem dX10_isDigit_13 : decode cX10_isDigit 13 = .ok (.goto 4, 3) := by decide +kernel
theorem dX10_isDigit_16 : decode cX10_isDigit 16 = .ok (.iconst 0, 1) := by decide +kernel
theorem dX10_isDigit_17 : decode cX10_isDigit 17 = .ok (.ireturn, 1) := by decide +kernel
theorem dX10_bounded_0 : decode cX10_bounded 0 = .ok (.iconst 0, 1) := by decide +kernel
theorem dX10_bounded_1 : decode cX10_bounded 1 = .ok (.iload_n 0, 1) := by decide +kernel
theorem dX10_bounded_2 : decode cX10_bounded 2 = .ok (.iload_n 1, 1) := by decide +kernel
theorem dX10_bounded_3 : decode cX10_bounded 3 = .ok (.invokestatic 317, 3) := by decide +kernel
theorem dX10_bounded_6 : decode cX10_bounded 6 = .ok (.invokestatic 215, 3) := by decide +kernel
theorem dX10_bounded_9 : decode cX10_bounded 9 = .ok (.ireturn, 1) := by decide +kernel
theorem dJ11_isValidCodePoint_9a6ad_0 : decode cJ11_isValidCodePoint_9a6ad 0 = .ok (.iload_n 0, 1) := by decide +kernel
theorem dJ11_isValidCodePoint_9a6ad_1 : decode cJ11_isValidCodePoint_9a6ad 1 = .ok (.bipush 16, 2) := by decide +kernel
theorem dJ11_isValidCodePoint_9a6ad_3 : decode cJ11_isValidCodePoint_9a6ad 3 = .ok (.iushr, 1) := by decide +kernel
theorem dJ11_isValidCodePoint_9a6ad_4 : decode cJ11_isValidCodePoint_9a6ad 4 = .ok (.istore_n 1, 1) := by decide +kernel
theorem dJ11_isValidCodePoint_9a6ad_5 : decode cJ11_isValidCodePoint_9a6ad 5 = .ok (.iload_n 1, 1) := by decide +kernel
theorem dJ11_isValidCodePoint_9a6ad_6 : decode cJ11_isValidCodePoint_9a6ad 6 = .ok (.bipush 17, 2) := by decide +kernel
theorem dJ11_isValidCodePoint_9a6ad_8 : decode cJ11_isValidCodePoint_9a6ad 8 = .ok (.if_icmp .ge 7, 3) := by decide +kernel
theorem dJ11_isValidCodePoint_9a6ad_11 : decode cJ11_isValidCodePoint_9a6ad 11 = .ok (.iconst 1, 1) := by decide +kernel
theorem dJ11_isValidCodePoint_9a6ad_12 : decode cJ11_isValidCodePoint_9a6ad 12 = .ok (.goto 4, 3) := by decide +kernel
theorem dJ11_isValidCodePoint_9a6ad_15 : decode cJ11_isValidCodePoint_9a6ad 15 = .ok (.iconst 0, 1) := by decide +kernel
theorem dJ11_isValidCodePoint_9a6ad_16 : decode cJ11_isValidCodePoint_9a6ad 16 = .ok (.ireturn, 1) := by decide +kernel
theorem dJ11_highSurrogate_5068e_0 : decode cJ11_highSurrogate_5068e 0 = .ok (.iload_n 0, 1) := by decide +kernel
theorem dJ11_highSurrogate_5068e_1 : decode cJ11_highSurrogate_5068e 1 = .ok (.bipush 10, 2) := by decide +kernel
theorem dJ11_highSurrogate_5068e_3 : decode cJ11_highSurrogate_5068e 3 = .ok (.iushr, 1) := by decide +kernel
theorem dJ11_highSurrogate_5068e_4 : decode cJ11_highSurrogate_5068e 4 = .ok (.ldc 110, 2) := by decide +kernel
theorem dJ11_highSurrogate_5068e_6 : decode cJ11_highSurrogate_5068e 6 = .ok (.iadd, 1) := by decide +kernel
theorem dJ11_highSurrogate_5068e_7 : decode cJ11_highSurrogate_5068e 7 = .ok (.i2c, 1) := by decide +kernel
theorem dJ11_highSurrogate_5068e_8 : decode cJ11_highSurrogate_5068e 8 = .ok (.ireturn, 1) := by decide +kernel
theorem dJ11_lowSurrogate_5068e_0 : decode cJ11_lowSurrogate_5068e 0 = .ok (.iload_n 0, 1) := by decide +kernel
theorem dJ11_lowSurrogate_5068e_1 : decode cJ11_lowSurrogate_5068e 1 = .ok (.sipush 1023, 3) := by decide +kernel
theorem dJ11_lowSurrogate_5068e_4 : decode cJ11_lowSurrogate_5068e 4 = .ok (.iand, 1) := by decide +kernel
theorem dJ11_lowSurrogate_5068e_5 : decode cJ11_lowSurrogate_5068e 5 = .ok (.ldc 76, 2) := by decide +kernel
theorem dJ11_lowSurrogate_5068e_7 : decode cJ11_lowSurrogate_5068e 7 = .ok (.iadd, 1) := by decide +kernel
theorem dJ11_lowSurrogate_5068e_8 : decode cJ11_lowSurrogate_5068e 8 = .ok (.i2c, 1) := by decide +kernel
theorem dJ11_lowSurrogate_5068e_9 : decode cJ11_lowSurrogate_5068e 9 = .ok (.ireturn, 1) := by decide +kernel
theorem dJ6_bitCount_0f7a4_0 : decode cJ6_bitCount_0f7a4 0 = .ok (.iload_n 0, 1) := by decide +kernel
theorem dJ6_bitCount_0f7a4_1 : decode cJ6_bitCount_0f7a4 1 = .ok (.iload_n 0, 1) := by decide +kernel
theorem dJ6_bitCount_0f7a4_2 : decode cJ6_bitCount_0f7a4 2 = .ok (.iconst 1, 1) := by decide +kernel
theorem dJ6_bitCount_0f7a4_3 : decode cJ6_bitCount_0f7a4 3 = .ok (.iushr, 1) := by decide +kernel
theorem dJ6_bitCount_0f7a4_4 : decode cJ6_bitCount_0f7a4 4 = .ok (.ldc_w 265, 3) := by decide +kernel
theorem dJ6_bitCount_0f7a4_7 : decode cJ6_bitCount_0f7a4 7 = .ok (.iand, 1) := by decide +kernel
theorem dJ6_bitCount_0f7a4_8 : decode cJ6_bitCount_0f7a4 8 = .ok (.isub, 1) := by decide +kernel
theorem dJ6_bitCount_0f7a4_9 : decode cJ6_bitCount_0f7a4 9 = .ok (.istore_n 0, 1) := by decide +kernel
theorem dJ6_bitCount_0f7a4_10 : decode cJ6_bitCount_0f7a4 10 = .ok (.iload_n 0, 1) := by decide +kernel
theorem dJ6_bitCount_0f7a4_11 : decode cJ6_bitCount_0f7a4 11 = .ok (.ldc_w 266, 3) := by decide +kernel
theorem dJ6_bitCount_0f7a4_14 : decode cJ6_bitCount_0f7a4 14 = .ok (.iand, 1) := by decide +kernel
theorem dJ6_bitCount_0f7a4_15 : decode cJ6_bitCount_0f7a4 15 = .ok (.iload_n 0, 1) := by decide +kernel
theorem dJ6_bitCount_0f7a4_16 : decode cJ6_bitCount_0f7a4 16 = .ok (.iconst 2, 1) := by decide +kernel
theorem dJ6_bitCount_0f7a4_17 : decode cJ6_bitCount_0f7a4 17 = .ok (.iushr, 1) := by decide +kernel
theorem dJ6_bitCount_0f7a4_18 : decode cJ6_bitCount_0f7a4 18 = .ok (.ldc_w 266, 3) := by decide +kernel
theorem dJ6_bitCount_0f7a4_21 : decode cJ6_bitCount_0f7a4 21 = .ok (.iand, 1) := by decide +kernel
theorem dJ6_bitCount_0f7a4_22 : decode cJ6_bitCount_0f7a4 22 = .ok (.iadd, 1) := by decide +kernel
theorem dJ6_bitCount_0f7a4_23 : decode cJ6_bitCount_0f7a4 23 = .ok (.istore_n 0, 1) := by decide +kernel
theorem dJ6_bitCount_0f7a4_24 : decode cJ6_bitCount_0f7a4 24 = .ok (.iload_n 0, 1) := by decide +kernel
theorem dJ6_bitCount_0f7a4_25 : decode cJ6_bitCount_0f7a4 25 = .ok (.iload_n 0, 1) := by decide +kernel
theorem dJ6_bitCount_0f7a4_26 : decode cJ6_bitCount_0f7a4 26 = .ok (.iconst 4, 1) := by decide +kernel
theorem dJ6_bitCount_0f7a4_27 : decode cJ6_bitCount_0f7a4 27 = .ok (.iushr, 1) := by decide +kernel
theorem dJ6_bitCount_0f7a4_28 : decode cJ6_bitCount_0f7a4 28 = .ok (.iadd, 1) := by decide +kernel
theorem dJ6_bitCount_0f7a4_29 : decode cJ6_bitCount_0f7a4 29 = .ok (.ldc_w 267, 3) := by decide +kernel
theorem dJ6_bitCount_0f7a4_32 : decode cJ6_bitCount_0f7a4 32 = .ok (.iand, 1) := by decide +kernel
theorem dJ6_bitCount_0f7a4_33 : decode cJ6_bitCount_0f7a4 33 = .ok (.istore_n 0, 1) := by decide +kernel
theorem dJ6_bitCount_0f7a4_34 : decode cJ6_bitCount_0f7a4 34 = .ok (.iload_n 0, 1) := by decide +kernel
theorem dJ6_bitCount_0f7a4_35 : decode cJ6_bitCount_0f7a4 35 = .ok (.iload_n 0, 1) := by decide +kernel
theorem dJ6_bitCount_0f7a4_36 : decode cJ6_bitCount_0f7a4 36 = .ok (.bipush 8, 2) := by decide +kernel
theorem dJ6_bitCount_0f7a4_38 : decode cJ6_bitCount_0f7a4 38 = .ok (.iushr, 1) := by decide +kernel
theorem dJ6_bitCount_0f7a4_39 : decode cJ6_bitCount_0f7a4 39 = .ok (.iadd, 1) := by decide +kernel
theorem dJ6_bitCount_0f7a4_40 : decode cJ6_bitCount_0f7a4 40 = .ok (.istore_n 0, 1) := by decide +kernel
theorem dJ6_bitCount_0f7a4_41 : decode cJ6_bitCount_0f7a4 41 = .ok (.iload_n 0, 1) := by decide +kernel
theorem dJ6_bitCount_0f7a4_42 : decode cJ6_bitCount_0f7a4 42 = .ok (.iload_n 0, 1) := by decide +kernel
theorem dJ6_bitCount_0f7a4_43 : decode cJ6_bitCount_0f7a4 43 = .ok (.bipush 16, 2) := by decide +kernel
theorem dJ6_bitCount_0f7a4_45 : decode cJ6_bitCount_0f7a4 45 = .ok (.iushr, 1) := by decide +kernel
theorem dJ6_bitCount_0f7a4_46 : decode cJ6_bitCount_0f7a4 46 = .ok (.iadd, 1) := by decide +kernel
theorem dJ6_bitCount_0f7a4_47 : decode cJ6_bitCount_0f7a4 47 = .ok (.istore_n 0, 1) := by decide +kernel
theorem dJ6_bitCount_0f7a4_48 : decode cJ6_bitCount_0f7a4 48 = .ok (.iload_n 0, 1) := by decide +kernel
theorem dJ6_bitCount_0f7a4_49 : decode cJ6_bitCount_0f7a4 49 = .ok (.bipush 63, 2) := by decide +kernel
theorem dJ6_bitCount_0f7a4_51 : decode cJ6_bitCount_0f7a4 51 = .ok (.iand, 1) := by decide +kernel
theorem dJ6_bitCount_0f7a4_52 : decode cJ6_bitCount_0f7a4 52 = .ok (.ireturn, 1) := by decide +kernel
theorem dJ9_max_7cf53_0 : decode cJ9_max_7cf53 0 = .ok (.iload_n 0, 1) := by decide +kernel
theorem dJ9_max_7cf53_1 : decode cJ9_max_7cf53 1 = .ok (.iload_n 1, 1) := by decide +kernel
theorem dJ9_max_7cf53_2 : decode cJ9_max_7cf53 2 = .ok (.if_icmp .lt 7, 3) := by decide +kernel
theorem dJ9_max_7cf53_5 : decode cJ9_max_7cf53 5 = .ok (.iload_n 0, 1) := by decide +kernel
theorem dJ9_max_7cf53_6 : decode cJ9_max_7cf53 6 = .ok (.goto 4, 3) := by decide +kernel
theorem dJ9_max_7cf53_9 : decode cJ9_max_7cf53 9 = .ok (.iload_n 1, 1) := by decide +kernel
theorem dJ9_max_7cf53_10 : decode cJ9_max_7cf53 10 = .ok (.ireturn, 1) := by decide +kernel
theorem dJ9_min_7cf53_0 : decode cJ9_min_7cf53 0 = .ok (.iload_n 0, 1) := by decide +kernel
theorem dJ9_min_7cf53_1 : decode cJ9_min_7cf53 1 = .ok (.iload_n 1, 1) := by decide +kernel
theorem dJ9_min_7cf53_2 : decode cJ9_min_7cf53 2 = .ok (.if_icmp .gt 7, 3) := by decide +kernel
theorem dJ9_min_7cf53_5 : decode cJ9_min_7cf53 5 = .ok (.iload_n 0, 1) := by decide +kernel
theorem dJ9_min_7cf53_6 : decode cJ9_min_7cf53 6 = .ok (.goto 4, 3) := by decide +kernel
theorem dJ9_min_7cf53_9 : decode cJ9_min_7cf53 9 = .ok (.iload_n 1, 1) := by decide +kernel
theorem dJ9_min_7cf53_10 : decode cJ9_min_7cf53 10 = .ok (.ireturn, 1) := by decide +kernel
theorem dJ0_length_8abf5_0 : decode cJ0_length_8abf5 0 = .ok (.aload_n 0, 1) := by decide +kernel
theorem dJ0_length_8abf5_1 : decode cJ0_length_8abf5 1 = .ok (.getfield 9, 3) := by decide +kernel
theorem dJ0_length_8abf5_4 : decode cJ0_length_8abf5 4 = .ok (.arraylength, 1) := by decide +kernel
theorem dJ0_length_8abf5_5 : decode cJ0_length_8abf5 5 = .ok (.aload_n 0, 1) := by decide +kernel
theorem dJ0_length_8abf5_6 : decode cJ0_length_8abf5 6 = .ok (.invokevirtual 335, 3) := by decide +kernel
theorem dJ0_length_8abf5_9 : decode cJ0_length_8abf5 9 = .ok (.ishr, 1) := by decide +kernel
theorem dJ0_length_8abf5_10 : decode cJ0_length_8abf5 10 = .ok (.ireturn, 1) := by decide +kernel
theorem dJ0_indexOf_0f7a4_0 : decode cJ0_indexOf_0f7a4 0 = .ok (.aload_n 0, 1) := by decide +kernel
theorem dJ0_indexOf_0f7a4_1 : decode cJ0_indexOf_0f7a4 1 = .ok (.iload_n 1, 1) := by decide +kernel
theorem dJ0_indexOf_0f7a4_2 : decode cJ0_indexOf_0f7a4 2 = .ok (.iconst 0, 1) := by decide +kernel
theorem dJ0_indexOf_0f7a4_3 : decode cJ0_indexOf_0f7a4 3 = .ok (.invokevirtual 633, 3) := by decide +kernel
theorem dJ0_indexOf_0f7a4_6 : decode cJ0_indexOf_0f7a4 6 = .ok (.ireturn, 1) := by decide +kernel
theorem dJ0_indexOf_7cf53_0 : decode cJ0_indexOf_7cf53 0 = .ok (.aload_n 0, 1) := by decide +kernel
theorem dJ0_indexOf_7cf53_1 : decode cJ0_indexOf_7cf53 1 = .ok (.invokevirtual 492, 3) := by decide +kernel
theorem dJ0_indexOf_7cf53_4 : decode cJ0_indexOf_7cf53 4 = .ok (.ifCond .eq 19, 3) := by decide +kernel
theorem dJ0_indexOf_7cf53_7 : decode cJ0_indexOf_7cf53 7 = .ok (.aload_n 0, 1) := by decide +kernel
theorem dJ0_indexOf_7cf53_8 : decode cJ0_indexOf_7cf53 8 = .ok (.getfield 9, 3) := by decide +kernel
theorem dJ0_indexOf_7cf53_11 : decode cJ0_indexOf_7cf53 11 = .ok (.iload_n 1, 1) := by decide +kernel
theorem dJ0_indexOf_7cf53_12 : decode cJ0_indexOf_7cf53 12 = .ok (.iload_n 2, 1) := by decide +kernel
theorem dJ0_indexOf_7cf53_13 : decode cJ0_indexOf_7cf53 13 = .ok (.aload_n 0, 1) := by decide +kernel
theorem dJ0_indexOf_7cf53_14 : decode cJ0_indexOf_7cf53 14 = .ok (.invokevirtual 505, 3) := by decide +kernel
theorem dJ0_indexOf_7cf53_17 : decode cJ0_indexOf_7cf53 17 = .ok (.invokestatic 637, 3) := by decide +kernel
theorem dJ0_indexOf_7cf53_20 : decode cJ0_indexOf_7cf53 20 = .ok (.goto 16, 3) := by decide +kernel
theorem dJ0_indexOf_7cf53_23 : decode cJ0_indexOf_7cf53 23 = .ok (.aload_n 0, 1) := by decide +kernel
theorem dJ0_indexOf_7cf53_24 : decode cJ0_indexOf_7cf53 24 = .ok (.getfield 9, 3) := by decide +kernel
theorem dJ0_indexOf_7cf53_27 : decode cJ0_indexOf_7cf53 27 = .ok (.iload_n 1, 1) := by decide +kernel
theorem dJ0_indexOf_7cf53_28 : decode cJ0_indexOf_7cf53 28 = .ok (.iload_n 2, 1) := by decide +kernel
theorem dJ0_indexOf_7cf53_29 : decode cJ0_indexOf_7cf53 29 = .ok (.aload_n 0, 1) := by decide +kernel
theorem dJ0_indexOf_7cf53_30 : decode cJ0_indexOf_7cf53 30 = .ok (.invokevirtual 505, 3) := by decide +kernel
theorem dJ0_indexOf_7cf53_33 : decode cJ0_indexOf_7cf53 33 = .ok (.invokestatic 640, 3) := by decide +kernel
theorem dJ0_indexOf_7cf53_36 : decode cJ0_indexOf_7cf53 36 = .ok (.ireturn, 1) := by decide +kernel
theorem dJ0_coder_7d493_0 : decode cJ0_coder_7d493 0 = .ok (.getstatic 38, 3) := by decide +kernel
theorem dJ0_coder_7d493_3 : decode cJ0_coder_7d493 3 = .ok (.ifCond .eq 10, 3) := by decide +kernel
theorem dJ0_coder_7d493_6 : decode cJ0_coder_7d493 6 = .ok (.aload_n 0, 1) := by decide +kernel
theorem dJ0_coder_7d493_7 : decode cJ0_coder_7d493 7 = .ok (.getfield 15, 3) := by decide +kernel
theorem dJ0_coder_7d493_10 : decode cJ0_coder_7d493 10 = .ok (.goto 4, 3) := by decide +kernel
theorem dJ0_coder_7d493_13 : decode cJ0_coder_7d493 13 = .ok (.iconst 1, 1) := by decide +kernel
theorem dJ0_coder_7d493_14 : decode cJ0_coder_7d493 14 = .ok (.ireturn, 1) := by decide +kernel
theorem dJ0_isLatin1_aae02_0 : decode cJ0_isLatin1_aae02 0 = .ok (.getstatic 38, 3) := by decide +kernel
theorem dJ0_isLatin1_aae02_3 : decode cJ0_isLatin1_aae02 3 = .ok (.ifCond .eq 14, 3) := by decide +kernel
theorem dJ0_isLatin1_aae02_6 : decode cJ0_isLatin1_aae02 6 = .ok (.aload_n 0, 1) := by decide +kernel
theorem dJ0_isLatin1_aae02_7 : decode cJ0_isLatin1_aae02 7 = .ok (.getfield 15, 3) := by decide +kernel
theorem dJ0_isLatin1_aae02_10 : decode cJ0_isLatin1_aae02 10 = .ok (.ifCond .ne 7, 3) := by decide +kernel
theorem dJ0_isLatin1_aae02_13 : decode cJ0_isLatin1_aae02 13 = .ok (.iconst 1, 1) := by decide +kernel
theorem dJ0_isLatin1_aae02_14 : decode cJ0_isLatin1_aae02 14 = .ok (.goto 4, 3) := by decide +kernel
theorem dJ0_isLatin1_aae02_17 : decode cJ0_isLatin1_aae02 17 = .ok (.iconst 0, 1) := by decide +kernel
theorem dJ0_isLatin1_aae02_18 : decode cJ0_isLatin1_aae02 18 = .ok (.ireturn, 1) := by decide +kernel
theorem dJ0_checkBoundsBeginEnd_23922_0 : decode cJ0_checkBoundsBeginEnd_23922 0 = .ok (.iload_n 0, 1) := by decide +kernel
theorem dJ0_checkBoundsBeginEnd_23922_1 : decode cJ0_checkBoundsBeginEnd_23922 1 = .ok (.iload_n 1, 1) := by decide +kernel
theorem dJ0_checkBoundsBeginEnd_23922_2 : decode cJ0_checkBoundsBeginEnd_23922 2 = .ok (.iload_n 2, 1) := by decide +kernel
theorem dJ0_checkBoundsBeginEnd_23922_3 : decode cJ0_checkBoundsBeginEnd_23922 3 = .ok (.getstatic 1053, 3) := by decide +kernel
theorem dJ0_checkBoundsBeginEnd_23922_6 : decode cJ0_checkBoundsBeginEnd_23922 6 = .ok (.invokestatic 1062, 3) := by decide +kernel
theorem dJ0_checkBoundsBeginEnd_23922_9 : decode cJ0_checkBoundsBeginEnd_23922 9 = .ok (.pop, 1) := by decide +kernel
theorem dJ0_checkBoundsBeginEnd_23922_10 : decode cJ0_checkBoundsBeginEnd_23922 10 = .ok (.return_, 1) := by decide +kernel
theorem dJ1_canEncode_9a6ad_0 : decode cJ1_canEncode_9a6ad 0 = .ok (.iload_n 0, 1) := by decide +kernel
theorem dJ1_canEncode_9a6ad_1 : decode cJ1_canEncode_9a6ad 1 = .ok (.ifCond .lt 14, 3) := by decide +kernel
theorem dJ1_canEncode_9a6ad_4 : decode cJ1_canEncode_9a6ad 4 = .ok (.iload_n 0, 1) := by decide +kernel
theorem dJ1_canEncode_9a6ad_5 : decode cJ1_canEncode_9a6ad 5 = .ok (.sipush 255, 3) := by decide +kernel
theorem dJ1_canEncode_9a6ad_8 : decode cJ1_canEncode_9a6ad 8 = .ok (.if_icmp .gt 7, 3) := by decide +kernel
theorem dJ1_canEncode_9a6ad_11 : decode cJ1_canEncode_9a6ad 11 = .ok (.iconst 1, 1) := by decide +kernel
theorem dJ1_canEncode_9a6ad_12 : decode cJ1_canEncode_9a6ad 12 = .ok (.goto 4, 3) := by decide +kernel
theorem dJ1_canEncode_9a6ad_15 : decode cJ1_canEncode_9a6ad 15 = .ok (.iconst 0, 1) := by decide +kernel
theorem dJ1_canEncode_9a6ad_16 : decode cJ1_canEncode_9a6ad 16 = .ok (.ireturn, 1) := by decide +kernel
theorem dJ1_indexOf_4cfef_0 : decode cJ1_indexOf_4cfef 0 = .ok (.iload_n 1, 1) := by decide +kernel
theorem dJ1_indexOf_4cfef_1 : decode cJ1_indexOf_4cfef 1 = .ok (.invokestatic 88, 3) := by decide +kernel
theorem dJ1_indexOf_4cfef_4 : decode cJ1_indexOf_4cfef 4 = .ok (.ifCond .ne 5, 3) := by decide +kernel
theorem dJ1_indexOf_4cfef_7 : decode cJ1_indexOf_4cfef 7 = .ok (.iconst (-1), 1) := by decide +kernel
theorem dJ1_indexOf_4cfef_8 : decode cJ1_indexOf_4cfef 8 = .ok (.ireturn, 1) := by decide +kernel
theorem dJ1_indexOf_4cfef_9 : decode cJ1_indexOf_4cfef 9 = .ok (.iload_n 2, 1) := by decide +kernel
theorem dJ1_indexOf_4cfef_10 : decode cJ1_indexOf_4cfef 10 = .ok (.iconst 0, 1) := by decide +kernel
theorem dJ1_indexOf_4cfef_11 : decode cJ1_indexOf_4cfef 11 = .ok (.invokestatic 92, 3) := by decide +kernel
theorem dJ1_indexOf_4cfef_14 : decode cJ1_indexOf_4cfef 14 = .ok (.istore_n 2, 1) := by decide +kernel
theorem dJ1_indexOf_4cfef_15 : decode cJ1_indexOf_4cfef 15 = .ok (.iload_n 3, 1) := by decide +kernel
theorem dJ1_indexOf_4cfef_16 : decode cJ1_indexOf_4cfef 16 = .ok (.aload_n 0, 1) := by decide +kernel
theorem dJ1_indexOf_4cfef_17 : decode cJ1_indexOf_4cfef 17 = .ok (.arraylength, 1) := by decide +kernel
theorem dJ1_indexOf_4cfef_18 : decode cJ1_indexOf_4cfef 18 = .ok (.invokestatic 38, 3) := by decide +kernel
theorem dJ1_indexOf_4cfef_21 : decode cJ1_indexOf_4cfef 21 = .ok (.istore_n 3, 1) := by decide +kernel
theorem dJ1_indexOf_4cfef_22 : decode cJ1_indexOf_4cfef 22 = .ok (.iload_n 2, 1) := by decide +kernel
theorem dJ1_indexOf_4cfef_23 : decode cJ1_indexOf_4cfef 23 = .ok (.iload_n 3, 1) := by decide +kernel
theorem dJ1_indexOf_4cfef_24 : decode cJ1_indexOf_4cfef 24 = .ok (.if_icmp .lt 5, 3) := by decide +kernel
theorem dJ1_indexOf_4cfef_27 : decode cJ1_indexOf_4cfef 27 = .ok (.iconst (-1), 1) := by decide +kernel
theorem dJ1_indexOf_4cfef_28 : decode cJ1_indexOf_4cfef 28 = .ok (.ireturn, 1) := by decide +kernel
theorem dJ1_indexOf_4cfef_29 : decode cJ1_indexOf_4cfef 29 = .ok (.aload_n 0, 1) := by decide +kernel
theorem dJ1_indexOf_4cfef_30 : decode cJ1_indexOf_4cfef 30 = .ok (.iload_n 1, 1) := by decide +kernel
theorem dJ1_indexOf_4cfef_31 : decode cJ1_indexOf_4cfef 31 = .ok (.iload_n 2, 1) := by decide +kernel
theorem dJ1_indexOf_4cfef_32 : decode cJ1_indexOf_4cfef 32 = .ok (.iload_n 3, 1) := by decide +kernel
theorem dJ1_indexOf_4cfef_33 : decode cJ1_indexOf_4cfef 33 = .ok (.invokestatic 95, 3) := by decide +kernel
theorem dJ1_indexOf_4cfef_36 : decode cJ1_indexOf_4cfef 36 = .ok (.ireturn, 1) := by decide +kernel
theorem dJ1_indexOfChar_4cfef_0 : decode cJ1_indexOfChar_4cfef 0 = .ok (.iload_n 1, 1) := by decide +kernel
theorem dJ1_indexOfChar_4cfef_1 : decode cJ1_indexOfChar_4cfef 1 = .ok (.i2b, 1) := by decide +kernel
theorem dJ1_indexOfChar_4cfef_2 : decode cJ1_indexOfChar_4cfef 2 = .ok (.istore 4, 2) := by decide +kernel
theorem dJ1_indexOfChar_4cfef_4 : decode cJ1_indexOfChar_4cfef 4 = .ok (.iload_n 2, 1) := by decide +kernel
theorem dJ1_indexOfChar_4cfef_5 : decode cJ1_indexOfChar_4cfef 5 = .ok (.istore 5, 2) := by decide +kernel
theorem dJ1_indexOfChar_4cfef_7 : decode cJ1_indexOfChar_4cfef 7 = .ok (.iload 5, 2) := by decide +kernel
theorem dJ1_indexOfChar_4cfef_9 : decode cJ1_indexOfChar_4cfef 9 = .ok (.iload_n 3, 1) := by decide +kernel
theorem dJ1_indexOfChar_4cfef_10 : decode cJ1_indexOfChar_4cfef 10 = .ok (.if_icmp .ge 21, 3) := by decide +kernel
theorem dJ1_indexOfChar_4cfef_13 : decode cJ1_indexOfChar_4cfef 13 = .ok (.aload_n 0, 1) := by decide +kernel
theorem dJ1_indexOfChar_4cfef_14 : decode cJ1_indexOfChar_4cfef 14 = .ok (.iload 5, 2) := by decide +kernel
theorem dJ1_indexOfChar_4cfef_16 : decode cJ1_indexOfChar_4cfef 16 = .ok (.baload, 1) := by decide +kernel
theorem dJ1_indexOfChar_4cfef_17 : decode cJ1_indexOfChar_4cfef 17 = .ok (.iload 4, 2) := by decide +kernel
theorem dJ1_indexOfChar_4cfef_19 : decode cJ1_indexOfChar_4cfef 19 = .ok (.if_icmp .ne 6, 3) := by decide +kernel
theorem dJ1_indexOfChar_4cfef_22 : decode cJ1_indexOfChar_4cfef 22 = .ok (.iload 5, 2) := by decide +kernel
theorem dJ1_indexOfChar_4cfef_24 : decode cJ1_indexOfChar_4cfef 24 = .ok (.ireturn, 1) := by decide +kernel
theorem dJ1_indexOfChar_4cfef_25 : decode cJ1_indexOfChar_4cfef 25 = .ok (.iinc 5 1, 3) := by decide +kernel
theorem dJ1_indexOfChar_4cfef_28 : decode cJ1_indexOfChar_4cfef 28 = .ok (.goto (-21), 3) := by decide +kernel
theorem dJ1_indexOfChar_4cfef_31 : decode cJ1_indexOfChar_4cfef 31 = .ok (.iconst (-1), 1) := by decide +kernel
theorem dJ1_indexOfChar_4cfef_32 : decode cJ1_indexOfChar_4cfef 32 = .ok (.ireturn, 1) := by decide +kernel
theorem dJ2_getChar_3b067_0 : decode cJ2_getChar_3b067 0 = .ok (.getstatic 44, 3) := by decide +kernel
theorem dJ2_getChar_3b067_3 : decode cJ2_getChar_3b067 3 = .ok (.ifCond .ne 25, 3) := by decide +kernel
theorem dJ2_getChar_3b067_6 : decode cJ2_getChar_3b067 6 = .ok (.iload_n 1, 1) := by decide +kernel
theorem dJ2_getChar_3b067_7 : decode cJ2_getChar_3b067 7 = .ok (.ifCond .lt 11, 3) := by decide +kernel
theorem dJ2_getChar_3b067_10 : decode cJ2_getChar_3b067 10 = .ok (.iload_n 1, 1) := by decide +kernel
theorem dJ2_getChar_3b067_11 : decode cJ2_getChar_3b067 11 = .ok (.aload_n 0, 1) := by decide +kernel
theorem dJ2_getChar_3b067_12 : decode cJ2_getChar_3b067 12 = .ok (.invokestatic 48, 3) := by decide +kernel
theorem dJ2_getChar_3b067_15 : decode cJ2_getChar_3b067 15 = .ok (.if_icmp .lt 13, 3) := by decide +kernel
theorem dJ2_getChar_3b067_18 : decode cJ2_getChar_3b067 18 = .ok (.new 52, 3) := by decide +kernel
theorem dJ2_getChar_3b067_21 : decode cJ2_getChar_3b067 21 = .ok (.dup, 1) := by decide +kernel
theorem dJ2_getChar_3b067_22 : decode cJ2_getChar_3b067 22 = .ok (.ldc 54, 2) := by decide +kernel
theorem dJ2_getChar_3b067_24 : decode cJ2_getChar_3b067 24 = .ok (.invokespecial 56, 3) := by decide +kernel
theorem dJ2_getChar_3b067_27 : decode cJ2_getChar_3b067 27 = .ok (.athrow, 1) := by decide +kernel
theorem dJ2_getChar_3b067_28 : decode cJ2_getChar_3b067 28 = .ok (.iload_n 1, 1) := by decide +kernel
theorem dJ2_getChar_3b067_29 : decode cJ2_getChar_3b067 29 = .ok (.iconst 1, 1) := by decide +kernel
theorem dJ2_getChar_3b067_30 : decode cJ2_getChar_3b067 30 = .ok (.ishl, 1) := by decide +kernel
theorem dJ2_getChar_3b067_31 : decode cJ2_getChar_3b067 31 = .ok (.istore_n 1, 1) := by decide +kernel
theorem dJ2_getChar_3b067_32 : decode cJ2_getChar_3b067 32 = .ok (.aload_n 0, 1) := by decide +kernel
theorem dJ2_getChar_3b067_33 : decode cJ2_getChar_3b067 33 = .ok (.iload_n 1, 1) := by decide +kernel
theorem dJ2_getChar_3b067_34 : decode cJ2_getChar_3b067 34 = .ok (.iinc 1 1, 3) := by decide +kernel
theorem dJ2_getChar_3b067_37 : decode cJ2_getChar_3b067 37 = .ok (.baload, 1) := by decide +kernel
theorem dJ2_getChar_3b067_38 : decode cJ2_getChar_3b067 38 = .ok (.sipush 255, 3) := by decide +kernel
theorem dJ2_getChar_3b067_41 : decode cJ2_getChar_3b067 41 = .ok (.iand, 1) := by decide +kernel
theorem dJ2_getChar_3b067_42 : decode cJ2_getChar_3b067 42 = .ok (.getstatic 59, 3) := by decide +kernel
theorem dJ2_getChar_3b067_45 : decode cJ2_getChar_3b067 45 = .ok (.ishl, 1) := by decide +kernel
theorem dJ2_getChar_3b067_46 : decode cJ2_getChar_3b067 46 = .ok (.aload_n 0, 1) := by decide +kernel
theorem dJ2_getChar_3b067_47 : decode cJ2_getChar_3b067 47 = .ok (.iload_n 1, 1) := by decide +kernel
theorem dJ2_getChar_3b067_48 : decode cJ2_getChar_3b067 48 = .ok (.baload, 1) := by decide +kernel
theorem dJ2_getChar_3b067_49 : decode cJ2_getChar_3b067 49 = .ok (.sipush 255, 3) := by decide +kernel
theorem dJ2_getChar_3b067_52 : decode cJ2_getChar_3b067 52 = .ok (.iand, 1) := by decide +kernel
theorem dJ2_getChar_3b067_53 : decode cJ2_getChar_3b067 53 = .ok (.getstatic 63, 3) := by decide +kernel
theorem dJ2_getChar_3b067_56 : decode cJ2_getChar_3b067 56 = .ok (.ishl, 1) := by decide +kernel
theorem dJ2_getChar_3b067_57 : decode cJ2_getChar_3b067 57 = .ok (.ior, 1) := by decide +kernel
theorem dJ2_getChar_3b067_58 : decode cJ2_getChar_3b067 58 = .ok (.i2c, 1) := by decide +kernel
theorem dJ2_getChar_3b067_59 : decode cJ2_getChar_3b067 59 = .ok (.ireturn, 1) := by decide +kernel
theorem dJ2_length_9d52b_0 : decode cJ2_length_9d52b 0 = .ok (.aload_n 0, 1) := by decide +kernel
theorem dJ2_length_9d52b_1 : decode cJ2_length_9d52b 1 = .ok (.arraylength, 1) := by decide +kernel
theorem dJ2_length_9d52b_2 : decode cJ2_length_9d52b 2 = .ok (.iconst 1, 1) := by decide +kernel
theorem dJ2_length_9d52b_3 : decode cJ2_length_9d52b 3 = .ok (.ishr, 1) := by decide +kernel
theorem dJ2_length_9d52b_4 : decode cJ2_length_9d52b 4 = .ok (.ireturn, 1) := by decide +kernel
theorem dJ2_indexOf_4cfef_0 : decode cJ2_indexOf_4cfef 0 = .ok (.iload_n 2, 1) := by decide +kernel
theorem dJ2_indexOf_4cfef_1 : decode cJ2_indexOf_4cfef 1 = .ok (.iconst 0, 1) := by decide +kernel
theorem dJ2_indexOf_4cfef_2 : decode cJ2_indexOf_4cfef 2 = .ok (.invokestatic 224, 3) := by decide +kernel
theorem dJ2_indexOf_4cfef_5 : decode cJ2_indexOf_4cfef 5 = .ok (.istore_n 2, 1) := by decide +kernel
theorem dJ2_indexOf_4cfef_6 : decode cJ2_indexOf_4cfef 6 = .ok (.iload_n 3, 1) := by decide +kernel
theorem dJ2_indexOf_4cfef_7 : decode cJ2_indexOf_4cfef 7 = .ok (.aload_n 0, 1) := by decide +kernel
theorem dJ2_indexOf_4cfef_8 : decode cJ2_indexOf_4cfef 8 = .ok (.arraylength, 1) := by decide +kernel
theorem dJ2_indexOf_4cfef_9 : decode cJ2_indexOf_4cfef 9 = .ok (.iconst 1, 1) := by decide +kernel
theorem dJ2_indexOf_4cfef_10 : decode cJ2_indexOf_4cfef 10 = .ok (.ishr, 1) := by decide +kernel
theorem dJ2_indexOf_4cfef_11 : decode cJ2_indexOf_4cfef 11 = .ok (.invokestatic 183, 3) := by decide +kernel
theorem dJ2_indexOf_4cfef_14 : decode cJ2_indexOf_4cfef 14 = .ok (.istore_n 3, 1) := by decide +kernel
theorem dJ2_indexOf_4cfef_15 : decode cJ2_indexOf_4cfef 15 = .ok (.iload_n 2, 1) := by decide +kernel
theorem dJ2_indexOf_4cfef_16 : decode cJ2_indexOf_4cfef 16 = .ok (.iload_n 3, 1) := by decide +kernel
theorem dJ2_indexOf_4cfef_17 : decode cJ2_indexOf_4cfef 17 = .ok (.if_icmp .lt 5, 3) := by decide +kernel
theorem dJ2_indexOf_4cfef_20 : decode cJ2_indexOf_4cfef 20 = .ok (.iconst (-1), 1) := by decide +kernel
theorem dJ2_indexOf_4cfef_21 : decode cJ2_indexOf_4cfef 21 = .ok (.ireturn, 1) := by decide +kernel
theorem dJ2_indexOf_4cfef_22 : decode cJ2_indexOf_4cfef 22 = .ok (.iload_n 1, 1) := by decide +kernel
theorem dJ2_indexOf_4cfef_23 : decode cJ2_indexOf_4cfef 23 = .ok (.ldc 227, 2) := by decide +kernel
theorem dJ2_indexOf_4cfef_25 : decode cJ2_indexOf_4cfef 25 = .ok (.if_icmp .ge 11, 3) := by decide +kernel
theorem dJ2_indexOf_4cfef_28 : decode cJ2_indexOf_4cfef 28 = .ok (.aload_n 0, 1) := by decide +kernel
theorem dJ2_indexOf_4cfef_29 : decode cJ2_indexOf_4cfef 29 = .ok (.iload_n 1, 1) := by decide +kernel
theorem dJ2_indexOf_4cfef_30 : decode cJ2_indexOf_4cfef 30 = .ok (.iload_n 2, 1) := by decide +kernel
theorem dJ2_indexOf_4cfef_31 : decode cJ2_indexOf_4cfef 31 = .ok (.iload_n 3, 1) := by decide +kernel
theorem dJ2_indexOf_4cfef_32 : decode cJ2_indexOf_4cfef 32 = .ok (.invokestatic 228, 3) := by decide +kernel
theorem dJ2_indexOf_4cfef_35 : decode cJ2_indexOf_4cfef 35 = .ok (.ireturn, 1) := by decide +kernel
theorem dJ2_indexOf_4cfef_36 : decode cJ2_indexOf_4cfef 36 = .ok (.aload_n 0, 1) := by decide +kernel
theorem dJ2_indexOf_4cfef_37 : decode cJ2_indexOf_4cfef 37 = .ok (.iload_n 1, 1) := by decide +kernel
theorem dJ2_indexOf_4cfef_38 : decode cJ2_indexOf_4cfef 38 = .ok (.iload_n 2, 1) := by decide +kernel
theorem dJ2_indexOf_4cfef_39 : decode cJ2_indexOf_4cfef 39 = .ok (.iload_n 3, 1) := by decide +kernel
theorem dJ2_indexOf_4cfef_40 : decode cJ2_indexOf_4cfef 40 = .ok (.invokestatic 232, 3) := by decide +kernel
theorem dJ2_indexOf_4cfef_43 : decode cJ2_indexOf_4cfef 43 = .ok (.ireturn, 1) := by decide +kernel
theorem dJ2_indexOfChar_4cfef_0 : decode cJ2_indexOfChar_4cfef 0 = .ok (.iload_n 2, 1) := by decide +kernel
theorem dJ2_indexOfChar_4cfef_1 : decode cJ2_indexOfChar_4cfef 1 = .ok (.iload_n 3, 1) := by decide +kernel
theorem dJ2_indexOfChar_4cfef_2 : decode cJ2_indexOfChar_4cfef 2 = .ok (.aload_n 0, 1) := by decide +kernel
theorem dJ2_indexOfChar_4cfef_3 : decode cJ2_indexOfChar_4cfef 3 = .ok (.invokestatic 96, 3) := by decide +kernel
theorem dJ2_indexOfChar_4cfef_6 : decode cJ2_indexOfChar_4cfef 6 = .ok (.aload_n 0, 1) := by decide +kernel
theorem dJ2_indexOfChar_4cfef_7 : decode cJ2_indexOfChar_4cfef 7 = .ok (.iload_n 1, 1) := by decide +kernel
theorem dJ2_indexOfChar_4cfef_8 : decode cJ2_indexOfChar_4cfef 8 = .ok (.iload_n 2, 1) := by decide +kernel
theorem dJ2_indexOfChar_4cfef_9 : decode cJ2_indexOfChar_4cfef 9 = .ok (.iload_n 3, 1) := by decide +kernel
theorem dJ2_indexOfChar_4cfef_10 : decode cJ2_indexOfChar_4cfef 10 = .ok (.invokestatic 244, 3) := by decide +kernel
theorem dJ2_indexOfChar_4cfef_13 : decode cJ2_indexOfChar_4cfef 13 = .ok (.ireturn, 1) := by decide +kernel
theorem dJ2_indexOfCharUnsafe_4cfef_0 : decode cJ2_indexOfCharUnsafe_4cfef 0 = .ok (.iload_n 2, 1) := by decide +kernel
theorem dJ2_indexOfCharUnsafe_4cfef_1 : decode cJ2_indexOfCharUnsafe_4cfef 1 = .ok (.istore 4, 2) := by decide +kernel
theorem dJ2_indexOfCharUnsafe_4cfef_3 : decode cJ2_indexOfCharUnsafe_4cfef 3 = .ok (.iload 4, 2) := by decide +kernel
theorem dJ2_indexOfCharUnsafe_4cfef_5 : decode cJ2_indexOfCharUnsafe_4cfef 5 = .ok (.iload_n 3, 1) := by decide +kernel
theorem dJ2_indexOfCharUnsafe_4cfef_6 : decode cJ2_indexOfCharUnsafe_4cfef 6 = .ok (.if_icmp .ge 22, 3) := by decide +kernel
theorem dJ2_indexOfCharUnsafe_4cfef_9 : decode cJ2_indexOfCharUnsafe_4cfef 9 = .ok (.aload_n 0, 1) := by decide +kernel
theorem dJ2_indexOfCharUnsafe_4cfef_10 : decode cJ2_indexOfCharUnsafe_4cfef 10 = .ok (.iload 4, 2) := by decide +kernel
theorem dJ2_indexOfCharUnsafe_4cfef_12 : decode cJ2_indexOfCharUnsafe_4cfef 12 = .ok (.invokestatic 71, 3) := by decide +kernel
theorem dJ2_indexOfCharUnsafe_4cfef_15 : decode cJ2_indexOfCharUnsafe_4cfef 15 = .ok (.iload_n 1, 1) := by decide +kernel
theorem dJ2_indexOfCharUnsafe_4cfef_16 : decode cJ2_indexOfCharUnsafe_4cfef 16 = .ok (.if_icmp .ne 6, 3) := by decide +kernel
theorem dJ2_indexOfCharUnsafe_4cfef_19 : decode cJ2_indexOfCharUnsafe_4cfef 19 = .ok (.iload 4, 2) := by decide +kernel
theorem dJ2_indexOfCharUnsafe_4cfef_21 : decode cJ2_indexOfCharUnsafe_4cfef 21 = .ok (.ireturn, 1) := by decide +kernel
theorem dJ2_indexOfCharUnsafe_4cfef_22 : decode cJ2_indexOfCharUnsafe_4cfef 22 = .ok (.iinc 4 1, 3) := by decide +kernel
theorem dJ2_indexOfCharUnsafe_4cfef_25 : decode cJ2_indexOfCharUnsafe_4cfef 25 = .ok (.goto (-22), 3) := by decide +kernel
theorem dJ2_indexOfCharUnsafe_4cfef_28 : decode cJ2_indexOfCharUnsafe_4cfef 28 = .ok (.iconst (-1), 1) := by decide +kernel
theorem dJ2_indexOfCharUnsafe_4cfef_29 : decode cJ2_indexOfCharUnsafe_4cfef 29 = .ok (.ireturn, 1) := by decide +kernel
theorem dJ2_indexOfSupplementary_4cfef_0 : decode cJ2_indexOfSupplementary_4cfef 0 = .ok (.iload_n 1, 1) := by decide +kernel
theorem dJ2_indexOfSupplementary_4cfef_1 : decode cJ2_indexOfSupplementary_4cfef 1 = .ok (.invokestatic 164, 3) := by decide +kernel
theorem dJ2_indexOfSupplementary_4cfef_4 : decode cJ2_indexOfSupplementary_4cfef 4 = .ok (.ifCond .eq 65, 3) := by decide +kernel
theorem dJ2_indexOfSupplementary_4cfef_7 : decode cJ2_indexOfSupplementary_4cfef 7 = .ok (.iload_n 1, 1) := by decide +kernel
theorem dJ2_indexOfSupplementary_4cfef_8 : decode cJ2_indexOfSupplementary_4cfef 8 = .ok (.invokestatic 157, 3) := by decide +kernel
theorem dJ2_indexOfSupplementary_4cfef_11 : decode cJ2_indexOfSupplementary_4cfef 11 = .ok (.istore 4, 2) := by decide +kernel
theorem dJ2_indexOfSupplementary_4cfef_13 : decode cJ2_indexOfSupplementary_4cfef 13 = .ok (.iload_n 1, 1) := by decide +kernel
theorem dJ2_indexOfSupplementary_4cfef_14 : decode cJ2_indexOfSupplementary_4cfef 14 = .ok (.invokestatic 161, 3) := by decide +kernel
theorem dJ2_indexOfSupplementary_4cfef_17 : decode cJ2_indexOfSupplementary_4cfef 17 = .ok (.istore 5, 2) := by decide +kernel
theorem dJ2_indexOfSupplementary_4cfef_19 : decode cJ2_indexOfSupplementary_4cfef 19 = .ok (.iload_n 2, 1) := by decide +kernel
theorem dJ2_indexOfSupplementary_4cfef_20 : decode cJ2_indexOfSupplementary_4cfef 20 = .ok (.iload_n 3, 1) := by decide +kernel
theorem dJ2_indexOfSupplementary_4cfef_21 : decode cJ2_indexOfSupplementary_4cfef 21 = .ok (.aload_n 0, 1) := by decide +kernel
theorem dJ2_indexOfSupplementary_4cfef_22 : decode cJ2_indexOfSupplementary_4cfef 22 = .ok (.invokestatic 96, 3) := by decide +kernel
theorem dJ2_indexOfSupplementary_4cfef_25 : decode cJ2_indexOfSupplementary_4cfef 25 = .ok (.iload_n 2, 1) := by decide +kernel
theorem dJ2_indexOfSupplementary_4cfef_26 : decode cJ2_indexOfSupplementary_4cfef 26 = .ok (.istore 6, 2) := by decide +kernel
theorem dJ2_indexOfSupplementary_4cfef_28 : decode cJ2_indexOfSupplementary_4cfef 28 = .ok (.iload 6, 2) := by decide +kernel
theorem dJ2_indexOfSupplementary_4cfef_30 : decode cJ2_indexOfSupplementary_4cfef 30 = .ok (.iload_n 3, 1) := by decide +kernel
theorem dJ2_indexOfSupplementary_4cfef_31 : decode cJ2_indexOfSupplementary_4cfef 31 = .ok (.iconst 1, 1) := by decide +kernel
theorem dJ2_indexOfSupplementary_4cfef_32 : decode cJ2_indexOfSupplementary_4cfef 32 = .ok (.isub, 1) := by decide +kernel
theorem dJ2_indexOfSupplementary_4cfef_33 : decode cJ2_indexOfSupplementary_4cfef 33 = .ok (.if_icmp .ge 36, 3) := by decide +kernel
theorem dJ2_indexOfSupplementary_4cfef_36 : decode cJ2_indexOfSupplementary_4cfef 36 = .ok (.aload_n 0, 1) := by decide +kernel
theorem dJ2_indexOfSupplementary_4cfef_37 : decode cJ2_indexOfSupplementary_4cfef 37 = .ok (.iload 6, 2) := by decide +kernel
theorem dJ2_indexOfSupplementary_4cfef_39 : decode cJ2_indexOfSupplementary_4cfef 39 = .ok (.invokestatic 71, 3) := by decide +kernel
theorem dJ2_indexOfSupplementary_4cfef_42 : decode cJ2_indexOfSupplementary_4cfef 42 = .ok (.iload 4, 2) := by decide +kernel
theorem dJ2_indexOfSupplementary_4cfef_44 : decode cJ2_indexOfSupplementary_4cfef 44 = .ok (.if_icmp .ne 19, 3) := by decide +kernel
theorem dJ2_indexOfSupplementary_4cfef_47 : decode cJ2_indexOfSupplementary_4cfef 47 = .ok (.aload_n 0, 1) := by decide +kernel
theorem dJ2_indexOfSupplementary_4cfef_48 : decode cJ2_indexOfSupplementary_4cfef 48 = .ok (.iload 6, 2) := by decide +kernel
theorem dJ2_indexOfSupplementary_4cfef_50 : decode cJ2_indexOfSupplementary_4cfef 50 = .ok (.iconst 1, 1) := by decide +kernel
theorem dJ2_indexOfSupplementary_4cfef_51 : decode cJ2_indexOfSupplementary_4cfef 51 = .ok (.iadd, 1) := by decide +kernel
theorem dJ2_indexOfSupplementary_4cfef_52 : decode cJ2_indexOfSupplementary_4cfef 52 = .ok (.invokestatic 71, 3) := by decide +kernel
theorem dJ2_indexOfSupplementary_4cfef_55 : decode cJ2_indexOfSupplementary_4cfef 55 = .ok (.iload 5, 2) := by decide +kernel
theorem dJ2_indexOfSupplementary_4cfef_57 : decode cJ2_indexOfSupplementary_4cfef 57 = .ok (.if_icmp .ne 6, 3) := by decide +kernel
theorem dJ2_indexOfSupplementary_4cfef_60 : decode cJ2_indexOfSupplementary_4cfef 60 = .ok (.iload 6, 2) := by decide +kernel
theorem dJ2_indexOfSupplementary_4cfef_62 : decode cJ2_indexOfSupplementary_4cfef 62 = .ok (.ireturn, 1) := by decide +kernel
theorem dJ2_indexOfSupplementary_4cfef_63 : decode cJ2_indexOfSupplementary_4cfef 63 = .ok (.iinc 6 1, 3) := by decide +kernel
theorem dJ2_indexOfSupplementary_4cfef_66 : decode cJ2_indexOfSupplementary_4cfef 66 = .ok (.goto (-38), 3) := by decide +kernel
theorem dJ2_indexOfSupplementary_4cfef_69 : decode cJ2_indexOfSupplementary_4cfef 69 = .ok (.iconst (-1), 1) := by decide +kernel
theorem dJ2_indexOfSupplementary_4cfef_70 : decode cJ2_indexOfSupplementary_4cfef 70 = .ok (.ireturn, 1) := by decide +kernel
theorem dJ2_checkBoundsBeginEnd_d044e_0 : decode cJ2_checkBoundsBeginEnd_d044e 0 = .ok (.iload_n 0, 1) := by decide +kernel
theorem dJ2_checkBoundsBeginEnd_d044e_1 : decode cJ2_checkBoundsBeginEnd_d044e 1 = .ok (.iload_n 1, 1) := by decide +kernel
theorem dJ2_checkBoundsBeginEnd_d044e_2 : decode cJ2_checkBoundsBeginEnd_d044e 2 = .ok (.aload_n 2, 1) := by decide +kernel
theorem dJ2_checkBoundsBeginEnd_d044e_3 : decode cJ2_checkBoundsBeginEnd_d044e 3 = .ok (.invokestatic 48, 3) := by decide +kernel
theorem dJ2_checkBoundsBeginEnd_d044e_6 : decode cJ2_checkBoundsBeginEnd_d044e 6 = .ok (.invokestatic 241, 3) := by decide +kernel
theorem dJ2_checkBoundsBeginEnd_d044e_9 : decode cJ2_checkBoundsBeginEnd_d044e 9 = .ok (.return_, 1) := by decide +kernel
theorem dJ3_checkFromToIndex_8c36e_0 : decode cJ3_checkFromToIndex_8c36e 0 = .ok (.iload_n 0, 1) := by decide +kernel
theorem dJ3_checkFromToIndex_8c36e_1 : decode cJ3_checkFromToIndex_8c36e 1 = .ok (.ifCond .lt 13, 3) := by decide +kernel
theorem dJ3_checkFromToIndex_8c36e_4 : decode cJ3_checkFromToIndex_8c36e 4 = .ok (.iload_n 0, 1) := by decide +kernel
theorem dJ3_checkFromToIndex_8c36e_5 : decode cJ3_checkFromToIndex_8c36e 5 = .ok (.iload_n 1, 1) := by decide +kernel
theorem dJ3_checkFromToIndex_8c36e_6 : decode cJ3_checkFromToIndex_8c36e 6 = .ok (.if_icmp .gt 8, 3) := by decide +kernel
theorem dJ3_checkFromToIndex_8c36e_9 : decode cJ3_checkFromToIndex_8c36e 9 = .ok (.iload_n 1, 1) := by decide +kernel
theorem dJ3_checkFromToIndex_8c36e_10 : decode cJ3_checkFromToIndex_8c36e 10 = .ok (.iload_n 2, 1) := by decide +kernel
theorem dJ3_checkFromToIndex_8c36e_11 : decode cJ3_checkFromToIndex_8c36e 11 = .ok (.if_icmp .le 11, 3) := by decide +kernel
theorem dJ3_checkFromToIndex_8c36e_14 : decode cJ3_checkFromToIndex_8c36e 14 = .ok (.aload_n 3, 1) := by decide +kernel
theorem dJ3_checkFromToIndex_8c36e_15 : decode cJ3_checkFromToIndex_8c36e 15 = .ok (.iload_n 0, 1) := by decide +kernel
theorem dJ3_checkFromToIndex_8c36e_16 : decode cJ3_checkFromToIndex_8c36e 16 = .ok (.iload_n 1, 1) := by decide +kernel
theorem dJ3_checkFromToIndex_8c36e_17 : decode cJ3_checkFromToIndex_8c36e 17 = .ok (.iload_n 2, 1) := by decide +kernel
theorem dJ3_checkFromToIndex_8c36e_18 : decode cJ3_checkFromToIndex_8c36e 18 = .ok (.invokestatic 99, 3) := by decide +kernel
theorem dJ3_checkFromToIndex_8c36e_21 : decode cJ3_checkFromToIndex_8c36e 21 = .ok (.athrow, 1) := by decide +kernel
theorem dJ3_checkFromToIndex_8c36e_22 : decode cJ3_checkFromToIndex_8c36e 22 = .ok (.iload_n 0, 1) := by decide +kernel
theorem dJ3_checkFromToIndex_8c36e_23 : decode cJ3_checkFromToIndex_8c36e 23 = .ok (.ireturn, 1) := by decide +kernel
