theorem dX10_request_156 : decode cX10_request 156 = .ok (.aload_n 0, 1) := by decide +kernel
theorem dX10_request_157 : decode cX10_request 157 = .ok (.getfield 173, 3) := by decide +kernel
theorem dX10_request_160 : decode cX10_request 160 = .ok (.iastore, 1) := by decide +kernel
theorem dX10_request_161 : decode cX10_request 161 = .ok (.aload_n 0, 1) := by decide +kernel
theorem dX10_request_162 : decode cX10_request 162 = .ok (.aload_n 0, 1) := by decide +kernel
theorem dX10_request_163 : decode cX10_request 163 = .ok (.getfield 173, 3) := by decide +kernel
theorem dX10_request_166 : decode cX10_request 166 = .ok (.iload 6, 2) := by decide +kernel
theorem dX10_request_168 : decode cX10_request 168 = .ok (.aload_n 0, 1) := by decide +kernel
theorem dX10_request_169 : decode cX10_request 169 = .ok (.getfield 196, 3) := by decide +kernel
theorem dX10_request_172 : decode cX10_request 172 = .ok (.aload_n 0, 1) := by decide +kernel
theorem dX10_request_173 : decode cX10_request 173 = .ok (.getfield 199, 3) := by decide +kernel
theorem dX10_request_176 : decode cX10_request 176 = .ok (.invokevirtual 182, 3) := by decide +kernel
theorem dX10_request_179 : decode cX10_request 179 = .ok (.aload_n 0, 1) := by decide +kernel
theorem dX10_request_180 : decode cX10_request 180 = .ok (.aload_n 0, 1) := by decide +kernel
theorem dX10_request_181 : decode cX10_request 181 = .ok (.getfield 173, 3) := by decide +kernel
theorem dX10_request_184 : decode cX10_request 184 = .ok (.invokevirtual 216, 3) := by decide +kernel
theorem dX10_request_187 : decode cX10_request 187 = .ok (.aload_n 0, 1) := by decide +kernel
theorem dX10_request_188 : decode cX10_request 188 = .ok (.aload_n 0, 1) := by decide +kernel
theorem dX10_request_189 : decode cX10_request 189 = .ok (.getfield 173, 3) := by decide +kernel
theorem dX10_request_192 : decode cX10_request 192 = .ok (.invokevirtual 219, 3) := by decide +kernel
theorem dX10_request_195 : decode cX10_request 195 = .ok (.pop, 1) := by decide +kernel
theorem dX10_request_196 : decode cX10_request 196 = .ok (.iload 6, 2) := by decide +kernel
theorem dX10_request_198 : decode cX10_request 198 = .ok (.ireturn, 1) := by decide +kernel
theorem dX10_isRefused_0 : decode cX10_isRefused 0 = .ok (.aload_n 0, 1) := by decide +kernel
theorem dX10_isRefused_1 : decode cX10_isRefused 1 = .ok (.aload_n 0, 1) := by decide +kernel
theorem dX10_isRefused_2 : decode cX10_isRefused 2 = .ok (.iload_n 1, 1) := by decide +kernel
theorem dX10_isRefused_3 : decode cX10_isRefused 3 = .ok (.iload_n 2, 1) := by decide +kernel
theorem dX10_isRefused_4 : decode cX10_isRefused 4 = .ok (.iload_n 3, 1) := by decide +kernel
theorem dX10_isRefused_5 : decode cX10_isRefused 5 = .ok (.iload 4, 2) := by decide +kernel
theorem dX10_isRefused_7 : decode cX10_isRefused 7 = .ok (.iload 5, 2) := by decide +kernel
theorem dX10_isRefused_9 : decode cX10_isRefused 9 = .ok (.invokevirtual 205, 3) := by decide +kernel
theorem dX10_isRefused_12 : decode cX10_isRefused 12 = .ok (.putfield 114, 3) := by decide +kernel
theorem dX10_isRefused_15 : decode cX10_isRefused 15 = .ok (.aload_n 0, 1) := by decide +kernel
theorem dX10_isRefused_16 : decode cX10_isRefused 16 = .ok (.getfield 114, 3) := by decide +kernel
theorem dX10_isRefused_19 : decode cX10_isRefused 19 = .ok (.ifCond .le 5, 3) := by decide +kernel
theorem dX10_isRefused_22 : decode cX10_isRefused 22 = .ok (.iconst 1, 1) := by decide +kernel
theorem dX10_isRefused_23 : decode cX10_isRefused 23 = .ok (.ireturn, 1) := by decide +kernel
theorem dX10_isRefused_24 : decode cX10_isRefused 24 = .ok (.aload_n 0, 1) := by decide +kernel
theorem dX10_isRefused_25 : decode cX10_isRefused 25 = .ok (.bipush 30, 2) := by decide +kernel
theorem dX10_isRefused_27 : decode cX10_isRefused 27 = .ok (.iload_n 1, 1) := by decide +kernel
theorem dX10_isRefused_28 : decode cX10_isRefused 28 = .ok (.iload_n 2, 1) := by decide +kernel
theorem dX10_isRefused_29 : decode cX10_isRefused 29 = .ok (.iload_n 3, 1) := by decide +kernel
theorem dX10_isRefused_30 : decode cX10_isRefused 30 = .ok (.iload 4, 2) := by decide +kernel
theorem dX10_isRefused_32 : decode cX10_isRefused 32 = .ok (.iload 5, 2) := by decide +kernel
theorem dX10_isRefused_34 : decode cX10_isRefused 34 = .ok (.invokevirtual 209, 3) := by decide +kernel
theorem dX10_isRefused_37 : decode cX10_isRefused 37 = .ok (.aload_n 0, 1) := by decide +kernel
theorem dX10_isRefused_38 : decode cX10_isRefused 38 = .ok (.bipush 30, 2) := by decide +kernel
theorem dX10_isRefused_40 : decode cX10_isRefused 40 = .ok (.invokevirtual 213, 3) := by decide +kernel
theorem dX10_isRefused_43 : decode cX10_isRefused 43 = .ok (.aload_n 0, 1) := by decide +kernel
theorem dX10_isRefused_44 : decode cX10_isRefused 44 = .ok (.getfield 173, 3) := by decide +kernel
theorem dX10_isRefused_47 : decode cX10_isRefused 47 = .ok (.ifCond .ge 9, 3) := by decide +kernel
theorem dX10_isRefused_50 : decode cX10_isRefused 50 = .ok (.aload_n 0, 1) := by decide +kernel
theorem dX10_isRefused_51 : decode cX10_isRefused 51 = .ok (.iconst 3, 1) := by decide +kernel
theorem dX10_isRefused_52 : decode cX10_isRefused 52 = .ok (.invokevirtual 127, 3) := by decide +kernel
theorem dX10_isRefused_55 : decode cX10_isRefused 55 = .ok (.pop, 1) := by decide +kernel
theorem dX10_isRefused_56 : decode cX10_isRefused 56 = .ok (.aload_n 0, 1) := by decide +kernel
theorem dX10_isRefused_57 : decode cX10_isRefused 57 = .ok (.getfield 114, 3) := by decide +kernel
theorem dX10_isRefused_60 : decode cX10_isRefused 60 = .ok (.ifCond .le 7, 3) := by decide +kernel
theorem dX10_isRefused_63 : decode cX10_isRefused 63 = .ok (.iconst 1, 1) := by decide +kernel
theorem dX10_isRefused_64 : decode cX10_isRefused 64 = .ok (.goto 4, 3) := by decide +kernel
theorem dX10_isRefused_67 : decode cX10_isRefused 67 = .ok (.iconst 0, 1) := by decide +kernel
theorem dX10_isRefused_68 : decode cX10_isRefused 68 = .ok (.ireturn, 1) := by decide +kernel
theorem dX10_quote_0 : decode cX10_quote 0 = .ok (.aload_n 0, 1) := by decide +kernel
theorem dX10_quote_1 : decode cX10_quote 1 = .ok (.iload_n 1, 1) := by decide +kernel
theorem dX10_quote_2 : decode cX10_quote 2 = .ok (.iload_n 2, 1) := by decide +kernel
theorem dX10_quote_3 : decode cX10_quote 3 = .ok (.iload_n 3, 1) := by decide +kernel
theorem dX10_quote_4 : decode cX10_quote 4 = .ok (.iload 4, 2) := by decide +kernel
theorem dX10_quote_6 : decode cX10_quote 6 = .ok (.iload 5, 2) := by decide +kernel
theorem dX10_quote_8 : decode cX10_quote 8 = .ok (.invokevirtual 222, 3) := by decide +kernel
theorem dX10_quote_11 : decode cX10_quote 11 = .ok (.ifCond .eq 7, 3) := by decide +kernel
theorem dX10_quote_14 : decode cX10_quote 14 = .ok (.iconst 0, 1) := by decide +kernel
theorem dX10_quote_15 : decode cX10_quote 15 = .ok (.goto 7, 3) := by decide +kernel
theorem dX10_quote_18 : decode cX10_quote 18 = .ok (.aload_n 0, 1) := by decide +kernel
theorem dX10_quote_19 : decode cX10_quote 19 = .ok (.getfield 193, 3) := by decide +kernel
theorem dX10_quote_22 : decode cX10_quote 22 = .ok (.ireturn, 1) := by decide +kernel
theorem dX10_quoteByTrying_0 : decode cX10_quoteByTrying 0 = .ok (.aload_n 0, 1) := by decide +kernel
theorem dX10_quoteByTrying_1 : decode cX10_quoteByTrying 1 = .ok (.iload_n 1, 1) := by decide +kernel
theorem dX10_quoteByTrying_2 : decode cX10_quoteByTrying 2 = .ok (.iload_n 2, 1) := by decide +kernel
theorem dX10_quoteByTrying_3 : decode cX10_quoteByTrying 3 = .ok (.iload_n 3, 1) := by decide +kernel
theorem dX10_quoteByTrying_4 : decode cX10_quoteByTrying 4 = .ok (.iload 4, 2) := by decide +kernel
theorem dX10_quoteByTrying_6 : decode cX10_quoteByTrying 6 = .ok (.iload 5, 2) := by decide +kernel
theorem dX10_quoteByTrying_8 : decode cX10_quoteByTrying 8 = .ok (.invokevirtual 226, 3) := by decide +kernel
theorem dX10_quoteByTrying_11 : decode cX10_quoteByTrying 11 = .ok (.ireturn, 1) := by decide +kernel
theorem dX10_quotedBus_0 : decode cX10_quotedBus 0 = .ok (.aload_n 0, 1) := by decide +kernel
theorem dX10_quotedBus_1 : decode cX10_quotedBus 1 = .ok (.iload_n 1, 1) := by decide +kernel
theorem dX10_quotedBus_2 : decode cX10_quotedBus 2 = .ok (.iload_n 2, 1) := by decide +kernel
theorem dX10_quotedBus_3 : decode cX10_quotedBus 3 = .ok (.iload_n 3, 1) := by decide +kernel
theorem dX10_quotedBus_4 : decode cX10_quotedBus 4 = .ok (.iload 4, 2) := by decide +kernel
theorem dX10_quotedBus_6 : decode cX10_quotedBus 6 = .ok (.iload 5, 2) := by decide +kernel
theorem dX10_quotedBus_8 : decode cX10_quotedBus 8 = .ok (.invokevirtual 222, 3) := by decide +kernel
theorem dX10_quotedBus_11 : decode cX10_quotedBus 11 = .ok (.ifCond .eq 7, 3) := by decide +kernel
theorem dX10_quotedBus_14 : decode cX10_quotedBus 14 = .ok (.iconst 0, 1) := by decide +kernel
theorem dX10_quotedBus_15 : decode cX10_quotedBus 15 = .ok (.goto 7, 3) := by decide +kernel
theorem dX10_quotedBus_18 : decode cX10_quotedBus 18 = .ok (.aload_n 0, 1) := by decide +kernel
theorem dX10_quotedBus_19 : decode cX10_quotedBus 19 = .ok (.getfield 173, 3) := by decide +kernel
theorem dX10_quotedBus_22 : decode cX10_quotedBus 22 = .ok (.ireturn, 1) := by decide +kernel
theorem dX10_cancel_0 : decode cX10_cancel 0 = .ok (.aload_n 0, 1) := by decide +kernel
theorem dX10_cancel_1 : decode cX10_cancel 1 = .ok (.iconst 0, 1) := by decide +kernel
theorem dX10_cancel_2 : decode cX10_cancel 2 = .ok (.putfield 114, 3) := by decide +kernel
theorem dX10_cancel_5 : decode cX10_cancel 5 = .ok (.aload_n 0, 1) := by decide +kernel
theorem dX10_cancel_6 : decode cX10_cancel 6 = .ok (.iload_n 1, 1) := by decide +kernel
theorem dX10_cancel_7 : decode cX10_cancel 7 = .ok (.invokevirtual 229, 3) := by decide +kernel
theorem dX10_cancel_10 : decode cX10_cancel 10 = .ok (.ifCond .ne 9, 3) := by decide +kernel
theorem dX10_cancel_13 : decode cX10_cancel 13 = .ok (.aload_n 0, 1) := by decide +kernel
theorem dX10_cancel_14 : decode cX10_cancel 14 = .ok (.iconst 1, 1) := by decide +kernel
theorem dX10_cancel_15 : decode cX10_cancel 15 = .ok (.invokevirtual 127, 3) := by decide +kernel
theorem dX10_cancel_18 : decode cX10_cancel 18 = .ok (.ireturn, 1) := by decide +kernel
theorem dX10_cancel_19 : decode cX10_cancel 19 = .ok (.aload_n 0, 1) := by decide +kernel
theorem dX10_cancel_20 : decode cX10_cancel 20 = .ok (.getfield 76, 3) := by decide +kernel
theorem dX10_cancel_23 : decode cX10_cancel 23 = .ok (.iload_n 1, 1) := by decide +kernel
theorem dX10_cancel_24 : decode cX10_cancel 24 = .ok (.caload, 1) := by decide +kernel
theorem dX10_cancel_25 : decode cX10_cancel 25 = .ok (.bipush 119, 2) := by decide +kernel
theorem dX10_cancel_27 : decode cX10_cancel 27 = .ok (.if_icmp .eq 9, 3) := by decide +kernel
theorem dX10_cancel_30 : decode cX10_cancel 30 = .ok (.aload_n 0, 1) := by decide +kernel
theorem dX10_cancel_31 : decode cX10_cancel 31 = .ok (.iconst 2, 1) := by decide +kernel
theorem dX10_cancel_32 : decode cX10_cancel 32 = .ok (.invokevirtual 127, 3) := by decide +kernel
theorem dX10_cancel_35 : decode cX10_cancel 35 = .ok (.ireturn, 1) := by decide +kernel
theorem dX10_cancel_36 : decode cX10_cancel 36 = .ok (.aload_n 0, 1) := by decide +kernel
theorem dX10_cancel_37 : decode cX10_cancel 37 = .ok (.getfield 67, 3) := by decide +kernel
theorem dX10_cancel_40 : decode cX10_cancel 40 = .ok (.iload_n 1, 1) := by decide +kernel
theorem dX10_cancel_41 : decode cX10_cancel 41 = .ok (.iaload, 1) := by decide +kernel
theorem dX10_cancel_42 : decode cX10_cancel 42 = .ok (.istore_n 2, 1) := by decide +kernel
theorem dX10_cancel_43 : decode cX10_cancel 43 = .ok (.aload_n 0, 1) := by decide +kernel
theorem dX10_cancel_44 : decode cX10_cancel 44 = .ok (.getfield 76, 3) := by decide +kernel
theorem dX10_cancel_47 : decode cX10_cancel 47 = .ok (.iload_n 1, 1) := by decide +kernel
theorem dX10_cancel_48 : decode cX10_cancel 48 = .ok (.bipush 99, 2) := by decide +kernel
theorem dX10_cancel_50 : decode cX10_cancel 50 = .ok (.castore, 1) := by decide +kernel
theorem dX10_cancel_51 : decode cX10_cancel 51 = .ok (.iconst 0, 1) := by decide +kernel
theorem dX10_cancel_52 : decode cX10_cancel 52 = .ok (.istore_n 3, 1) := by decide +kernel
theorem dX10_cancel_53 : decode cX10_cancel 53 = .ok (.iconst 0, 1) := by decide +kernel
theorem dX10_cancel_54 : decode cX10_cancel 54 = .ok (.istore 4, 2) := by decide +kernel
theorem dX10_cancel_56 : decode cX10_cancel 56 = .ok (.iload 4, 2) := by decide +kernel
theorem dX10_cancel_58 : decode cX10_cancel 58 = .ok (.aload_n 0, 1) := by decide +kernel
theorem dX10_cancel_59 : decode cX10_cancel 59 = .ok (.getfield 40, 3) := by decide +kernel
theorem dX10_cancel_62 : decode cX10_cancel 62 = .ok (.iload_n 2, 1) := by decide +kernel
theorem dX10_cancel_63 : decode cX10_cancel 63 = .ok (.iaload, 1) := by decide +kernel
theorem dX10_cancel_64 : decode cX10_cancel 64 = .ok (.if_icmp .ge 50, 3) := by decide +kernel
theorem dX10_cancel_67 : decode cX10_cancel 67 = .ok (.aload_n 0, 1) := by decide +kernel
theorem dX10_cancel_68 : decode cX10_cancel 68 = .ok (.getfield 43, 3) := by decide +kernel
theorem dX10_cancel_71 : decode cX10_cancel 71 = .ok (.bipush 8, 2) := by decide +kernel
theorem dX10_cancel_73 : decode cX10_cancel 73 = .ok (.iload_n 2, 1) := by decide +kernel
theorem dX10_cancel_74 : decode cX10_cancel 74 = .ok (.imul, 1) := by decide +kernel
theorem dX10_cancel_75 : decode cX10_cancel 75 = .ok (.iload 4, 2) := by decide +kernel
theorem dX10_cancel_77 : decode cX10_cancel 77 = .ok (.iadd, 1) := by decide +kernel
theorem dX10_cancel_78 : decode cX10_cancel 78 = .ok (.iaload, 1) := by decide +kernel
theorem dX10_cancel_79 : decode cX10_cancel 79 = .ok (.istore 5, 2) := by decide +kernel
theorem dX10_cancel_81 : decode cX10_cancel 81 = .ok (.iload 5, 2) := by decide +kernel
theorem dX10_cancel_83 : decode cX10_cancel 83 = .ok (.iconst 2, 1) := by decide +kernel
theorem dX10_cancel_84 : decode cX10_cancel 84 = .ok (.idiv, 1) := by decide +kernel
theorem dX10_cancel_85 : decode cX10_cancel 85 = .ok (.iload_n 1, 1) := by decide +kernel
theorem dX10_cancel_86 : decode cX10_cancel 86 = .ok (.if_icmp .ne 6, 3) := by decide +kernel
theorem dX10_cancel_89 : decode cX10_cancel 89 = .ok (.goto 19, 3) := by decide +kernel
theorem dX10_cancel_92 : decode cX10_cancel 92 = .ok (.aload_n 0, 1) := by decide +kernel
theorem dX10_cancel_93 : decode cX10_cancel 93 = .ok (.getfield 43, 3) := by decide +kernel
theorem dX10_cancel_96 : decode cX10_cancel 96 = .ok (.bipush 8, 2) := by decide +kernel
theorem dX10_cancel_98 : decode cX10_cancel 98 = .ok (.iload_n 2, 1) := by decide +kernel
theorem dX10_cancel_99 : decode cX10_cancel 99 = .ok (.imul, 1) := by decide +kernel
theorem dX10_cancel_100 : decode cX10_cancel 100 = .ok (.iload_n 3, 1) := by decide +kernel
theorem dX10_cancel_101 : decode cX10_cancel 101 = .ok (.iadd, 1) := by decide +kernel
theorem dX10_cancel_102 : decode cX10_cancel 102 = .ok (.iload 5, 2) := by decide +kernel
theorem dX10_cancel_104 : decode cX10_cancel 104 = .ok (.iastore, 1) := by decide +kernel
theorem dX10_cancel_105 : decode cX10_cancel 105 = .ok (.iinc 3 1, 3) := by decide +kernel
theorem dX10_cancel_108 : decode cX10_cancel 108 = .ok (.iinc 4 1, 3) := by decide +kernel
theorem dX10_cancel_111 : decode cX10_cancel 111 = .ok (.goto (-55), 3) := by decide +kernel
theorem dX10_cancel_114 : decode cX10_cancel 114 = .ok (.aload_n 0, 1) := by decide +kernel
theorem dX10_cancel_115 : decode cX10_cancel 115 = .ok (.getfield 40, 3) := by decide +kernel
theorem dX10_cancel_118 : decode cX10_cancel 118 = .ok (.iload_n 2, 1) := by decide +kernel
theorem dX10_cancel_119 : decode cX10_cancel 119 = .ok (.iload_n 3, 1) := by decide +kernel
theorem dX10_cancel_120 : decode cX10_cancel 120 = .ok (.iastore, 1) := by decide +kernel
theorem dX10_cancel_121 : decode cX10_cancel 121 = .ok (.aload_n 0, 1) := by decide +kernel
theorem dX10_cancel_122 : decode cX10_cancel 122 = .ok (.iload_n 2, 1) := by decide +kernel
theorem dX10_cancel_123 : decode cX10_cancel 123 = .ok (.invokevirtual 219, 3) := by decide +kernel
theorem dX10_cancel_126 : decode cX10_cancel 126 = .ok (.pop, 1) := by decide +kernel
theorem dX10_cancel_127 : decode cX10_cancel 127 = .ok (.iload_n 2, 1) := by decide +kernel
theorem dX10_cancel_128 : decode cX10_cancel 128 = .ok (.ireturn, 1) := by decide +kernel
theorem dX10_status_0 : decode cX10_status 0 = .ok (.aload_n 0, 1) := by decide +kernel
theorem dX10_status_1 : decode cX10_status 1 = .ok (.iconst 0, 1) := by decide +kernel
theorem dX10_status_2 : decode cX10_status 2 = .ok (.putfield 114, 3) := by decide +kernel
theorem dX10_status_5 : decode cX10_status 5 = .ok (.aload_n 0, 1) := by decide +kernel
theorem dX10_status_6 : decode cX10_status 6 = .ok (.iload_n 1, 1) := by decide +kernel
theorem dX10_status_7 : decode cX10_status 7 = .ok (.invokevirtual 229, 3) := by decide +kernel
theorem dX10_status_10 : decode cX10_status 10 = .ok (.ifCond .eq 12, 3) := by decide +kernel
theorem dX10_status_13 : decode cX10_status 13 = .ok (.aload_n 0, 1) := by decide +kernel
theorem dX10_status_14 : decode cX10_status 14 = .ok (.getfield 76, 3) := by decide +kernel
theorem dX10_status_17 : decode cX10_status 17 = .ok (.iload_n 1, 1) := by decide +kernel
theorem dX10_status_18 : decode cX10_status 18 = .ok (.caload, 1) := by decide +kernel
theorem dX10_status_19 : decode cX10_status 19 = .ok (.goto 9, 3) := by decide +kernel
theorem dX10_status_22 : decode cX10_status 22 = .ok (.aload_n 0, 1) := by decide +kernel
theorem dX10_status_23 : decode cX10_status 23 = .ok (.iconst 1, 1) := by decide +kernel
theorem dX10_status_24 : decode cX10_status 24 = .ok (.invokevirtual 127, 3) := by decide +kernel
theorem dX10_status_27 : decode cX10_status 27 = .ok (.i2c, 1) := by decide +kernel
theorem dX10_status_28 : decode cX10_status 28 = .ok (.ireturn, 1) := by decide +kernel
theorem dX10_reason_0 : decode cX10_reason 0 = .ok (.aload_n 0, 1) := by decide +kernel
theorem dX10_reason_1 : decode cX10_reason 1 = .ok (.iconst 0, 1) := by decide +kernel
theorem dX10_reason_2 : decode cX10_reason 2 = .ok (.putfield 114, 3) := by decide +kernel
theorem dX10_reason_5 : decode cX10_reason 5 = .ok (.aload_n 0, 1) := by decide +kernel
theorem dX10_reason_6 : decode cX10_reason 6 = .ok (.iload_n 1, 1) := by decide +kernel
theorem dX10_reason_7 : decode cX10_reason 7 = .ok (.invokevirtual 229, 3) := by decide +kernel
theorem dX10_reason_10 : decode cX10_reason 10 = .ok (.ifCond .ne 10, 3) := by decide +kernel
theorem dX10_reason_13 : decode cX10_reason 13 = .ok (.aload_n 0, 1) := by decide +kernel
theorem dX10_reason_14 : decode cX10_reason 14 = .ok (.iconst 1, 1) := by decide +kernel
theorem dX10_reason_15 : decode cX10_reason 15 = .ok (.invokevirtual 127, 3) := by decide +kernel
theorem dX10_reason_18 : decode cX10_reason 18 = .ok (.i2c, 1) := by decide +kernel
theorem dX10_reason_19 : decode cX10_reason 19 = .ok (.ireturn, 1) := by decide +kernel
theorem dX10_reason_20 : decode cX10_reason 20 = .ok (.aload_n 0, 1) := by decide +kernel
theorem dX10_reason_21 : decode cX10_reason 21 = .ok (.getfield 76, 3) := by decide +kernel
theorem dX10_reason_24 : decode cX10_reason 24 = .ok (.iload_n 1, 1) := by decide +kernel
theorem dX10_reason_25 : decode cX10_reason 25 = .ok (.caload, 1) := by decide +kernel
theorem dX10_reason_26 : decode cX10_reason 26 = .ok (.bipush 120, 2) := by decide +kernel
theorem dX10_reason_28 : decode cX10_reason 28 = .ok (.if_icmp .ne 12, 3) := by decide +kernel
theorem dX10_reason_31 : decode cX10_reason 31 = .ok (.aload_n 0, 1) := by decide +kernel
theorem dX10_reason_32 : decode cX10_reason 32 = .ok (.getfield 80, 3) := by decide +kernel
theorem dX10_reason_35 : decode cX10_reason 35 = .ok (.iload_n 1, 1) := by decide +kernel
theorem dX10_reason_36 : decode cX10_reason 36 = .ok (.caload, 1) := by decide +kernel
theorem dX10_reason_37 : decode cX10_reason 37 = .ok (.goto 9, 3) := by decide +kernel
theorem dX10_reason_40 : decode cX10_reason 40 = .ok (.aload_n 0, 1) := by decide +kernel
theorem dX10_reason_41 : decode cX10_reason 41 = .ok (.iconst 2, 1) := by decide +kernel
theorem dX10_reason_42 : decode cX10_reason 42 = .ok (.invokevirtual 127, 3) := by decide +kernel
theorem dX10_reason_45 : decode cX10_reason 45 = .ok (.i2c, 1) := by decide +kernel
theorem dX10_reason_46 : decode cX10_reason 46 = .ok (.ireturn, 1) := by decide +kernel
theorem dX10_busOf_0 : decode cX10_busOf 0 = .ok (.aload_n 0, 1) := by decide +kernel
theorem dX10_busOf_1 : decode cX10_busOf 1 = .ok (.iconst 0, 1) := by decide +kernel
theorem dX10_busOf_2 : decode cX10_busOf 2 = .ok (.putfield 114, 3) := by decide +kernel
theorem dX10_busOf_5 : decode cX10_busOf 5 = .ok (.aload_n 0, 1) := by decide +kernel
theorem dX10_busOf_6 : decode cX10_busOf 6 = .ok (.iload_n 1, 1) := by decide +kernel
theorem dX10_busOf_7 : decode cX10_busOf 7 = .ok (.invokevirtual 229, 3) := by decide +kernel
theorem dX10_busOf_10 : decode cX10_busOf 10 = .ok (.ifCond .ne 9, 3) := by decide +kernel
theorem dX10_busOf_13 : decode cX10_busOf 13 = .ok (.aload_n 0, 1) := by decide +kernel
theorem dX10_busOf_14 : decode cX10_busOf 14 = .ok (.iconst 1, 1) := by decide +kernel
theorem dX10_busOf_15 : decode cX10_busOf 15 = .ok (.invokevirtual 127, 3) := by decide +kernel
theorem dX10_busOf_18 : decode cX10_busOf 18 = .ok (.ireturn, 1) := by decide +kernel
theorem dX10_busOf_19 : decode cX10_busOf 19 = .ok (.aload_n 0, 1) := by decide +kernel
theorem dX10_busOf_20 : decode cX10_busOf 20 = .ok (.getfield 76, 3) := by decide +kernel
theorem dX10_busOf_23 : decode cX10_busOf 23 = .ok (.iload_n 1, 1) := by decide +kernel
theorem dX10_busOf_24 : decode cX10_busOf 24 = .ok (.caload, 1) := by decide +kernel
theorem dX10_busOf_25 : decode cX10_busOf 25 = .ok (.bipush 120, 2) := by decide +kernel
theorem dX10_busOf_27 : decode cX10_busOf 27 = .ok (.if_icmp .ne 11, 3) := by decide +kernel
theorem dX10_busOf_30 : decode cX10_busOf 30 = .ok (.aload_n 0, 1) := by decide +kernel
theorem dX10_busOf_31 : decode cX10_busOf 31 = .ok (.iconst 2, 1) := by decide +kernel
theorem dX10_busOf_32 : decode cX10_busOf 32 = .ok (.invokevirtual 127, 3) := by decide +kernel
theorem dX10_busOf_35 : decode cX10_busOf 35 = .ok (.goto 9, 3) := by decide +kernel
theorem dX10_busOf_38 : decode cX10_busOf 38 = .ok (.aload_n 0, 1) := by decide +kernel
theorem dX10_busOf_39 : decode cX10_busOf 39 = .ok (.getfield 67, 3) := by decide +kernel
theorem dX10_busOf_42 : decode cX10_busOf 42 = .ok (.iload_n 1, 1) := by decide +kernel
theorem dX10_busOf_43 : decode cX10_busOf 43 = .ok (.iaload, 1) := by decide +kernel
theorem dX10_busOf_44 : decode cX10_busOf 44 = .ok (.ireturn, 1) := by decide +kernel
theorem dX10_latestPickup_0 : decode cX10_latestPickup 0 = .ok (.aload_n 0, 1) := by decide +kernel
theorem dX10_latestPickup_1 : decode cX10_latestPickup 1 = .ok (.iconst 0, 1) := by decide +kernel
theorem dX10_latestPickup_2 : decode cX10_latestPickup 2 = .ok (.putfield 114, 3) := by decide +kernel
theorem dX10_latestPickup_5 : decode cX10_latestPickup 5 = .ok (.aload_n 0, 1) := by decide +kernel
theorem dX10_latestPickup_6 : decode cX10_latestPickup 6 = .ok (.iload_n 1, 1) := by decide +kernel
theorem dX10_latestPickup_7 : decode cX10_latestPickup 7 = .ok (.invokevirtual 229, 3) := by decide +kernel
theorem dX10_latestPickup_10 : decode cX10_latestPickup 10 = .ok (.ifCond .eq 12, 3) := by decide +kernel
theorem dX10_latestPickup_13 : decode cX10_latestPickup 13 = .ok (.aload_n 0, 1) := by decide +kernel
theorem dX10_latestPickup_14 : decode cX10_latestPickup 14 = .ok (.getfield 61, 3) := by decide +kernel
theorem dX10_latestPickup_17 : decode cX10_latestPickup 17 = .ok (.iload_n 1, 1) := by decide +kernel
theorem dX10_latestPickup_18 : decode cX10_latestPickup 18 = .ok (.iaload, 1) := by decide +kernel
theorem dX10_latestPickup_19 : decode cX10_latestPickup 19 = .ok (.goto 8, 3) := by decide +kernel
theorem dX10_latestPickup_22 : decode cX10_latestPickup 22 = .ok (.aload_n 0, 1) := by decide +kernel
theorem dX10_latestPickup_23 : decode cX10_latestPickup 23 = .ok (.iconst 1, 1) := by decide +kernel
theorem dX10_latestPickup_24 : decode cX10_latestPickup 24 = .ok (.invokevirtual 127, 3) := by decide +kernel
theorem dX10_latestPickup_27 : decode cX10_latestPickup 27 = .ok (.ireturn, 1) := by decide +kernel
theorem dX10_longestRide_0 : decode cX10_longestRide 0 = .ok (.aload_n 0, 1) := by decide +kernel
theorem dX10_longestRide_1 : decode cX10_longestRide 1 = .ok (.iconst 0, 1) := by decide +kernel
theorem dX10_longestRide_2 : decode cX10_longestRide 2 = .ok (.putfield 114, 3) := by decide +kernel
theorem dX10_longestRide_5 : decode cX10_longestRide 5 = .ok (.aload_n 0, 1) := by decide +kernel
theorem dX10_longestRide_6 : decode cX10_longestRide 6 = .ok (.iload_n 1, 1) := by decide +kernel
theorem dX10_longestRide_7 : decode cX10_longestRide 7 = .ok (.invokevirtual 229, 3) := by decide +kernel
theorem dX10_longestRide_10 : decode cX10_longestRide 10 = .ok (.ifCond .eq 12, 3) := by decide +kernel
theorem dX10_longestRide_13 : decode cX10_longestRide 13 = .ok (.aload_n 0, 1) := by decide +kernel
theorem dX10_longestRide_14 : decode cX10_longestRide 14 = .ok (.getfield 64, 3) := by decide +kernel
theorem dX10_longestRide_17 : decode cX10_longestRide 17 = .ok (.iload_n 1, 1) := by decide +kernel
theorem dX10_longestRide_18 : decode cX10_longestRide 18 = .ok (.iaload, 1) := by decide +kernel
theorem dX10_longestRide_19 : decode cX10_longestRide 19 = .ok (.goto 8, 3) := by decide +kernel
theorem dX10_longestRide_22 : decode cX10_longestRide 22 = .ok (.aload_n 0, 1) := by decide +kernel
theorem dX10_longestRide_23 : decode cX10_longestRide 23 = .ok (.iconst 1, 1) := by decide +kernel
theorem dX10_longestRide_24 : decode cX10_longestRide 24 = .ok (.invokevirtual 127, 3) := by decide +kernel
theorem dX10_longestRide_27 : decode cX10_longestRide 27 = .ok (.ireturn, 1) := by decide +kernel
theorem dX10_timeOf_0 : decode cX10_timeOf 0 = .ok (.aload_n 0, 1) := by decide +kernel
theorem dX10_timeOf_1 : decode cX10_timeOf 1 = .ok (.aload_n 0, 1) := by decide +kernel
theorem dX10_timeOf_2 : decode cX10_timeOf 2 = .ok (.getfield 67, 3) := by decide +kernel
theorem dX10_timeOf_5 : decode cX10_timeOf 5 = .ok (.iload_n 1, 1) := by decide +kernel
theorem dX10_timeOf_6 : decode cX10_timeOf 6 = .ok (.iconst 2, 1) := by decide +kernel
theorem dX10_timeOf_7 : decode cX10_timeOf 7 = .ok (.idiv, 1) := by decide +kernel
theorem dX10_timeOf_8 : decode cX10_timeOf 8 = .ok (.iaload, 1) := by decide +kernel
theorem dX10_timeOf_9 : decode cX10_timeOf 9 = .ok (.invokevirtual 169, 3) := by decide +kernel
theorem dX10_timeOf_12 : decode cX10_timeOf 12 = .ok (.aload_n 0, 1) := by decide +kernel
theorem dX10_timeOf_13 : decode cX10_timeOf 13 = .ok (.aload_n 0, 1) := by decide +kernel
theorem dX10_timeOf_14 : decode cX10_timeOf 14 = .ok (.getfield 67, 3) := by decide +kernel
theorem dX10_timeOf_17 : decode cX10_timeOf 17 = .ok (.iload_n 1, 1) := by decide +kernel
theorem dX10_timeOf_18 : decode cX10_timeOf 18 = .ok (.iconst 2, 1) := by decide +kernel
theorem dX10_timeOf_19 : decode cX10_timeOf 19 = .ok (.idiv, 1) := by decide +kernel
theorem dX10_timeOf_20 : decode cX10_timeOf 20 = .ok (.iaload, 1) := by decide +kernel
theorem dX10_timeOf_21 : decode cX10_timeOf 21 = .ok (.invokevirtual 160, 3) := by decide +kernel
theorem dX10_timeOf_24 : decode cX10_timeOf 24 = .ok (.pop, 1) := by decide +kernel
theorem dX10_timeOf_25 : decode cX10_timeOf 25 = .ok (.iconst (-1), 1) := by decide +kernel
theorem dX10_timeOf_26 : decode cX10_timeOf 26 = .ok (.istore_n 2, 1) := by decide +kernel
theorem dX10_timeOf_27 : decode cX10_timeOf 27 = .ok (.iconst 0, 1) := by decide +kernel
theorem dX10_timeOf_28 : decode cX10_timeOf 28 = .ok (.istore_n 3, 1) := by decide +kernel
theorem dX10_timeOf_29 : decode cX10_timeOf 29 = .ok (.iload_n 3, 1) := by decide +kernel
theorem dX10_timeOf_30 : decode cX10_timeOf 30 = .ok (.aload_n 0, 1) := by decide +kernel
theorem dX10_timeOf_31 : decode cX10_timeOf 31 = .ok (.getfield 144, 3) := by decide +kernel
theorem dX10_timeOf_34 : decode cX10_timeOf 34 = .ok (.if_icmp .ge 30, 3) := by decide +kernel
theorem dX10_timeOf_37 : decode cX10_timeOf 37 = .ok (.aload_n 0, 1) := by decide +kernel
theorem dX10_timeOf_38 : decode cX10_timeOf 38 = .ok (.getfield 102, 3) := by decide +kernel
theorem dX10_timeOf_41 : decode cX10_timeOf 41 = .ok (.iload_n 3, 1) := by decide +kernel
theorem dX10_timeOf_42 : decode cX10_timeOf 42 = .ok (.iaload, 1) := by decide +kernel
theorem dX10_timeOf_43 : decode cX10_timeOf 43 = .ok (.iload_n 1, 1) := by decide +kernel
theorem dX10_timeOf_44 : decode cX10_timeOf 44 = .ok (.if_icmp .ne 12, 3) := by decide +kernel
theorem dX10_timeOf_47 : decode cX10_timeOf 47 = .ok (.aload_n 0, 1) := by decide +kernel
theorem dX10_timeOf_48 : decode cX10_timeOf 48 = .ok (.getfield 105, 3) := by decide +kernel
theorem dX10_timeOf_51 : decode cX10_timeOf 51 = .ok (.iload_n 3, 1) := by decide +kernel
theorem dX10_timeOf_52 : decode cX10_timeOf 52 = .ok (.iaload, 1) := by decide +kernel
theorem dX10_timeOf_53 : decode cX10_timeOf 53 = .ok (.goto 4, 3) := by decide +kernel
theorem dX10_timeOf_56 : decode cX10_timeOf 56 = .ok (.iload_n 2, 1) := by decide +kernel
theorem dX10_timeOf_57 : decode cX10_timeOf 57 = .ok (.istore_n 2, 1) := by decide +kernel
theorem dX10_timeOf_58 : decode cX10_timeOf 58 = .ok (.iinc 3 1, 3) := by decide +kernel
theorem dX10_timeOf_61 : decode cX10_timeOf 61 = .ok (.goto (-32), 3) := by decide +kernel
theorem dX10_timeOf_64 : decode cX10_timeOf 64 = .ok (.iload_n 2, 1) := by decide +kernel
theorem dX10_timeOf_65 : decode cX10_timeOf 65 = .ok (.ireturn, 1) := by decide +kernel
theorem dX10_pickupTime_0 : decode cX10_pickupTime 0 = .ok (.aload_n 0, 1) := by decide +kernel
theorem dX10_pickupTime_1 : decode cX10_pickupTime 1 = .ok (.iconst 0, 1) := by decide +kernel
theorem dX10_pickupTime_2 : decode cX10_pickupTime 2 = .ok (.putfield 114, 3) := by decide +kernel
theorem dX10_pickupTime_5 : decode cX10_pickupTime 5 = .ok (.aload_n 0, 1) := by decide +kernel
theorem dX10_pickupTime_6 : decode cX10_pickupTime 6 = .ok (.iload_n 1, 1) := by decide +kernel
theorem dX10_pickupTime_7 : decode cX10_pickupTime 7 = .ok (.invokevirtual 229, 3) := by decide +kernel
theorem dX10_pickupTime_10 : decode cX10_pickupTime 10 = .ok (.ifCond .ne 9, 3) := by decide +kernel
theorem dX10_pickupTime_13 : decode cX10_pickupTime 13 = .ok (.aload_n 0, 1) := by decide +kernel
theorem dX10_pickupTime_14 : decode cX10_pickupTime 14 = .ok (.iconst 1, 1) := by decide +kernel
theorem dX10_pickupTime_15 : decode cX10_pickupTime 15 = .ok (.invokevirtual 127, 3) := by decide +kernel
theorem dX10_pickupTime_18 : decode cX10_pickupTime 18 = .ok (.ireturn, 1) := by decide +kernel
theorem dX10_pickupTime_19 : decode cX10_pickupTime 19 = .ok (.aload_n 0, 1) := by decide +kernel
theorem dX10_pickupTime_20 : decode cX10_pickupTime 20 = .ok (.getfield 76, 3) := by decide +kernel
theorem dX10_pickupTime_23 : decode cX10_pickupTime 23 = .ok (.iload_n 1, 1) := by decide +kernel
theorem dX10_pickupTime_24 : decode cX10_pickupTime 24 = .ok (.caload, 1) := by decide +kernel
theorem dX10_pickupTime_25 : decode cX10_pickupTime 25 = .ok (.bipush 120, 2) := by decide +kernel
theorem dX10_pickupTime_27 : decode cX10_pickupTime 27 = .ok (.if_icmp .eq 14, 3) := by decide +kernel
theorem dX10_pickupTime_30 : decode cX10_pickupTime 30 = .ok (.aload_n 0, 1) := by decide +kernel
theorem dX10_pickupTime_31 : decode cX10_pickupTime 31 = .ok (.getfield 76, 3) := by decide +kernel
theorem dX10_pickupTime_34 : decode cX10_pickupTime 34 = .ok (.iload_n 1, 1) := by decide +kernel
theorem dX10_pickupTime_35 : decode cX10_pickupTime 35 = .ok (.caload, 1) := by decide +kernel
theorem dX10_pickupTime_36 : decode cX10_pickupTime 36 = .ok (.bipush 99, 2) := by decide +kernel
theorem dX10_pickupTime_38 : decode cX10_pickupTime 38 = .ok (.if_icmp .ne 9, 3) := by decide +kernel
theorem dX10_pickupTime_41 : decode cX10_pickupTime 41 = .ok (.aload_n 0, 1) := by decide +kernel
theorem dX10_pickupTime_42 : decode cX10_pickupTime 42 = .ok (.iconst 2, 1) := by decide +kernel
theorem dX10_pickupTime_43 : decode cX10_pickupTime 43 = .ok (.invokevirtual 127, 3) := by decide +kernel
theorem dX10_pickupTime_46 : decode cX10_pickupTime 46 = .ok (.ireturn, 1) := by decide +kernel
theorem dX10_pickupTime_47 : decode cX10_pickupTime 47 = .ok (.aload_n 0, 1) := by decide +kernel
theorem dX10_pickupTime_48 : decode cX10_pickupTime 48 = .ok (.getfield 76, 3) := by decide +kernel
theorem dX10_pickupTime_51 : decode cX10_pickupTime 51 = .ok (.iload_n 1, 1) := by decide +kernel
theorem dX10_pickupTime_52 : decode cX10_pickupTime 52 = .ok (.caload, 1) := by decide +kernel
theorem dX10_pickupTime_53 : decode cX10_pickupTime 53 = .ok (.bipush 119, 2) := by decide +kernel
theorem dX10_pickupTime_55 : decode cX10_pickupTime 55 = .ok (.if_icmp .ne 13, 3) := by decide +kernel
theorem dX10_pickupTime_58 : decode cX10_pickupTime 58 = .ok (.aload_n 0, 1) := by decide +kernel
theorem dX10_pickupTime_59 : decode cX10_pickupTime 59 = .ok (.iconst 2, 1) := by decide +kernel
theorem dX10_pickupTime_60 : decode cX10_pickupTime 60 = .ok (.iload_n 1, 1) := by decide +kernel
theorem dX10_pickupTime_61 : decode cX10_pickupTime 61 = .ok (.imul, 1) := by decide +kernel
theorem dX10_pickupTime_62 : decode cX10_pickupTime 62 = .ok (.invokevirtual 232, 3) := by decide +kernel
theorem dX10_pickupTime_65 : decode cX10_pickupTime 65 = .ok (.goto 9, 3) := by decide +kernel
theorem dX10_pickupTime_68 : decode cX10_pickupTime 68 = .ok (.aload_n 0, 1) := by decide +kernel
theorem dX10_pickupTime_69 : decode cX10_pickupTime 69 = .ok (.getfield 70, 3) := by decide +kernel
theorem dX10_pickupTime_72 : decode cX10_pickupTime 72 = .ok (.iload_n 1, 1) := by decide +kernel
theorem dX10_pickupTime_73 : decode cX10_pickupTime 73 = .ok (.iaload, 1) := by decide +kernel
theorem dX10_pickupTime_74 : decode cX10_pickupTime 74 = .ok (.ireturn, 1) := by decide +kernel
theorem dX10_dropTime_0 : decode cX10_dropTime 0 = .ok (.aload_n 0, 1) := by decide +kernel
theorem dX10_dropTime_1 : decode cX10_dropTime 1 = .ok (.iconst 0, 1) := by decide +kernel
theorem dX10_dropTime_2 : decode cX10_dropTime 2 = .ok (.putfield 114, 3) := by decide +kernel
theorem dX10_dropTime_5 : decode cX10_dropTime 5 = .ok (.aload_n 0, 1) := by decide +kernel
theorem dX10_dropTime_6 : decode cX10_dropTime 6 = .ok (.iload_n 1, 1) := by decide +kernel
theorem dX10_dropTime_7 : decode cX10_dropTime 7 = .ok (.invokevirtual 229, 3) := by decide +kernel
theorem dX10_dropTime_10 : decode cX10_dropTime 10 = .ok (.ifCond .ne 9, 3) := by decide +kernel
theorem dX10_dropTime_13 : decode cX10_dropTime 13 = .ok (.aload_n 0, 1) := by decide +kernel
theorem dX10_dropTime_14 : decode cX10_dropTime 14 = .ok (.iconst 1, 1) := by decide +kernel
theorem dX10_dropTime_15 : decode cX10_dropTime 15 = .ok (.invokevirtual 127, 3) := by decide +kernel
theorem dX10_dropTime_18 : decode cX10_dropTime 18 = .ok (.ireturn, 1) := by decide +kernel
theorem dX10_dropTime_19 : decode cX10_dropTime 19 = .ok (.aload_n 0, 1) := by decide +kernel
theorem dX10_dropTime_20 : decode cX10_dropTime 20 = .ok (.getfield 76, 3) := by decide +kernel
theorem dX10_dropTime_23 : decode cX10_dropTime 23 = .ok (.iload_n 1, 1) := by decide +kernel
theorem dX10_dropTime_24 : decode cX10_dropTime 24 = .ok (.caload, 1) := by decide +kernel
theorem dX10_dropTime_25 : decode cX10_dropTime 25 = .ok (.bipush 120, 2) := by decide +kernel
theorem dX10_dropTime_27 : decode cX10_dropTime 27 = .ok (.if_icmp .eq 14, 3) := by decide +kernel
theorem dX10_dropTime_30 : decode cX10_dropTime 30 = .ok (.aload_n 0, 1) := by decide +kernel
theorem dX10_dropTime_31 : decode cX10_dropTime 31 = .ok (.getfield 76, 3) := by decide +kernel
theorem dX10_dropTime_34 : decode cX10_dropTime 34 = .ok (.iload_n 1, 1) := by decide +kernel
theorem dX10_dropTime_35 : decode cX10_dropTime 35 = .ok (.caload, 1) := by decide +kernel
theorem dX10_dropTime_36 : decode cX10_dropTime 36 = .ok (.bipush 99, 2) := by decide +kernel
theorem dX10_dropTime_38 : decode cX10_dropTime 38 = .ok (.if_icmp .ne 9, 3) := by decide +kernel
theorem dX10_dropTime_41 : decode cX10_dropTime 41 = .ok (.aload_n 0, 1) := by decide +kernel
theorem dX10_dropTime_42 : decode cX10_dropTime 42 = .ok (.iconst 2, 1) := by decide +kernel
theorem dX10_dropTime_43 : decode cX10_dropTime 43 = .ok (.invokevirtual 127, 3) := by decide +kernel
theorem dX10_dropTime_46 : decode cX10_dropTime 46 = .ok (.ireturn, 1) := by decide +kernel
theorem dX10_dropTime_47 : decode cX10_dropTime 47 = .ok (.aload_n 0, 1) := by decide +kernel
theorem dX10_dropTime_48 : decode cX10_dropTime 48 = .ok (.getfield 76, 3) := by decide +kernel
theorem dX10_dropTime_51 : decode cX10_dropTime 51 = .ok (.iload_n 1, 1) := by decide +kernel
theorem dX10_dropTime_52 : decode cX10_dropTime 52 = .ok (.caload, 1) := by decide +kernel
theorem dX10_dropTime_53 : decode cX10_dropTime 53 = .ok (.bipush 100, 2) := by decide +kernel
theorem dX10_dropTime_55 : decode cX10_dropTime 55 = .ok (.if_icmp .ne 12, 3) := by decide +kernel
theorem dX10_dropTime_58 : decode cX10_dropTime 58 = .ok (.aload_n 0, 1) := by decide +kernel
theorem dX10_dropTime_59 : decode cX10_dropTime 59 = .ok (.getfield 73, 3) := by decide +kernel
theorem dX10_dropTime_62 : decode cX10_dropTime 62 = .ok (.iload_n 1, 1) := by decide +kernel
theorem dX10_dropTime_63 : decode cX10_dropTime 63 = .ok (.iaload, 1) := by decide +kernel
theorem dX10_dropTime_64 : decode cX10_dropTime 64 = .ok (.goto 12, 3) := by decide +kernel
theorem dX10_dropTime_67 : decode cX10_dropTime 67 = .ok (.aload_n 0, 1) := by decide +kernel
theorem dX10_dropTime_68 : decode cX10_dropTime 68 = .ok (.iconst 2, 1) := by decide +kernel
theorem dX10_dropTime_69 : decode cX10_dropTime 69 = .ok (.iload_n 1, 1) := by decide +kernel
theorem dX10_dropTime_70 : decode cX10_dropTime 70 = .ok (.imul, 1) := by decide +kernel
theorem dX10_dropTime_71 : decode cX10_dropTime 71 = .ok (.iconst 1, 1) := by decide +kernel
theorem dX10_dropTime_72 : decode cX10_dropTime 72 = .ok (.iadd, 1) := by decide +kernel
theorem dX10_dropTime_73 : decode cX10_dropTime 73 = .ok (.invokevirtual 232, 3) := by decide +kernel
theorem dX10_dropTime_76 : decode cX10_dropTime 76 = .ok (.ireturn, 1) := by decide +kernel
theorem dX10_requests_0 : decode cX10_requests 0 = .ok (.aload_n 0, 1) := by decide +kernel
theorem dX10_requests_1 : decode cX10_requests 1 = .ok (.iconst 0, 1) := by decide +kernel
theorem dX10_requests_2 : decode cX10_requests 2 = .ok (.putfield 114, 3) := by decide +kernel
theorem dX10_requests_5 : decode cX10_requests 5 = .ok (.aload_n 0, 1) := by decide +kernel
theorem dX10_requests_6 : decode cX10_requests 6 = .ok (.getfield 124, 3) := by decide +kernel
theorem dX10_requests_9 : decode cX10_requests 9 = .ok (.ireturn, 1) := by decide +kernel
theorem dX10_stops_0 : decode cX10_stops 0 = .ok (.aload_n 0, 1) := by decide +kernel
theorem dX10_stops_1 : decode cX10_stops 1 = .ok (.iconst 0, 1) := by decide +kernel
theorem dX10_stops_2 : decode cX10_stops 2 = .ok (.putfield 114, 3) := by decide +kernel
theorem dX10_stops_5 : decode cX10_stops 5 = .ok (.aload_n 0, 1) := by decide +kernel
theorem dX10_stops_6 : decode cX10_stops 6 = .ok (.iload_n 1, 1) := by decide +kernel
theorem dX10_stops_7 : decode cX10_stops 7 = .ok (.invokevirtual 235, 3) := by decide +kernel
theorem dX10_stops_10 : decode cX10_stops 10 = .ok (.ifCond .eq 12, 3) := by decide +kernel
theorem dX10_stops_13 : decode cX10_stops 13 = .ok (.aload_n 0, 1) := by decide +kernel
theorem dX10_stops_14 : decode cX10_stops 14 = .ok (.getfield 40, 3) := by decide +kernel
theorem dX10_stops_17 : decode cX10_stops 17 = .ok (.iload_n 1, 1) := by decide +kernel
theorem dX10_stops_18 : decode cX10_stops 18 = .ok (.iaload, 1) := by decide +kernel
theorem dX10_stops_19 : decode cX10_stops 19 = .ok (.goto 8, 3) := by decide +kernel
theorem dX10_stops_22 : decode cX10_stops 22 = .ok (.aload_n 0, 1) := by decide +kernel
theorem dX10_stops_23 : decode cX10_stops 23 = .ok (.iconst 1, 1) := by decide +kernel
theorem dX10_stops_24 : decode cX10_stops 24 = .ok (.invokevirtual 127, 3) := by decide +kernel
theorem dX10_stops_27 : decode cX10_stops 27 = .ok (.ireturn, 1) := by decide +kernel
theorem dX10_isNoStop_0 : decode cX10_isNoStop 0 = .ok (.aload_n 0, 1) := by decide +kernel
theorem dX10_isNoStop_1 : decode cX10_isNoStop 1 = .ok (.iconst 0, 1) := by decide +kernel
theorem dX10_isNoStop_2 : decode cX10_isNoStop 2 = .ok (.putfield 114, 3) := by decide +kernel
theorem dX10_isNoStop_5 : decode cX10_isNoStop 5 = .ok (.aload_n 0, 1) := by decide +kernel
theorem dX10_isNoStop_6 : decode cX10_isNoStop 6 = .ok (.iload_n 1, 1) := by decide +kernel
theorem dX10_isNoStop_7 : decode cX10_isNoStop 7 = .ok (.invokevirtual 235, 3) := by decide +kernel
theorem dX10_isNoStop_10 : decode cX10_isNoStop 10 = .ok (.ifCond .ne 12, 3) := by decide +kernel
theorem dX10_isNoStop_13 : decode cX10_isNoStop 13 = .ok (.aload_n 0, 1) := by decide +kernel
theorem dX10_isNoStop_14 : decode cX10_isNoStop 14 = .ok (.iconst 1, 1) := by decide +kernel
theorem dX10_isNoStop_15 : decode cX10_isNoStop 15 = .ok (.invokevirtual 127, 3) := by decide +kernel
theorem dX10_isNoStop_18 : decode cX10_isNoStop 18 = .ok (.pop, 1) := by decide +kernel
theorem dX10_isNoStop_19 : decode cX10_isNoStop 19 = .ok (.goto 25, 3) := by decide +kernel
theorem dX10_isNoStop_22 : decode cX10_isNoStop 22 = .ok (.iload_n 2, 1) := by decide +kernel
theorem dX10_isNoStop_23 : decode cX10_isNoStop 23 = .ok (.iconst 0, 1) := by decide +kernel
theorem dX10_isNoStop_24 : decode cX10_isNoStop 24 = .ok (.aload_n 0, 1) := by decide +kernel
theorem dX10_isNoStop_25 : decode cX10_isNoStop 25 = .ok (.getfield 40, 3) := by decide +kernel
theorem dX10_isNoStop_28 : decode cX10_isNoStop 28 = .ok (.iload_n 1, 1) := by decide +kernel
theorem dX10_isNoStop_29 : decode cX10_isNoStop 29 = .ok (.iaload, 1) := by decide +kernel
theorem dX10_isNoStop_30 : decode cX10_isNoStop 30 = .ok (.iconst 1, 1) := by decide +kernel
theorem dX10_isNoStop_31 : decode cX10_isNoStop 31 = .ok (.isub, 1) := by decide +kernel
theorem dX10_isNoStop_32 : decode cX10_isNoStop 32 = .ok (.invokestatic 120, 3) := by decide +kernel
theorem dX10_isNoStop_35 : decode cX10_isNoStop 35 = .ok (.ifCond .ne 9, 3) := by decide +kernel
theorem dX10_isNoStop_38 : decode cX10_isNoStop 38 = .ok (.aload_n 0, 1) := by decide +kernel
theorem dX10_isNoStop_39 : decode cX10_isNoStop 39 = .ok (.iconst 2, 1) := by decide +kernel
theorem dX10_isNoStop_40 : decode cX10_isNoStop 40 = .ok (.invokevirtual 127, 3) := by decide +kernel
theorem dX10_isNoStop_43 : decode cX10_isNoStop 43 = .ok (.pop, 1) := by decide +kernel
theorem dX10_isNoStop_44 : decode cX10_isNoStop 44 = .ok (.aload_n 0, 1) := by decide +kernel
theorem dX10_isNoStop_45 : decode cX10_isNoStop 45 = .ok (.getfield 114, 3) := by decide +kernel
theorem dX10_isNoStop_48 : decode cX10_isNoStop 48 = .ok (.ifCond .le 7, 3) := by decide +kernel
theorem dX10_isNoStop_51 : decode cX10_isNoStop 51 = .ok (.iconst 1, 1) := by decide +kernel
theorem dX10_isNoStop_52 : decode cX10_isNoStop 52 = .ok (.goto 4, 3) := by decide +kernel
theorem dX10_isNoStop_55 : decode cX10_isNoStop 55 = .ok (.iconst 0, 1) := by decide +kernel
theorem dX10_isNoStop_56 : decode cX10_isNoStop 56 = .ok (.ireturn, 1) := by decide +kernel
theorem dX10_stopRequest_0 : decode cX10_stopRequest 0 = .ok (.aload_n 0, 1) := by decide +kernel
theorem dX10_stopRequest_1 : decode cX10_stopRequest 1 = .ok (.iload_n 1, 1) := by decide +kernel
theorem dX10_stopRequest_2 : decode cX10_stopRequest 2 = .ok (.iload_n 2, 1) := by decide +kernel
theorem dX10_stopRequest_3 : decode cX10_stopRequest 3 = .ok (.invokevirtual 238, 3) := by decide +kernel
theorem dX10_stopRequest_6 : decode cX10_stopRequest 6 = .ok (.ifCond .eq 7, 3) := by decide +kernel
theorem dX10_stopRequest_9 : decode cX10_stopRequest 9 = .ok (.iconst 0, 1) := by decide +kernel
theorem dX10_stopRequest_10 : decode cX10_stopRequest 10 = .ok (.goto 16, 3) := by decide +kernel
theorem dX10_stopRequest_13 : decode cX10_stopRequest 13 = .ok (.aload_n 0, 1) := by decide +kernel
theorem dX10_stopRequest_14 : decode cX10_stopRequest 14 = .ok (.getfield 43, 3) := by decide +kernel
theorem dX10_stopRequest_17 : decode cX10_stopRequest 17 = .ok (.bipush 8, 2) := by decide +kernel
theorem dX10_stopRequest_19 : decode cX10_stopRequest 19 = .ok (.iload_n 1, 1) := by decide +kernel
theorem dX10_stopRequest_20 : decode cX10_stopRequest 20 = .ok (.imul, 1) := by decide +kernel
theorem dX10_stopRequest_21 : decode cX10_stopRequest 21 = .ok (.iload_n 2, 1) := by decide +kernel
theorem dX10_stopRequest_22 : decode cX10_stopRequest 22 = .ok (.iadd, 1) := by decide +kernel
theorem dX10_stopRequest_23 : decode cX10_stopRequest 23 = .ok (.iaload, 1) := by decide +kernel
theorem dX10_stopRequest_24 : decode cX10_stopRequest 24 = .ok (.iconst 2, 1) := by decide +kernel
theorem dX10_stopRequest_25 : decode cX10_stopRequest 25 = .ok (.idiv, 1) := by decide +kernel
theorem dX10_stopRequest_26 : decode cX10_stopRequest 26 = .ok (.ireturn, 1) := by decide +kernel
theorem dX10_isPickup_0 : decode cX10_isPickup 0 = .ok (.aload_n 0, 1) := by decide +kernel
theorem dX10_isPickup_1 : decode cX10_isPickup 1 = .ok (.iload_n 1, 1) := by decide +kernel
theorem dX10_isPickup_2 : decode cX10_isPickup 2 = .ok (.iload_n 2, 1) := by decide +kernel
theorem dX10_isPickup_3 : decode cX10_isPickup 3 = .ok (.invokevirtual 238, 3) := by decide +kernel
theorem dX10_isPickup_6 : decode cX10_isPickup 6 = .ok (.ifCond .ne 24, 3) := by decide +kernel
theorem dX10_isPickup_9 : decode cX10_isPickup 9 = .ok (.aload_n 0, 1) := by decide +kernel
theorem dX10_isPickup_10 : decode cX10_isPickup 10 = .ok (.getfield 43, 3) := by decide +kernel
theorem dX10_isPickup_13 : decode cX10_isPickup 13 = .ok (.bipush 8, 2) := by decide +kernel
theorem dX10_isPickup_15 : decode cX10_isPickup 15 = .ok (.iload_n 1, 1) := by decide +kernel
theorem dX10_isPickup_16 : decode cX10_isPickup 16 = .ok (.imul, 1) := by decide +kernel
theorem dX10_isPickup_17 : decode cX10_isPickup 17 = .ok (.iload_n 2, 1) := by decide +kernel
theorem dX10_isPickup_18 : decode cX10_isPickup 18 = .ok (.iadd, 1) := by decide +kernel
theorem dX10_isPickup_19 : decode cX10_isPickup 19 = .ok (.iaload, 1) := by decide +kernel
theorem dX10_isPickup_20 : decode cX10_isPickup 20 = .ok (.invokestatic 135, 3) := by decide +kernel
theorem dX10_isPickup_23 : decode cX10_isPickup 23 = .ok (.ifCond .ne 7, 3) := by decide +kernel
theorem dX10_isPickup_26 : decode cX10_isPickup 26 = .ok (.iconst 1, 1) := by decide +kernel
theorem dX10_isPickup_27 : decode cX10_isPickup 27 = .ok (.goto 4, 3) := by decide +kernel
theorem dX10_isPickup_30 : decode cX10_isPickup 30 = .ok (.iconst 0, 1) := by decide +kernel
theorem dX10_isPickup_31 : decode cX10_isPickup 31 = .ok (.ireturn, 1) := by decide +kernel
theorem dX10_stopTime_0 : decode cX10_stopTime 0 = .ok (.aload_n 0, 1) := by decide +kernel
theorem dX10_stopTime_1 : decode cX10_stopTime 1 = .ok (.iload_n 1, 1) := by decide +kernel
theorem dX10_stopTime_2 : decode cX10_stopTime 2 = .ok (.iload_n 2, 1) := by decide +kernel
theorem dX10_stopTime_3 : decode cX10_stopTime 3 = .ok (.invokevirtual 238, 3) := by decide +kernel
theorem dX10_stopTime_6 : decode cX10_stopTime 6 = .ok (.ifCond .eq 5, 3) := by decide +kernel
theorem dX10_stopTime_9 : decode cX10_stopTime 9 = .ok (.iconst 0, 1) := by decide +kernel
theorem dX10_stopTime_10 : decode cX10_stopTime 10 = .ok (.ireturn, 1) := by decide +kernel
theorem dX10_stopTime_11 : decode cX10_stopTime 11 = .ok (.aload_n 0, 1) := by decide +kernel
theorem dX10_stopTime_12 : decode cX10_stopTime 12 = .ok (.iload_n 1, 1) := by decide +kernel
theorem dX10_stopTime_13 : decode cX10_stopTime 13 = .ok (.invokevirtual 179, 3) := by decide +kernel
theorem dX10_stopTime_16 : decode cX10_stopTime 16 = .ok (.pop, 1) := by decide +kernel
theorem dX10_stopTime_17 : decode cX10_stopTime 17 = .ok (.aload_n 0, 1) := by decide +kernel
theorem dX10_stopTime_18 : decode cX10_stopTime 18 = .ok (.getfield 105, 3) := by decide +kernel
theorem dX10_stopTime_21 : decode cX10_stopTime 21 = .ok (.iload_n 2, 1) := by decide +kernel
theorem dX10_stopTime_22 : decode cX10_stopTime 22 = .ok (.iaload, 1) := by decide +kernel
theorem dX10_stopTime_23 : decode cX10_stopTime 23 = .ok (.ireturn, 1) := by decide +kernel
theorem dX10_length_0 : decode cX10_length 0 = .ok (.aload_n 0, 1) := by decide +kernel
theorem dX10_length_1 : decode cX10_length 1 = .ok (.iconst 0, 1) := by decide +kernel
theorem dX10_length_2 : decode cX10_length 2 = .ok (.putfield 114, 3) := by decide +kernel
theorem dX10_length_5 : decode cX10_length 5 = .ok (.aload_n 0, 1) := by decide +kernel
theorem dX10_length_6 : decode cX10_length 6 = .ok (.iload_n 1, 1) := by decide +kernel
theorem dX10_length_7 : decode cX10_length 7 = .ok (.invokevirtual 235, 3) := by decide +kernel
theorem dX10_length_10 : decode cX10_length 10 = .ok (.ifCond .eq 11, 3) := by decide +kernel
theorem dX10_length_13 : decode cX10_length 13 = .ok (.aload_n 0, 1) := by decide +kernel
theorem dX10_length_14 : decode cX10_length 14 = .ok (.iload_n 1, 1) := by decide +kernel
theorem dX10_length_15 : decode cX10_length 15 = .ok (.invokevirtual 179, 3) := by decide +kernel
theorem dX10_length_18 : decode cX10_length 18 = .ok (.goto 8, 3) := by decide +kernel
theorem dX10_length_21 : decode cX10_length 21 = .ok (.aload_n 0, 1) := by decide +kernel
theorem dX10_length_22 : decode cX10_length 22 = .ok (.iconst 1, 1) := by decide +kernel
theorem dX10_length_23 : decode cX10_length 23 = .ok (.invokevirtual 127, 3) := by decide +kernel
theorem dX10_length_26 : decode cX10_length 26 = .ok (.ireturn, 1) := by decide +kernel
theorem dX10_isTaken_0 : decode cX10_isTaken 0 = .ok (.iconst 0, 1) := by decide +kernel
theorem dX10_isTaken_1 : decode cX10_isTaken 1 = .ok (.istore_n 3, 1) := by decide +kernel
theorem dX10_isTaken_2 : decode cX10_isTaken 2 = .ok (.iload_n 3, 1) := by decide +kernel
theorem dX10_isTaken_3 : decode cX10_isTaken 3 = .ok (.iload_n 2, 1) := by decide +kernel
theorem dX10_isTaken_4 : decode cX10_isTaken 4 = .ok (.if_icmp .ge 21, 3) := by decide +kernel
theorem dX10_isTaken_7 : decode cX10_isTaken 7 = .ok (.aload_n 0, 1) := by decide +kernel
theorem dX10_isTaken_8 : decode cX10_isTaken 8 = .ok (.getfield 111, 3) := by decide +kernel
theorem dX10_isTaken_11 : decode cX10_isTaken 11 = .ok (.iload_n 3, 1) := by decide +kernel
theorem dX10_isTaken_12 : decode cX10_isTaken 12 = .ok (.iaload, 1) := by decide +kernel
theorem dX10_isTaken_13 : decode cX10_isTaken 13 = .ok (.iload_n 1, 1) := by decide +kernel
theorem dX10_isTaken_14 : decode cX10_isTaken 14 = .ok (.if_icmp .ne 5, 3) := by decide +kernel
theorem dX10_isTaken_17 : decode cX10_isTaken 17 = .ok (.iconst 1, 1) := by decide +kernel
theorem dX10_isTaken_18 : decode cX10_isTaken 18 = .ok (.ireturn, 1) := by decide +kernel
theorem dX10_isTaken_19 : decode cX10_isTaken 19 = .ok (.iinc 3 1, 3) := by decide +kernel
theorem dX10_isTaken_22 : decode cX10_isTaken 22 = .ok (.goto (-20), 3) := by decide +kernel
theorem dX10_isTaken_25 : decode cX10_isTaken 25 = .ok (.iconst 0, 1) := by decide +kernel
theorem dX10_isTaken_26 : decode cX10_isTaken 26 = .ok (.ireturn, 1) := by decide +kernel
theorem dX10_isOnTour_0 : decode cX10_isOnTour 0 = .ok (.iconst 0, 1) := by decide +kernel
theorem dX10_isOnTour_1 : decode cX10_isOnTour 1 = .ok (.istore_n 3, 1) := by decide +kernel
theorem dX10_isOnTour_2 : decode cX10_isOnTour 2 = .ok (.iload_n 3, 1) := by decide +kernel
theorem dX10_isOnTour_3 : decode cX10_isOnTour 3 = .ok (.aload_n 0, 1) := by decide +kernel
theorem dX10_isOnTour_4 : decode cX10_isOnTour 4 = .ok (.getfield 241, 3) := by decide +kernel
theorem dX10_isOnTour_7 : decode cX10_isOnTour 7 = .ok (.if_icmp .ge 26, 3) := by decide +kernel
theorem dX10_isOnTour_10 : decode cX10_isOnTour 10 = .ok (.aload_n 0, 1) := by decide +kernel
theorem dX10_isOnTour_11 : decode cX10_isOnTour 11 = .ok (.getfield 43, 3) := by decide +kernel
theorem dX10_isOnTour_14 : decode cX10_isOnTour 14 = .ok (.bipush 8, 2) := by decide +kernel
theorem dX10_isOnTour_16 : decode cX10_isOnTour 16 = .ok (.iload_n 1, 1) := by decide +kernel
theorem dX10_isOnTour_17 : decode cX10_isOnTour 17 = .ok (.imul, 1) := by decide +kernel
theorem dX10_isOnTour_18 : decode cX10_isOnTour 18 = .ok (.iload_n 3, 1) := by decide +kernel
theorem dX10_isOnTour_19 : decode cX10_isOnTour 19 = .ok (.iadd, 1) := by decide +kernel
theorem dX10_isOnTour_20 : decode cX10_isOnTour 20 = .ok (.iaload, 1) := by decide +kernel
theorem dX10_isOnTour_21 : decode cX10_isOnTour 21 = .ok (.iload_n 2, 1) := by decide +kernel
theorem dX10_isOnTour_22 : decode cX10_isOnTour 22 = .ok (.if_icmp .ne 5, 3) := by decide +kernel
theorem dX10_isOnTour_25 : decode cX10_isOnTour 25 = .ok (.iconst 1, 1) := by decide +kernel
theorem dX10_isOnTour_26 : decode cX10_isOnTour 26 = .ok (.ireturn, 1) := by decide +kernel
theorem dX10_isOnTour_27 : decode cX10_isOnTour 27 = .ok (.iinc 3 1, 3) := by decide +kernel
theorem dX10_isOnTour_30 : decode cX10_isOnTour 30 = .ok (.goto (-28), 3) := by decide +kernel
theorem dX10_isOnTour_33 : decode cX10_isOnTour 33 = .ok (.iconst 0, 1) := by decide +kernel
theorem dX10_isOnTour_34 : decode cX10_isOnTour 34 = .ok (.ireturn, 1) := by decide +kernel
theorem dX10_orders_0 : decode cX10_orders 0 = .ok (.iload_n 2, 1) := by decide +kernel
theorem dX10_orders_1 : decode cX10_orders 1 = .ok (.aload_n 0, 1) := by decide +kernel
theorem dX10_orders_2 : decode cX10_orders 2 = .ok (.getfield 241, 3) := by decide +kernel
theorem dX10_orders_5 : decode cX10_orders 5 = .ok (.if_icmp .ne 107, 3) := by decide +kernel
theorem dX10_orders_8 : decode cX10_orders 8 = .ok (.aload_n 0, 1) := by decide +kernel
theorem dX10_orders_9 : decode cX10_orders 9 = .ok (.aload_n 0, 1) := by decide +kernel
theorem dX10_orders_10 : decode cX10_orders 10 = .ok (.getfield 241, 3) := by decide +kernel
theorem dX10_orders_13 : decode cX10_orders 13 = .ok (.putfield 144, 3) := by decide +kernel
theorem dX10_orders_16 : decode cX10_orders 16 = .ok (.iconst 0, 1) := by decide +kernel
theorem dX10_orders_17 : decode cX10_orders 17 = .ok (.istore_n 3, 1) := by decide +kernel
theorem dX10_orders_18 : decode cX10_orders 18 = .ok (.iload_n 3, 1) := by decide +kernel
theorem dX10_orders_19 : decode cX10_orders 19 = .ok (.aload_n 0, 1) := by decide +kernel
theorem dX10_orders_20 : decode cX10_orders 20 = .ok (.getfield 241, 3) := by decide +kernel
theorem dX10_orders_23 : decode cX10_orders 23 = .ok (.if_icmp .ge 21, 3) := by decide +kernel
theorem dX10_orders_26 : decode cX10_orders 26 = .ok (.aload_n 0, 1) := by decide +kernel
theorem dX10_orders_27 : decode cX10_orders 27 = .ok (.getfield 102, 3) := by decide +kernel
theorem dX10_orders_30 : decode cX10_orders 30 = .ok (.iload_n 3, 1) := by decide +kernel
theorem dX10_orders_31 : decode cX10_orders 31 = .ok (.aload_n 0, 1) := by decide +kernel
theorem dX10_orders_32 : decode cX10_orders 32 = .ok (.getfield 111, 3) := by decide +kernel
theorem dX10_orders_35 : decode cX10_orders 35 = .ok (.iload_n 3, 1) := by decide +kernel
theorem dX10_orders_36 : decode cX10_orders 36 = .ok (.iaload, 1) := by decide +kernel
theorem dX10_orders_37 : decode cX10_orders 37 = .ok (.iastore, 1) := by decide +kernel
theorem dX10_orders_38 : decode cX10_orders 38 = .ok (.iinc 3 1, 3) := by decide +kernel
theorem dX10_orders_41 : decode cX10_orders 41 = .ok (.goto (-23), 3) := by decide +kernel
theorem dX10_orders_44 : decode cX10_orders 44 = .ok (.aload_n 0, 1) := by decide +kernel
theorem dX10_orders_45 : decode cX10_orders 45 = .ok (.iload_n 1, 1) := by decide +kernel
theorem dX10_orders_46 : decode cX10_orders 46 = .ok (.invokevirtual 160, 3) := by decide +kernel
theorem dX10_orders_49 : decode cX10_orders 49 = .ok (.istore_n 3, 1) := by decide +kernel
theorem dX10_orders_50 : decode cX10_orders 50 = .ok (.aload_n 0, 1) := by decide +kernel
theorem dX10_orders_51 : decode cX10_orders 51 = .ok (.iload_n 1, 1) := by decide +kernel
theorem dX10_orders_52 : decode cX10_orders 52 = .ok (.invokevirtual 186, 3) := by decide +kernel
theorem dX10_orders_55 : decode cX10_orders 55 = .ok (.ifCond .gt 18, 3) := by decide +kernel
theorem dX10_orders_58 : decode cX10_orders 58 = .ok (.aload_n 0, 1) := by decide +kernel
theorem dX10_orders_59 : decode cX10_orders 59 = .ok (.getfield 244, 3) := by decide +kernel
theorem dX10_orders_62 : decode cX10_orders 62 = .ok (.ifCond .lt 12, 3) := by decide +kernel
theorem dX10_orders_65 : decode cX10_orders 65 = .ok (.iload_n 3, 1) := by decide +kernel
theorem dX10_orders_66 : decode cX10_orders 66 = .ok (.aload_n 0, 1) := by decide +kernel
theorem dX10_orders_67 : decode cX10_orders 67 = .ok (.getfield 244, 3) := by decide +kernel
theorem dX10_orders_70 : decode cX10_orders 70 = .ok (.if_icmp .lt 4, 3) := by decide +kernel
theorem dX10_orders_73 : decode cX10_orders 73 = .ok (.return_, 1) := by decide +kernel
theorem dX10_orders_74 : decode cX10_orders 74 = .ok (.aload_n 0, 1) := by decide +kernel
theorem dX10_orders_75 : decode cX10_orders 75 = .ok (.iload_n 3, 1) := by decide +kernel
theorem dX10_orders_76 : decode cX10_orders 76 = .ok (.putfield 244, 3) := by decide +kernel
theorem dX10_orders_79 : decode cX10_orders 79 = .ok (.iconst 0, 1) := by decide +kernel
theorem dX10_orders_80 : decode cX10_orders 80 = .ok (.istore 4, 2) := by decide +kernel
theorem dX10_orders_82 : decode cX10_orders 82 = .ok (.iload 4, 2) := by decide +kernel
theorem dX10_orders_84 : decode cX10_orders 84 = .ok (.aload_n 0, 1) := by decide +kernel
theorem dX10_orders_85 : decode cX10_orders 85 = .ok (.getfield 241, 3) := by decide +kernel
theorem dX10_orders_88 : decode cX10_orders 88 = .ok (.if_icmp .ge 23, 3) := by decide +kernel
theorem dX10_orders_91 : decode cX10_orders 91 = .ok (.aload_n 0, 1) := by decide +kernel
theorem dX10_orders_92 : decode cX10_orders 92 = .ok (.getfield 108, 3) := by decide +kernel
theorem dX10_orders_95 : decode cX10_orders 95 = .ok (.iload 4, 2) := by decide +kernel
theorem dX10_orders_97 : decode cX10_orders 97 = .ok (.aload_n 0, 1) := by decide +kernel
theorem dX10_orders_98 : decode cX10_orders 98 = .ok (.getfield 111, 3) := by decide +kernel
theorem dX10_orders_101 : decode cX10_orders 101 = .ok (.iload 4, 2) := by decide +kernel
theorem dX10_orders_103 : decode cX10_orders 103 = .ok (.iaload, 1) := by decide +kernel
theorem dX10_orders_104 : decode cX10_orders 104 = .ok (.iastore, 1) := by decide +kernel
theorem dX10_orders_105 : decode cX10_orders 105 = .ok (.iinc 4 1, 3) := by decide +kernel
theorem dX10_orders_108 : decode cX10_orders 108 = .ok (.goto (-26), 3) := by decide +kernel
theorem dX10_orders_111 : decode cX10_orders 111 = .ok (.return_, 1) := by decide +kernel
theorem dX10_orders_112 : decode cX10_orders 112 = .ok (.iconst 0, 1) := by decide +kernel
theorem dX10_orders_113 : decode cX10_orders 113 = .ok (.istore_n 3, 1) := by decide +kernel
theorem dX10_orders_114 : decode cX10_orders 114 = .ok (.iload_n 3, 1) := by decide +kernel
theorem dX10_orders_115 : decode cX10_orders 115 = .ok (.iconst 2, 1) := by decide +kernel
theorem dX10_orders_116 : decode cX10_orders 116 = .ok (.aload_n 0, 1) := by decide +kernel
theorem dX10_orders_117 : decode cX10_orders 117 = .ok (.getfield 124, 3) := by decide +kernel
theorem dX10_orders_120 : decode cX10_orders 120 = .ok (.imul, 1) := by decide +kernel
theorem dX10_orders_121 : decode cX10_orders 121 = .ok (.if_icmp .ge 77, 3) := by decide +kernel
theorem dX10_orders_124 : decode cX10_orders 124 = .ok (.aload_n 0, 1) := by decide +kernel
theorem dX10_orders_125 : decode cX10_orders 125 = .ok (.iload_n 1, 1) := by decide +kernel
theorem dX10_orders_126 : decode cX10_orders 126 = .ok (.iload_n 3, 1) := by decide +kernel
theorem dX10_orders_127 : decode cX10_orders 127 = .ok (.invokevirtual 247, 3) := by decide +kernel
theorem dX10_orders_130 : decode cX10_orders 130 = .ok (.ifCond .eq 62, 3) := by decide +kernel
theorem dX10_orders_133 : decode cX10_orders 133 = .ok (.aload_n 0, 1) := by decide +kernel
theorem dX10_orders_134 : decode cX10_orders 134 = .ok (.iload_n 3, 1) := by decide +kernel
theorem dX10_orders_135 : decode cX10_orders 135 = .ok (.iload_n 2, 1) := by decide +kernel
theorem dX10_orders_136 : decode cX10_orders 136 = .ok (.invokevirtual 250, 3) := by decide +kernel
theorem dX10_orders_139 : decode cX10_orders 139 = .ok (.ifCond .eq 6, 3) := by decide +kernel
theorem dX10_orders_142 : decode cX10_orders 142 = .ok (.goto 50, 3) := by decide +kernel
theorem dX10_orders_145 : decode cX10_orders 145 = .ok (.iload_n 3, 1) := by decide +kernel
theorem dX10_orders_146 : decode cX10_orders 146 = .ok (.invokestatic 135, 3) := by decide +kernel
theorem dX10_orders_149 : decode cX10_orders 149 = .ok (.ifCond .eq 28, 3) := by decide +kernel
theorem dX10_orders_152 : decode cX10_orders 152 = .ok (.aload_n 0, 1) := by decide +kernel
theorem dX10_orders_153 : decode cX10_orders 153 = .ok (.iload_n 1, 1) := by decide +kernel
theorem dX10_orders_154 : decode cX10_orders 154 = .ok (.iload_n 3, 1) := by decide +kernel
theorem dX10_orders_155 : decode cX10_orders 155 = .ok (.iconst 1, 1) := by decide +kernel
theorem dX10_orders_156 : decode cX10_orders 156 = .ok (.isub, 1) := by decide +kernel
theorem dX10_orders_157 : decode cX10_orders 157 = .ok (.invokevirtual 247, 3) := by decide +kernel
theorem dX10_orders_160 : decode cX10_orders 160 = .ok (.ifCond .eq 17, 3) := by decide +kernel
theorem dX10_orders_163 : decode cX10_orders 163 = .ok (.aload_n 0, 1) := by decide +kernel
theorem dX10_orders_164 : decode cX10_orders 164 = .ok (.iload_n 3, 1) := by decide +kernel
theorem dX10_orders_165 : decode cX10_orders 165 = .ok (.iconst 1, 1) := by decide +kernel
theorem dX10_orders_166 : decode cX10_orders 166 = .ok (.isub, 1) := by decide +kernel
theorem dX10_orders_167 : decode cX10_orders 167 = .ok (.iload_n 2, 1) := by decide +kernel
theorem dX10_orders_168 : decode cX10_orders 168 = .ok (.invokevirtual 250, 3) := by decide +kernel
theorem dX10_orders_171 : decode cX10_orders 171 = .ok (.ifCond .ne 6, 3) := by decide +kernel
theorem dX10_orders_174 : decode cX10_orders 174 = .ok (.goto 18, 3) := by decide +kernel
theorem dX10_orders_177 : decode cX10_orders 177 = .ok (.aload_n 0, 1) := by decide +kernel
theorem dX10_orders_178 : decode cX10_orders 178 = .ok (.getfield 111, 3) := by decide +kernel
theorem dX10_orders_181 : decode cX10_orders 181 = .ok (.iload_n 2, 1) := by decide +kernel
theorem dX10_orders_182 : decode cX10_orders 182 = .ok (.iload_n 3, 1) := by decide +kernel
theorem dX10_orders_183 : decode cX10_orders 183 = .ok (.iastore, 1) := by decide +kernel
theorem dX10_orders_184 : decode cX10_orders 184 = .ok (.aload_n 0, 1) := by decide +kernel
theorem dX10_orders_185 : decode cX10_orders 185 = .ok (.iload_n 1, 1) := by decide +kernel
theorem dX10_orders_186 : decode cX10_orders 186 = .ok (.iload_n 2, 1) := by decide +kernel
theorem dX10_orders_187 : decode cX10_orders 187 = .ok (.iconst 1, 1) := by decide +kernel
theorem dX10_orders_188 : decode cX10_orders 188 = .ok (.iadd, 1) := by decide +kernel
theorem dX10_orders_189 : decode cX10_orders 189 = .ok (.invokevirtual 253, 3) := by decide +kernel
theorem dX10_orders_192 : decode cX10_orders 192 = .ok (.iinc 3 1, 3) := by decide +kernel
theorem dX10_orders_195 : decode cX10_orders 195 = .ok (.goto (-81), 3) := by decide +kernel
theorem dX10_orders_198 : decode cX10_orders 198 = .ok (.return_, 1) := by decide +kernel
theorem dX10_findsBest_0 : decode cX10_findsBest 0 = .ok (.aload_n 0, 1) := by decide +kernel
theorem dX10_findsBest_1 : decode cX10_findsBest 1 = .ok (.aload_n 0, 1) := by decide +kernel
theorem dX10_findsBest_2 : decode cX10_findsBest 2 = .ok (.getfield 40, 3) := by decide +kernel
theorem dX10_findsBest_5 : decode cX10_findsBest 5 = .ok (.iload_n 1, 1) := by decide +kernel
theorem dX10_findsBest_6 : decode cX10_findsBest 6 = .ok (.iaload, 1) := by decide +kernel
theorem dX10_findsBest_7 : decode cX10_findsBest 7 = .ok (.putfield 241, 3) := by decide +kernel
theorem dX10_findsBest_10 : decode cX10_findsBest 10 = .ok (.aload_n 0, 1) := by decide +kernel
theorem dX10_findsBest_11 : decode cX10_findsBest 11 = .ok (.iconst (-1), 1) := by decide +kernel
theorem dX10_findsBest_12 : decode cX10_findsBest 12 = .ok (.putfield 244, 3) := by decide +kernel
theorem dX10_findsBest_15 : decode cX10_findsBest 15 = .ok (.aload_n 0, 1) := by decide +kernel
theorem dX10_findsBest_16 : decode cX10_findsBest 16 = .ok (.iload_n 1, 1) := by decide +kernel
theorem dX10_findsBest_17 : decode cX10_findsBest 17 = .ok (.iconst 0, 1) := by decide +kernel
theorem dX10_findsBest_18 : decode cX10_findsBest 18 = .ok (.invokevirtual 253, 3) := by decide +kernel
theorem dX10_findsBest_21 : decode cX10_findsBest 21 = .ok (.return_, 1) := by decide +kernel
theorem dX10_bestLength_0 : decode cX10_bestLength 0 = .ok (.aload_n 0, 1) := by decide +kernel
theorem dX10_bestLength_1 : decode cX10_bestLength 1 = .ok (.iconst 0, 1) := by decide +kernel
theorem dX10_bestLength_2 : decode cX10_bestLength 2 = .ok (.putfield 114, 3) := by decide +kernel
theorem dX10_bestLength_5 : decode cX10_bestLength 5 = .ok (.aload_n 0, 1) := by decide +kernel
theorem dX10_bestLength_6 : decode cX10_bestLength 6 = .ok (.iload_n 1, 1) := by decide +kernel
theorem dX10_bestLength_7 : decode cX10_bestLength 7 = .ok (.invokevirtual 235, 3) := by decide +kernel
theorem dX10_bestLength_10 : decode cX10_bestLength 10 = .ok (.ifCond .ne 9, 3) := by decide +kernel
theorem dX10_bestLength_13 : decode cX10_bestLength 13 = .ok (.aload_n 0, 1) := by decide +kernel
theorem dX10_bestLength_14 : decode cX10_bestLength 14 = .ok (.iconst 1, 1) := by decide +kernel
theorem dX10_bestLength_15 : decode cX10_bestLength 15 = .ok (.invokevirtual 127, 3) := by decide +kernel
theorem dX10_bestLength_18 : decode cX10_bestLength 18 = .ok (.ireturn, 1) := by decide +kernel
theorem dX10_bestLength_19 : decode cX10_bestLength 19 = .ok (.aload_n 0, 1) := by decide +kernel
theorem dX10_bestLength_20 : decode cX10_bestLength 20 = .ok (.iload_n 1, 1) := by decide +kernel
theorem dX10_bestLength_21 : decode cX10_bestLength 21 = .ok (.invokevirtual 257, 3) := by decide +kernel
theorem dX10_bestLength_24 : decode cX10_bestLength 24 = .ok (.aload_n 0, 1) := by decide +kernel
theorem dX10_bestLength_25 : decode cX10_bestLength 25 = .ok (.getfield 244, 3) := by decide +kernel
theorem dX10_bestLength_28 : decode cX10_bestLength 28 = .ok (.ireturn, 1) := by decide +kernel
theorem dX10_bestLengthByTrying_0 : decode cX10_bestLengthByTrying 0 = .ok (.aload_n 0, 1) := by decide +kernel
theorem dX10_bestLengthByTrying_1 : decode cX10_bestLengthByTrying 1 = .ok (.iload_n 1, 1) := by decide +kernel
theorem dX10_bestLengthByTrying_2 : decode cX10_bestLengthByTrying 2 = .ok (.invokevirtual 260, 3) := by decide +kernel
theorem dX10_bestLengthByTrying_5 : decode cX10_bestLengthByTrying 5 = .ok (.ireturn, 1) := by decide +kernel
theorem dX10_improve_0 : decode cX10_improve 0 = .ok (.aload_n 0, 1) := by decide +kernel
theorem dX10_improve_1 : decode cX10_improve 1 = .ok (.iconst 0, 1) := by decide +kernel
theorem dX10_improve_2 : decode cX10_improve 2 = .ok (.putfield 114, 3) := by decide +kernel
theorem dX10_improve_5 : decode cX10_improve 5 = .ok (.aload_n 0, 1) := by decide +kernel
theorem dX10_improve_6 : decode cX10_improve 6 = .ok (.iload_n 1, 1) := by decide +kernel
theorem dX10_improve_7 : decode cX10_improve 7 = .ok (.invokevirtual 235, 3) := by decide +kernel
theorem dX10_improve_10 : decode cX10_improve 10 = .ok (.ifCond .ne 9, 3) := by decide +kernel
theorem dX10_improve_13 : decode cX10_improve 13 = .ok (.aload_n 0, 1) := by decide +kernel
theorem dX10_improve_14 : decode cX10_improve 14 = .ok (.iconst 1, 1) := by decide +kernel
theorem dX10_improve_15 : decode cX10_improve 15 = .ok (.invokevirtual 127, 3) := by decide +kernel
theorem dX10_improve_18 : decode cX10_improve 18 = .ok (.ireturn, 1) := by decide +kernel
theorem dX10_improve_19 : decode cX10_improve 19 = .ok (.aload_n 0, 1) := by decide +kernel
theorem dX10_improve_20 : decode cX10_improve 20 = .ok (.iload_n 1, 1) := by decide +kernel
theorem dX10_improve_21 : decode cX10_improve 21 = .ok (.invokevirtual 179, 3) := by decide +kernel
theorem dX10_improve_24 : decode cX10_improve 24 = .ok (.istore_n 2, 1) := by decide +kernel
theorem dX10_improve_25 : decode cX10_improve 25 = .ok (.aload_n 0, 1) := by decide +kernel
theorem dX10_improve_26 : decode cX10_improve 26 = .ok (.iload_n 1, 1) := by decide +kernel
theorem dX10_improve_27 : decode cX10_improve 27 = .ok (.invokevirtual 257, 3) := by decide +kernel
theorem dX10_improve_30 : decode cX10_improve 30 = .ok (.iconst 0, 1) := by decide +kernel
theorem dX10_improve_31 : decode cX10_improve 31 = .ok (.istore_n 3, 1) := by decide +kernel
theorem dX10_improve_32 : decode cX10_improve 32 = .ok (.iload_n 3, 1) := by decide +kernel
theorem dX10_improve_33 : decode cX10_improve 33 = .ok (.aload_n 0, 1) := by decide +kernel
theorem dX10_improve_34 : decode cX10_improve 34 = .ok (.getfield 241, 3) := by decide +kernel
theorem dX10_improve_37 : decode cX10_improve 37 = .ok (.if_icmp .ge 26, 3) := by decide +kernel
theorem dX10_improve_40 : decode cX10_improve 40 = .ok (.aload_n 0, 1) := by decide +kernel
theorem dX10_improve_41 : decode cX10_improve 41 = .ok (.getfield 43, 3) := by decide +kernel
theorem dX10_improve_44 : decode cX10_improve 44 = .ok (.bipush 8, 2) := by decide +kernel
theorem dX10_improve_46 : decode cX10_improve 46 = .ok (.iload_n 1, 1) := by decide +kernel
theorem dX10_improve_47 : decode cX10_improve 47 = .ok (.imul, 1) := by decide +kernel
theorem dX10_improve_48 : decode cX10_improve 48 = .ok (.iload_n 3, 1) := by decide +kernel
theorem dX10_improve_49 : decode cX10_improve 49 = .ok (.iadd, 1) := by decide +kernel
theorem dX10_improve_50 : decode cX10_improve 50 = .ok (.aload_n 0, 1) := by decide +kernel
theorem dX10_improve_51 : decode cX10_improve 51 = .ok (.getfield 108, 3) := by decide +kernel
theorem dX10_improve_54 : decode cX10_improve 54 = .ok (.iload_n 3, 1) := by decide +kernel
theorem dX10_improve_55 : decode cX10_improve 55 = .ok (.iaload, 1) := by decide +kernel
theorem dX10_improve_56 : decode cX10_improve 56 = .ok (.iastore, 1) := by decide +kernel
theorem dX10_improve_57 : decode cX10_improve 57 = .ok (.iinc 3 1, 3) := by decide +kernel
theorem dX10_improve_60 : decode cX10_improve 60 = .ok (.goto (-28), 3) := by decide +kernel
theorem dX10_improve_63 : decode cX10_improve 63 = .ok (.aload_n 0, 1) := by decide +kernel
theorem dX10_improve_64 : decode cX10_improve 64 = .ok (.iload_n 1, 1) := by decide +kernel
theorem dX10_improve_65 : decode cX10_improve 65 = .ok (.invokevirtual 219, 3) := by decide +kernel
theorem dX10_improve_68 : decode cX10_improve 68 = .ok (.pop, 1) := by decide +kernel
theorem dX10_improve_69 : decode cX10_improve 69 = .ok (.iload_n 2, 1) := by decide +kernel
theorem dX10_improve_70 : decode cX10_improve 70 = .ok (.aload_n 0, 1) := by decide +kernel
theorem dX10_improve_71 : decode cX10_improve 71 = .ok (.getfield 244, 3) := by decide +kernel
theorem dX10_improve_74 : decode cX10_improve 74 = .ok (.isub, 1) := by decide +kernel
theorem dX10_improve_75 : decode cX10_improve 75 = .ok (.ireturn, 1) := by decide +kernel
theorem dX10_drives_0 : decode cX10_drives 0 = .ok (.aload_n 0, 1) := by decide +kernel
theorem dX10_drives_1 : decode cX10_drives 1 = .ok (.getfield 19, 3) := by decide +kernel
theorem dX10_drives_4 : decode cX10_drives 4 = .ok (.iload_n 1, 1) := by decide +kernel
theorem dX10_drives_5 : decode cX10_drives 5 = .ok (.iaload, 1) := by decide +kernel
theorem dX10_drives_6 : decode cX10_drives 6 = .ok (.iload_n 2, 1) := by decide +kernel
theorem dX10_drives_7 : decode cX10_drives 7 = .ok (.if_icmp .eq 30, 3) := by decide +kernel
theorem dX10_drives_10 : decode cX10_drives 10 = .ok (.aload_n 0, 1) := by decide +kernel
theorem dX10_drives_11 : decode cX10_drives 11 = .ok (.getfield 19, 3) := by decide +kernel
theorem dX10_drives_14 : decode cX10_drives 14 = .ok (.iload_n 1, 1) := by decide +kernel
theorem dX10_drives_15 : decode cX10_drives 15 = .ok (.dup2, 1) := by decide +kernel
theorem dX10_drives_16 : decode cX10_drives 16 = .ok (.iaload, 1) := by decide +kernel
theorem dX10_drives_17 : decode cX10_drives 17 = .ok (.aload_n 0, 1) := by decide +kernel
theorem dX10_drives_18 : decode cX10_drives 18 = .ok (.getfield 19, 3) := by decide +kernel
theorem dX10_drives_21 : decode cX10_drives 21 = .ok (.iload_n 1, 1) := by decide +kernel
theorem dX10_drives_22 : decode cX10_drives 22 = .ok (.iaload, 1) := by decide +kernel
theorem dX10_drives_23 : decode cX10_drives 23 = .ok (.iload_n 2, 1) := by decide +kernel
theorem dX10_drives_24 : decode cX10_drives 24 = .ok (.if_icmp .ge 7, 3) := by decide +kernel
theorem dX10_drives_27 : decode cX10_drives 27 = .ok (.iconst 1, 1) := by decide +kernel
theorem dX10_drives_28 : decode cX10_drives 28 = .ok (.goto 4, 3) := by decide +kernel
theorem dX10_drives_31 : decode cX10_drives 31 = .ok (.iconst (-1), 1) := by decide +kernel
theorem dX10_drives_32 : decode cX10_drives 32 = .ok (.iadd, 1) := by decide +kernel
theorem dX10_drives_33 : decode cX10_drives 33 = .ok (.iastore, 1) := by decide +kernel
theorem dX10_drives_34 : decode cX10_drives 34 = .ok (.goto 27, 3) := by decide +kernel
theorem dX10_drives_37 : decode cX10_drives 37 = .ok (.aload_n 0, 1) := by decide +kernel
theorem dX10_drives_38 : decode cX10_drives 38 = .ok (.getfield 22, 3) := by decide +kernel
theorem dX10_drives_41 : decode cX10_drives 41 = .ok (.iload_n 1, 1) := by decide +kernel
theorem dX10_drives_42 : decode cX10_drives 42 = .ok (.dup2, 1) := by decide +kernel
theorem dX10_drives_43 : decode cX10_drives 43 = .ok (.iaload, 1) := by decide +kernel
theorem dX10_drives_44 : decode cX10_drives 44 = .ok (.aload_n 0, 1) := by decide +kernel
theorem dX10_drives_45 : decode cX10_drives 45 = .ok (.getfield 22, 3) := by decide +kernel
theorem dX10_drives_48 : decode cX10_drives 48 = .ok (.iload_n 1, 1) := by decide +kernel
theorem dX10_drives_49 : decode cX10_drives 49 = .ok (.iaload, 1) := by decide +kernel
theorem dX10_drives_50 : decode cX10_drives 50 = .ok (.iload_n 3, 1) := by decide +kernel
theorem dX10_drives_51 : decode cX10_drives 51 = .ok (.if_icmp .ge 7, 3) := by decide +kernel
theorem dX10_drives_54 : decode cX10_drives 54 = .ok (.iconst 1, 1) := by decide +kernel
theorem dX10_drives_55 : decode cX10_drives 55 = .ok (.goto 4, 3) := by decide +kernel
theorem dX10_drives_58 : decode cX10_drives 58 = .ok (.iconst (-1), 1) := by decide +kernel
theorem dX10_drives_59 : decode cX10_drives 59 = .ok (.iadd, 1) := by decide +kernel
theorem dX10_drives_60 : decode cX10_drives 60 = .ok (.iastore, 1) := by decide +kernel
theorem dX10_drives_61 : decode cX10_drives 61 = .ok (.aload_n 0, 1) := by decide +kernel
theorem dX10_drives_62 : decode cX10_drives 62 = .ok (.iload_n 1, 1) := by decide +kernel
theorem dX10_drives_63 : decode cX10_drives 63 = .ok (.invokevirtual 163, 3) := by decide +kernel
theorem dX10_drives_66 : decode cX10_drives 66 = .ok (.istore 4, 2) := by decide +kernel
theorem dX10_drives_68 : decode cX10_drives 68 = .ok (.aload_n 0, 1) := by decide +kernel
theorem dX10_drives_69 : decode cX10_drives 69 = .ok (.getfield 16, 3) := by decide +kernel
theorem dX10_drives_72 : decode cX10_drives 72 = .ok (.iload_n 1, 1) := by decide +kernel
theorem dX10_drives_73 : decode cX10_drives 73 = .ok (.dup2, 1) := by decide +kernel
theorem dX10_drives_74 : decode cX10_drives 74 = .ok (.iaload, 1) := by decide +kernel
theorem dX10_drives_75 : decode cX10_drives 75 = .ok (.iconst 1, 1) := by decide +kernel
theorem dX10_drives_76 : decode cX10_drives 76 = .ok (.isub, 1) := by decide +kernel
theorem dX10_drives_77 : decode cX10_drives 77 = .ok (.iastore, 1) := by decide +kernel
theorem dX10_drives_78 : decode cX10_drives 78 = .ok (.aload_n 0, 1) := by decide +kernel
theorem dX10_drives_79 : decode cX10_drives 79 = .ok (.getfield 31, 3) := by decide +kernel
theorem dX10_drives_82 : decode cX10_drives 82 = .ok (.iload_n 1, 1) := by decide +kernel
theorem dX10_drives_83 : decode cX10_drives 83 = .ok (.dup2, 1) := by decide +kernel
theorem dX10_drives_84 : decode cX10_drives 84 = .ok (.iaload, 1) := by decide +kernel
theorem dX10_drives_85 : decode cX10_drives 85 = .ok (.iconst 1, 1) := by decide +kernel
theorem dX10_drives_86 : decode cX10_drives 86 = .ok (.iadd, 1) := by decide +kernel
theorem dX10_drives_87 : decode cX10_drives 87 = .ok (.iastore, 1) := by decide +kernel
theorem dX10_drives_88 : decode cX10_drives 88 = .ok (.aload_n 0, 1) := by decide +kernel
theorem dX10_drives_89 : decode cX10_drives 89 = .ok (.getfield 37, 3) := by decide +kernel
theorem dX10_drives_92 : decode cX10_drives 92 = .ok (.iload_n 1, 1) := by decide +kernel
theorem dX10_drives_93 : decode cX10_drives 93 = .ok (.dup2, 1) := by decide +kernel
theorem dX10_drives_94 : decode cX10_drives 94 = .ok (.iaload, 1) := by decide +kernel
theorem dX10_drives_95 : decode cX10_drives 95 = .ok (.iload 4, 2) := by decide +kernel
theorem dX10_drives_97 : decode cX10_drives 97 = .ok (.iadd, 1) := by decide +kernel
theorem dX10_drives_98 : decode cX10_drives 98 = .ok (.iastore, 1) := by decide +kernel
theorem dX10_drives_99 : decode cX10_drives 99 = .ok (.iload 4, 2) := by decide +kernel
theorem dX10_drives_101 : decode cX10_drives 101 = .ok (.ifCond .ne 13, 3) := by decide +kernel
theorem dX10_drives_104 : decode cX10_drives 104 = .ok (.aload_n 0, 1) := by decide +kernel
theorem dX10_drives_105 : decode cX10_drives 105 = .ok (.getfield 34, 3) := by decide +kernel
theorem dX10_drives_108 : decode cX10_drives 108 = .ok (.iload_n 1, 1) := by decide +kernel
theorem dX10_drives_109 : decode cX10_drives 109 = .ok (.dup2, 1) := by decide +kernel
theorem dX10_drives_110 : decode cX10_drives 110 = .ok (.iaload, 1) := by decide +kernel
theorem dX10_drives_111 : decode cX10_drives 111 = .ok (.iconst 1, 1) := by decide +kernel
theorem dX10_drives_112 : decode cX10_drives 112 = .ok (.iadd, 1) := by decide +kernel
theorem dX10_drives_113 : decode cX10_drives 113 = .ok (.iastore, 1) := by decide +kernel
theorem dX10_drives_114 : decode cX10_drives 114 = .ok (.return_, 1) := by decide +kernel
theorem dX10_minute_0 : decode cX10_minute 0 = .ok (.aload_n 0, 1) := by decide +kernel
theorem dX10_minute_1 : decode cX10_minute 1 = .ok (.getfield 40, 3) := by decide +kernel
theorem dX10_minute_4 : decode cX10_minute 4 = .ok (.iload_n 1, 1) := by decide +kernel
theorem dX10_minute_5 : decode cX10_minute 5 = .ok (.iaload, 1) := by decide +kernel
theorem dX10_minute_6 : decode cX10_minute 6 = .ok (.ifCond .le 40, 3) := by decide +kernel
theorem dX10_minute_9 : decode cX10_minute 9 = .ok (.aload_n 0, 1) := by decide +kernel
theorem dX10_minute_10 : decode cX10_minute 10 = .ok (.iload_n 1, 1) := by decide +kernel
theorem dX10_minute_11 : decode cX10_minute 11 = .ok (.aload_n 0, 1) := by decide +kernel
theorem dX10_minute_12 : decode cX10_minute 12 = .ok (.aload_n 0, 1) := by decide +kernel
theorem dX10_minute_13 : decode cX10_minute 13 = .ok (.getfield 43, 3) := by decide +kernel
theorem dX10_minute_16 : decode cX10_minute 16 = .ok (.bipush 8, 2) := by decide +kernel
theorem dX10_minute_18 : decode cX10_minute 18 = .ok (.iload_n 1, 1) := by decide +kernel
theorem dX10_minute_19 : decode cX10_minute 19 = .ok (.imul, 1) := by decide +kernel
theorem dX10_minute_20 : decode cX10_minute 20 = .ok (.iaload, 1) := by decide +kernel
theorem dX10_minute_21 : decode cX10_minute 21 = .ok (.invokevirtual 147, 3) := by decide +kernel
theorem dX10_minute_24 : decode cX10_minute 24 = .ok (.aload_n 0, 1) := by decide +kernel
theorem dX10_minute_25 : decode cX10_minute 25 = .ok (.aload_n 0, 1) := by decide +kernel
theorem dX10_minute_26 : decode cX10_minute 26 = .ok (.getfield 43, 3) := by decide +kernel
theorem dX10_minute_29 : decode cX10_minute 29 = .ok (.bipush 8, 2) := by decide +kernel
theorem dX10_minute_31 : decode cX10_minute 31 = .ok (.iload_n 1, 1) := by decide +kernel
theorem dX10_minute_32 : decode cX10_minute 32 = .ok (.imul, 1) := by decide +kernel
theorem dX10_minute_33 : decode cX10_minute 33 = .ok (.iaload, 1) := by decide +kernel
theorem dX10_minute_34 : decode cX10_minute 34 = .ok (.invokevirtual 150, 3) := by decide +kernel
theorem dX10_minute_37 : decode cX10_minute 37 = .ok (.invokevirtual 262, 3) := by decide +kernel
theorem dX10_minute_40 : decode cX10_minute 40 = .ok (.aload_n 0, 1) := by decide +kernel
theorem dX10_minute_41 : decode cX10_minute 41 = .ok (.iload_n 1, 1) := by decide +kernel
theorem dX10_minute_42 : decode cX10_minute 42 = .ok (.invokevirtual 219, 3) := by decide +kernel
theorem dX10_minute_45 : decode cX10_minute 45 = .ok (.ireturn, 1) := by decide +kernel
theorem dX10_minute_46 : decode cX10_minute 46 = .ok (.aload_n 0, 1) := by decide +kernel
theorem dX10_minute_47 : decode cX10_minute 47 = .ok (.getfield 19, 3) := by decide +kernel
theorem dX10_minute_50 : decode cX10_minute 50 = .ok (.iload_n 1, 1) := by decide +kernel
theorem dX10_minute_51 : decode cX10_minute 51 = .ok (.iaload, 1) := by decide +kernel
theorem dX10_minute_52 : decode cX10_minute 52 = .ok (.aload_n 0, 1) := by decide +kernel
theorem dX10_minute_53 : decode cX10_minute 53 = .ok (.getfield 25, 3) := by decide +kernel
theorem dX10_minute_56 : decode cX10_minute 56 = .ok (.iload_n 1, 1) := by decide +kernel
theorem dX10_minute_57 : decode cX10_minute 57 = .ok (.iaload, 1) := by decide +kernel
theorem dX10_minute_58 : decode cX10_minute 58 = .ok (.if_icmp .ne 18, 3) := by decide +kernel
theorem dX10_minute_61 : decode cX10_minute 61 = .ok (.aload_n 0, 1) := by decide +kernel
theorem dX10_minute_62 : decode cX10_minute 62 = .ok (.getfield 22, 3) := by decide +kernel
theorem dX10_minute_65 : decode cX10_minute 65 = .ok (.iload_n 1, 1) := by decide +kernel
theorem dX10_minute_66 : decode cX10_minute 66 = .ok (.iaload, 1) := by decide +kernel
theorem dX10_minute_67 : decode cX10_minute 67 = .ok (.aload_n 0, 1) := by decide +kernel
theorem dX10_minute_68 : decode cX10_minute 68 = .ok (.getfield 28, 3) := by decide +kernel
theorem dX10_minute_71 : decode cX10_minute 71 = .ok (.iload_n 1, 1) := by decide +kernel
theorem dX10_minute_72 : decode cX10_minute 72 = .ok (.iaload, 1) := by decide +kernel
theorem dX10_minute_73 : decode cX10_minute 73 = .ok (.if_icmp .eq 23, 3) := by decide +kernel
theorem dX10_minute_76 : decode cX10_minute 76 = .ok (.aload_n 0, 1) := by decide +kernel
theorem dX10_minute_77 : decode cX10_minute 77 = .ok (.iload_n 1, 1) := by decide +kernel
theorem dX10_minute_78 : decode cX10_minute 78 = .ok (.aload_n 0, 1) := by decide +kernel
theorem dX10_minute_79 : decode cX10_minute 79 = .ok (.getfield 25, 3) := by decide +kernel
theorem dX10_minute_82 : decode cX10_minute 82 = .ok (.iload_n 1, 1) := by decide +kernel
theorem dX10_minute_83 : decode cX10_minute 83 = .ok (.iaload, 1) := by decide +kernel
theorem dX10_minute_84 : decode cX10_minute 84 = .ok (.aload_n 0, 1) := by decide +kernel
theorem dX10_minute_85 : decode cX10_minute 85 = .ok (.getfield 28, 3) := by decide +kernel
theorem dX10_minute_88 : decode cX10_minute 88 = .ok (.iload_n 1, 1) := by decide +kernel
theorem dX10_minute_89 : decode cX10_minute 89 = .ok (.iaload, 1) := by decide +kernel
theorem dX10_minute_90 : decode cX10_minute 90 = .ok (.invokevirtual 262, 3) := by decide +kernel
theorem dX10_minute_93 : decode cX10_minute 93 = .ok (.goto 26, 3) := by decide +kernel
theorem dX10_minute_96 : decode cX10_minute 96 = .ok (.aload_n 0, 1) := by decide +kernel
theorem dX10_minute_97 : decode cX10_minute 97 = .ok (.getfield 16, 3) := by decide +kernel
theorem dX10_minute_100 : decode cX10_minute 100 = .ok (.iload_n 1, 1) := by decide +kernel
theorem dX10_minute_101 : decode cX10_minute 101 = .ok (.aload_n 0, 1) := by decide +kernel
theorem dX10_minute_102 : decode cX10_minute 102 = .ok (.getfield 13, 3) := by decide +kernel
theorem dX10_minute_105 : decode cX10_minute 105 = .ok (.iload_n 1, 1) := by decide +kernel
theorem dX10_minute_106 : decode cX10_minute 106 = .ok (.iaload, 1) := by decide +kernel
theorem dX10_minute_107 : decode cX10_minute 107 = .ok (.aload_n 0, 1) := by decide +kernel
theorem dX10_minute_108 : decode cX10_minute 108 = .ok (.getfield 16, 3) := by decide +kernel
theorem dX10_minute_111 : decode cX10_minute 111 = .ok (.iload_n 1, 1) := by decide +kernel
theorem dX10_minute_112 : decode cX10_minute 112 = .ok (.iaload, 1) := by decide +kernel
theorem dX10_minute_113 : decode cX10_minute 113 = .ok (.iconst 5, 1) := by decide +kernel
theorem dX10_minute_114 : decode cX10_minute 114 = .ok (.iadd, 1) := by decide +kernel
theorem dX10_minute_115 : decode cX10_minute 115 = .ok (.invokestatic 266, 3) := by decide +kernel
theorem dX10_minute_118 : decode cX10_minute 118 = .ok (.iastore, 1) := by decide +kernel
theorem dX10_minute_119 : decode cX10_minute 119 = .ok (.iconst 0, 1) := by decide +kernel
theorem dX10_minute_120 : decode cX10_minute 120 = .ok (.ireturn, 1) := by decide +kernel
theorem dX10_pass_0 : decode cX10_pass 0 = .ok (.aload_n 0, 1) := by decide +kernel
theorem dX10_pass_1 : decode cX10_pass 1 = .ok (.iconst 0, 1) := by decide +kernel
theorem dX10_pass_2 : decode cX10_pass 2 = .ok (.putfield 114, 3) := by decide +kernel
theorem dX10_pass_5 : decode cX10_pass 5 = .ok (.iload_n 1, 1) := by decide +kernel
theorem dX10_pass_6 : decode cX10_pass 6 = .ok (.iconst 1, 1) := by decide +kernel
theorem dX10_pass_7 : decode cX10_pass 7 = .ok (.bipush 60, 2) := by decide +kernel
theorem dX10_pass_9 : decode cX10_pass 9 = .ok (.invokestatic 120, 3) := by decide +kernel
theorem dX10_pass_12 : decode cX10_pass 12 = .ok (.ifCond .ne 9, 3) := by decide +kernel
theorem dX10_pass_15 : decode cX10_pass 15 = .ok (.aload_n 0, 1) := by decide +kernel
theorem dX10_pass_16 : decode cX10_pass 16 = .ok (.iconst 1, 1) := by decide +kernel
theorem dX10_pass_17 : decode cX10_pass 17 = .ok (.invokevirtual 127, 3) := by decide +kernel
theorem dX10_pass_20 : decode cX10_pass 20 = .ok (.ireturn, 1) := by decide +kernel
theorem dX10_pass_21 : decode cX10_pass 21 = .ok (.iconst 0, 1) := by decide +kernel
theorem dX10_pass_22 : decode cX10_pass 22 = .ok (.istore_n 2, 1) := by decide +kernel
theorem dX10_pass_23 : decode cX10_pass 23 = .ok (.iconst 0, 1) := by decide +kernel
theorem dX10_pass_24 : decode cX10_pass 24 = .ok (.istore_n 3, 1) := by decide +kernel
theorem dX10_pass_25 : decode cX10_pass 25 = .ok (.iload_n 3, 1) := by decide +kernel
theorem dX10_pass_26 : decode cX10_pass 26 = .ok (.iload_n 1, 1) := by decide +kernel
theorem dX10_pass_27 : decode cX10_pass 27 = .ok (.if_icmp .ge 46, 3) := by decide +kernel
theorem dX10_pass_30 : decode cX10_pass 30 = .ok (.aload_n 0, 1) := by decide +kernel
theorem dX10_pass_31 : decode cX10_pass 31 = .ok (.dup, 1) := by decide +kernel
theorem dX10_pass_32 : decode cX10_pass 32 = .ok (.getfield 157, 3) := by decide +kernel
theorem dX10_pass_35 : decode cX10_pass 35 = .ok (.iconst 1, 1) := by decide +kernel
theorem dX10_pass_36 : decode cX10_pass 36 = .ok (.iadd, 1) := by decide +kernel
theorem dX10_pass_37 : decode cX10_pass 37 = .ok (.putfield 157, 3) := by decide +kernel
theorem dX10_pass_40 : decode cX10_pass 40 = .ok (.iconst 0, 1) := by decide +kernel
theorem dX10_pass_41 : decode cX10_pass 41 = .ok (.istore 4, 2) := by decide +kernel
theorem dX10_pass_43 : decode cX10_pass 43 = .ok (.iload 4, 2) := by decide +kernel
theorem dX10_pass_45 : decode cX10_pass 45 = .ok (.aload_n 0, 1) := by decide +kernel
theorem dX10_pass_46 : decode cX10_pass 46 = .ok (.getfield 117, 3) := by decide +kernel
theorem dX10_pass_49 : decode cX10_pass 49 = .ok (.if_icmp .ge 18, 3) := by decide +kernel
theorem dX10_pass_52 : decode cX10_pass 52 = .ok (.iload_n 2, 1) := by decide +kernel
theorem dX10_pass_53 : decode cX10_pass 53 = .ok (.aload_n 0, 1) := by decide +kernel
theorem dX10_pass_54 : decode cX10_pass 54 = .ok (.iload 4, 2) := by decide +kernel
theorem dX10_pass_56 : decode cX10_pass 56 = .ok (.invokevirtual 269, 3) := by decide +kernel
theorem dX10_pass_59 : decode cX10_pass 59 = .ok (.iadd, 1) := by decide +kernel
theorem dX10_pass_60 : decode cX10_pass 60 = .ok (.istore_n 2, 1) := by decide +kernel
theorem dX10_pass_61 : decode cX10_pass 61 = .ok (.iinc 4 1, 3) := by decide +kernel
theorem dX10_pass_64 : decode cX10_pass 64 = .ok (.goto (-21), 3) := by decide +kernel
theorem dX10_pass_67 : decode cX10_pass 67 = .ok (.iinc 3 1, 3) := by decide +kernel
theorem dX10_pass_70 : decode cX10_pass 70 = .ok (.goto (-45), 3) := by decide +kernel
theorem dX10_pass_73 : decode cX10_pass 73 = .ok (.iload_n 2, 1) := by decide +kernel
theorem dX10_pass_74 : decode cX10_pass 74 = .ok (.ireturn, 1) := by decide +kernel
theorem dX10_now_0 : decode cX10_now 0 = .ok (.aload_n 0, 1) := by decide +kernel
theorem dX10_now_1 : decode cX10_now 1 = .ok (.iconst 0, 1) := by decide +kernel
theorem dX10_now_2 : decode cX10_now 2 = .ok (.putfield 114, 3) := by decide +kernel
theorem dX10_now_5 : decode cX10_now 5 = .ok (.aload_n 0, 1) := by decide +kernel
theorem dX10_now_6 : decode cX10_now 6 = .ok (.getfield 157, 3) := by decide +kernel
theorem dX10_now_9 : decode cX10_now 9 = .ok (.ireturn, 1) := by decide +kernel
theorem dX10_x_0 : decode cX10_x 0 = .ok (.aload_n 0, 1) := by decide +kernel
theorem dX10_x_1 : decode cX10_x 1 = .ok (.iconst 0, 1) := by decide +kernel
theorem dX10_x_2 : decode cX10_x 2 = .ok (.putfield 114, 3) := by decide +kernel
theorem dX10_x_5 : decode cX10_x 5 = .ok (.aload_n 0, 1) := by decide +kernel
theorem dX10_x_6 : decode cX10_x 6 = .ok (.iload_n 1, 1) := by decide +kernel
theorem dX10_x_7 : decode cX10_x 7 = .ok (.invokevirtual 235, 3) := by decide +kernel
theorem dX10_x_10 : decode cX10_x 10 = .ok (.ifCond .eq 12, 3) := by decide +kernel
theorem dX10_x_13 : decode cX10_x 13 = .ok (.aload_n 0, 1) := by decide +kernel
theorem dX10_x_14 : decode cX10_x 14 = .ok (.getfield 19, 3) := by decide +kernel
theorem dX10_x_17 : decode cX10_x 17 = .ok (.iload_n 1, 1) := by decide +kernel
theorem dX10_x_18 : decode cX10_x 18 = .ok (.iaload, 1) := by decide +kernel
theorem dX10_x_19 : decode cX10_x 19 = .ok (.goto 8, 3) := by decide +kernel
theorem dX10_x_22 : decode cX10_x 22 = .ok (.aload_n 0, 1) := by decide +kernel
theorem dX10_x_23 : decode cX10_x 23 = .ok (.iconst 1, 1) := by decide +kernel
theorem dX10_x_24 : decode cX10_x 24 = .ok (.invokevirtual 127, 3) := by decide +kernel
theorem dX10_x_27 : decode cX10_x 27 = .ok (.ireturn, 1) := by decide +kernel
theorem dX10_y_0 : decode cX10_y 0 = .ok (.aload_n 0, 1) := by decide +kernel
theorem dX10_y_1 : decode cX10_y 1 = .ok (.iconst 0, 1) := by decide +kernel
theorem dX10_y_2 : decode cX10_y 2 = .ok (.putfield 114, 3) := by decide +kernel
theorem dX10_y_5 : decode cX10_y 5 = .ok (.aload_n 0, 1) := by decide +kernel
theorem dX10_y_6 : decode cX10_y 6 = .ok (.iload_n 1, 1) := by decide +kernel
theorem dX10_y_7 : decode cX10_y 7 = .ok (.invokevirtual 235, 3) := by decide +kernel
theorem dX10_y_10 : decode cX10_y 10 = .ok (.ifCond .eq 12, 3) := by decide +kernel
theorem dX10_y_13 : decode cX10_y 13 = .ok (.aload_n 0, 1) := by decide +kernel
theorem dX10_y_14 : decode cX10_y 14 = .ok (.getfield 22, 3) := by decide +kernel
theorem dX10_y_17 : decode cX10_y 17 = .ok (.iload_n 1, 1) := by decide +kernel
theorem dX10_y_18 : decode cX10_y 18 = .ok (.iaload, 1) := by decide +kernel
theorem dX10_y_19 : decode cX10_y 19 = .ok (.goto 8, 3) := by decide +kernel
theorem dX10_y_22 : decode cX10_y 22 = .ok (.aload_n 0, 1) := by decide +kernel
theorem dX10_y_23 : decode cX10_y 23 = .ok (.iconst 1, 1) := by decide +kernel
theorem dX10_y_24 : decode cX10_y 24 = .ok (.invokevirtual 127, 3) := by decide +kernel
theorem dX10_y_27 : decode cX10_y 27 = .ok (.ireturn, 1) := by decide +kernel
theorem dX10_charge_0 : decode cX10_charge 0 = .ok (.aload_n 0, 1) := by decide +kernel
theorem dX10_charge_1 : decode cX10_charge 1 = .ok (.iconst 0, 1) := by decide +kernel
theorem dX10_charge_2 : decode cX10_charge 2 = .ok (.putfield 114, 3) := by decide +kernel
theorem dX10_charge_5 : decode cX10_charge 5 = .ok (.aload_n 0, 1) := by decide +kernel
theorem dX10_charge_6 : decode cX10_charge 6 = .ok (.iload_n 1, 1) := by decide +kernel
theorem dX10_charge_7 : decode cX10_charge 7 = .ok (.invokevirtual 235, 3) := by decide +kernel
theorem dX10_charge_10 : decode cX10_charge 10 = .ok (.ifCond .eq 12, 3) := by decide +kernel
theorem dX10_charge_13 : decode cX10_charge 13 = .ok (.aload_n 0, 1) := by decide +kernel
theorem dX10_charge_14 : decode cX10_charge 14 = .ok (.getfield 16, 3) := by decide +kernel
theorem dX10_charge_17 : decode cX10_charge 17 = .ok (.iload_n 1, 1) := by decide +kernel
theorem dX10_charge_18 : decode cX10_charge 18 = .ok (.iaload, 1) := by decide +kernel
theorem dX10_charge_19 : decode cX10_charge 19 = .ok (.goto 8, 3) := by decide +kernel
theorem dX10_charge_22 : decode cX10_charge 22 = .ok (.aload_n 0, 1) := by decide +kernel
theorem dX10_charge_23 : decode cX10_charge 23 = .ok (.iconst 1, 1) := by decide +kernel
theorem dX10_charge_24 : decode cX10_charge 24 = .ok (.invokevirtual 127, 3) := by decide +kernel
theorem dX10_charge_27 : decode cX10_charge 27 = .ok (.ireturn, 1) := by decide +kernel
theorem dX10_onBoard_0 : decode cX10_onBoard 0 = .ok (.aload_n 0, 1) := by decide +kernel
theorem dX10_onBoard_1 : decode cX10_onBoard 1 = .ok (.iconst 0, 1) := by decide +kernel
theorem dX10_onBoard_2 : decode cX10_onBoard 2 = .ok (.putfield 114, 3) := by decide +kernel
theorem dX10_onBoard_5 : decode cX10_onBoard 5 = .ok (.aload_n 0, 1) := by decide +kernel
theorem dX10_onBoard_6 : decode cX10_onBoard 6 = .ok (.iload_n 1, 1) := by decide +kernel
theorem dX10_onBoard_7 : decode cX10_onBoard 7 = .ok (.invokevirtual 235, 3) := by decide +kernel
theorem dX10_onBoard_10 : decode cX10_onBoard 10 = .ok (.ifCond .eq 11, 3) := by decide +kernel
theorem dX10_onBoard_13 : decode cX10_onBoard 13 = .ok (.aload_n 0, 1) := by decide +kernel
theorem dX10_onBoard_14 : decode cX10_onBoard 14 = .ok (.iload_n 1, 1) := by decide +kernel
theorem dX10_onBoard_15 : decode cX10_onBoard 15 = .ok (.invokevirtual 163, 3) := by decide +kernel
theorem dX10_onBoard_18 : decode cX10_onBoard 18 = .ok (.goto 8, 3) := by decide +kernel
theorem dX10_onBoard_21 : decode cX10_onBoard 21 = .ok (.aload_n 0, 1) := by decide +kernel
theorem dX10_onBoard_22 : decode cX10_onBoard 22 = .ok (.iconst 1, 1) := by decide +kernel
theorem dX10_onBoard_23 : decode cX10_onBoard 23 = .ok (.invokevirtual 127, 3) := by decide +kernel
theorem dX10_onBoard_26 : decode cX10_onBoard 26 = .ok (.ireturn, 1) := by decide +kernel
theorem dX10_driven_0 : decode cX10_driven 0 = .ok (.aload_n 0, 1) := by decide +kernel
theorem dX10_driven_1 : decode cX10_driven 1 = .ok (.iconst 0, 1) := by decide +kernel
theorem dX10_driven_2 : decode cX10_driven 2 = .ok (.putfield 114, 3) := by decide +kernel
theorem dX10_driven_5 : decode cX10_driven 5 = .ok (.aload_n 0, 1) := by decide +kernel
theorem dX10_driven_6 : decode cX10_driven 6 = .ok (.iload_n 1, 1) := by decide +kernel
theorem dX10_driven_7 : decode cX10_driven 7 = .ok (.invokevirtual 235, 3) := by decide +kernel
theorem dX10_driven_10 : decode cX10_driven 10 = .ok (.ifCond .eq 12, 3) := by decide +kernel
theorem dX10_driven_13 : decode cX10_driven 13 = .ok (.aload_n 0, 1) := by decide +kernel
theorem dX10_driven_14 : decode cX10_driven 14 = .ok (.getfield 31, 3) := by decide +kernel
theorem dX10_driven_17 : decode cX10_driven 17 = .ok (.iload_n 1, 1) := by decide +kernel
theorem dX10_driven_18 : decode cX10_driven 18 = .ok (.iaload, 1) := by decide +kernel
theorem dX10_driven_19 : decode cX10_driven 19 = .ok (.goto 8, 3) := by decide +kernel
theorem dX10_driven_22 : decode cX10_driven 22 = .ok (.aload_n 0, 1) := by decide +kernel
theorem dX10_driven_23 : decode cX10_driven 23 = .ok (.iconst 1, 1) := by decide +kernel
theorem dX10_driven_24 : decode cX10_driven 24 = .ok (.invokevirtual 127, 3) := by decide +kernel
theorem dX10_driven_27 : decode cX10_driven 27 = .ok (.ireturn, 1) := by decide +kernel
theorem dX10_empty_0 : decode cX10_empty 0 = .ok (.aload_n 0, 1) := by decide +kernel
theorem dX10_empty_1 : decode cX10_empty 1 = .ok (.iconst 0, 1) := by decide +kernel
theorem dX10_empty_2 : decode cX10_empty 2 = .ok (.putfield 114, 3) := by decide +kernel
theorem dX10_empty_5 : decode cX10_empty 5 = .ok (.aload_n 0, 1) := by decide +kernel
theorem dX10_empty_6 : decode cX10_empty 6 = .ok (.iload_n 1, 1) := by decide +kernel
theorem dX10_empty_7 : decode cX10_empty 7 = .ok (.invokevirtual 235, 3) := by decide +kernel
theorem dX10_empty_10 : decode cX10_empty 10 = .ok (.ifCond .eq 12, 3) := by decide +kernel
theorem dX10_empty_13 : decode cX10_empty 13 = .ok (.aload_n 0, 1) := by decide +kernel
theorem dX10_empty_14 : decode cX10_empty 14 = .ok (.getfield 34, 3) := by decide +kernel
theorem dX10_empty_17 : decode cX10_empty 17 = .ok (.iload_n 1, 1) := by decide +kernel
theorem dX10_empty_18 : decode cX10_empty 18 = .ok (.iaload, 1) := by decide +kernel
theorem dX10_empty_19 : decode cX10_empty 19 = .ok (.goto 8, 3) := by decide +kernel
theorem dX10_empty_22 : decode cX10_empty 22 = .ok (.aload_n 0, 1) := by decide +kernel
theorem dX10_empty_23 : decode cX10_empty 23 = .ok (.iconst 1, 1) := by decide +kernel
theorem dX10_empty_24 : decode cX10_empty 24 = .ok (.invokevirtual 127, 3) := by decide +kernel
theorem dX10_empty_27 : decode cX10_empty 27 = .ok (.ireturn, 1) := by decide +kernel
theorem dX10_emptyByJournal_0 : decode cX10_emptyByJournal 0 = .ok (.aload_n 0, 1) := by decide +kernel
theorem dX10_emptyByJournal_1 : decode cX10_emptyByJournal 1 = .ok (.iload_n 1, 1) := by decide +kernel
theorem dX10_emptyByJournal_2 : decode cX10_emptyByJournal 2 = .ok (.invokevirtual 272, 3) := by decide +kernel
theorem dX10_emptyByJournal_5 : decode cX10_emptyByJournal 5 = .ok (.ireturn, 1) := by decide +kernel
theorem dX10_occupancy_0 : decode cX10_occupancy 0 = .ok (.aload_n 0, 1) := by decide +kernel
theorem dX10_occupancy_1 : decode cX10_occupancy 1 = .ok (.iconst 0, 1) := by decide +kernel
theorem dX10_occupancy_2 : decode cX10_occupancy 2 = .ok (.putfield 114, 3) := by decide +kernel
theorem dX10_occupancy_5 : decode cX10_occupancy 5 = .ok (.aload_n 0, 1) := by decide +kernel
theorem dX10_occupancy_6 : decode cX10_occupancy 6 = .ok (.iload_n 1, 1) := by decide +kernel
theorem dX10_occupancy_7 : decode cX10_occupancy 7 = .ok (.invokevirtual 235, 3) := by decide +kernel
theorem dX10_occupancy_10 : decode cX10_occupancy 10 = .ok (.ifCond .ne 10, 3) := by decide +kernel
theorem dX10_occupancy_13 : decode cX10_occupancy 13 = .ok (.aload_n 0, 1) := by decide +kernel
theorem dX10_occupancy_14 : decode cX10_occupancy 14 = .ok (.iconst 1, 1) := by decide +kernel
theorem dX10_occupancy_15 : decode cX10_occupancy 15 = .ok (.invokevirtual 127, 3) := by decide +kernel
theorem dX10_occupancy_18 : decode cX10_occupancy 18 = .ok (.i2f, 1) := by decide +kernel
theorem dX10_occupancy_19 : decode cX10_occupancy 19 = .ok (.freturn, 1) := by decide +kernel
theorem dX10_occupancy_20 : decode cX10_occupancy 20 = .ok (.aload_n 0, 1) := by decide +kernel
theorem dX10_occupancy_21 : decode cX10_occupancy 21 = .ok (.getfield 31, 3) := by decide +kernel
theorem dX10_occupancy_24 : decode cX10_occupancy 24 = .ok (.iload_n 1, 1) := by decide +kernel
theorem dX10_occupancy_25 : decode cX10_occupancy 25 = .ok (.iaload, 1) := by decide +kernel
theorem dX10_occupancy_26 : decode cX10_occupancy 26 = .ok (.ifCond .ne 10, 3) := by decide +kernel
theorem dX10_occupancy_29 : decode cX10_occupancy 29 = .ok (.aload_n 0, 1) := by decide +kernel
theorem dX10_occupancy_30 : decode cX10_occupancy 30 = .ok (.iconst 2, 1) := by decide +kernel
theorem dX10_occupancy_31 : decode cX10_occupancy 31 = .ok (.invokevirtual 127, 3) := by decide +kernel
theorem dX10_occupancy_34 : decode cX10_occupancy 34 = .ok (.i2f, 1) := by decide +kernel
theorem dX10_occupancy_35 : decode cX10_occupancy 35 = .ok (.freturn, 1) := by decide +kernel
theorem dX10_occupancy_36 : decode cX10_occupancy 36 = .ok (.aload_n 0, 1) := by decide +kernel
theorem dX10_occupancy_37 : decode cX10_occupancy 37 = .ok (.getfield 37, 3) := by decide +kernel
theorem dX10_occupancy_40 : decode cX10_occupancy 40 = .ok (.iload_n 1, 1) := by decide +kernel
theorem dX10_occupancy_41 : decode cX10_occupancy 41 = .ok (.iaload, 1) := by decide +kernel
theorem dX10_occupancy_42 : decode cX10_occupancy 42 = .ok (.i2f, 1) := by decide +kernel
theorem dX10_occupancy_43 : decode cX10_occupancy 43 = .ok (.aload_n 0, 1) := by decide +kernel
theorem dX10_occupancy_44 : decode cX10_occupancy 44 = .ok (.getfield 31, 3) := by decide +kernel
theorem dX10_occupancy_47 : decode cX10_occupancy 47 = .ok (.iload_n 1, 1) := by decide +kernel
theorem dX10_occupancy_48 : decode cX10_occupancy 48 = .ok (.iaload, 1) := by decide +kernel
theorem dX10_occupancy_49 : decode cX10_occupancy 49 = .ok (.i2f, 1) := by decide +kernel
theorem dX10_occupancy_50 : decode cX10_occupancy 50 = .ok (.fdiv, 1) := by decide +kernel
theorem dX10_occupancy_51 : decode cX10_occupancy 51 = .ok (.freturn, 1) := by decide +kernel
theorem dX10_isEntry_0 : decode cX10_isEntry 0 = .ok (.iload_n 1, 1) := by decide +kernel
theorem dX10_isEntry_1 : decode cX10_isEntry 1 = .ok (.iconst 0, 1) := by decide +kernel
theorem dX10_isEntry_2 : decode cX10_isEntry 2 = .ok (.aload_n 0, 1) := by decide +kernel
theorem dX10_isEntry_3 : decode cX10_isEntry 3 = .ok (.getfield 202, 3) := by decide +kernel
theorem dX10_isEntry_6 : decode cX10_isEntry 6 = .ok (.iconst 1, 1) := by decide +kernel
theorem dX10_isEntry_7 : decode cX10_isEntry 7 = .ok (.isub, 1) := by decide +kernel
theorem dX10_isEntry_8 : decode cX10_isEntry 8 = .ok (.invokestatic 120, 3) := by decide +kernel
theorem dX10_isEntry_11 : decode cX10_isEntry 11 = .ok (.ireturn, 1) := by decide +kernel
theorem dX10_entries_0 : decode cX10_entries 0 = .ok (.aload_n 0, 1) := by decide +kernel
theorem dX10_entries_1 : decode cX10_entries 1 = .ok (.iconst 0, 1) := by decide +kernel
theorem dX10_entries_2 : decode cX10_entries 2 = .ok (.putfield 114, 3) := by decide +kernel
theorem dX10_entries_5 : decode cX10_entries 5 = .ok (.aload_n 0, 1) := by decide +kernel
theorem dX10_entries_6 : decode cX10_entries 6 = .ok (.getfield 202, 3) := by decide +kernel
theorem dX10_entries_9 : decode cX10_entries 9 = .ok (.ireturn, 1) := by decide +kernel
theorem dX10_entryBus_0 : decode cX10_entryBus 0 = .ok (.aload_n 0, 1) := by decide +kernel
theorem dX10_entryBus_1 : decode cX10_entryBus 1 = .ok (.iconst 0, 1) := by decide +kernel
theorem dX10_entryBus_2 : decode cX10_entryBus 2 = .ok (.putfield 114, 3) := by decide +kernel
theorem dX10_entryBus_5 : decode cX10_entryBus 5 = .ok (.aload_n 0, 1) := by decide +kernel
theorem dX10_entryBus_6 : decode cX10_entryBus 6 = .ok (.iload_n 1, 1) := by decide +kernel
theorem dX10_entryBus_7 : decode cX10_entryBus 7 = .ok (.invokevirtual 274, 3) := by decide +kernel
theorem dX10_entryBus_10 : decode cX10_entryBus 10 = .ok (.ifCond .eq 12, 3) := by decide +kernel
theorem dX10_entryBus_13 : decode cX10_entryBus 13 = .ok (.aload_n 0, 1) := by decide +kernel
theorem dX10_entryBus_14 : decode cX10_entryBus 14 = .ok (.getfield 83, 3) := by decide +kernel
theorem dX10_entryBus_17 : decode cX10_entryBus 17 = .ok (.iload_n 1, 1) := by decide +kernel
theorem dX10_entryBus_18 : decode cX10_entryBus 18 = .ok (.iaload, 1) := by decide +kernel
theorem dX10_entryBus_19 : decode cX10_entryBus 19 = .ok (.goto 8, 3) := by decide +kernel
theorem dX10_entryBus_22 : decode cX10_entryBus 22 = .ok (.aload_n 0, 1) := by decide +kernel
theorem dX10_entryBus_23 : decode cX10_entryBus 23 = .ok (.iconst 1, 1) := by decide +kernel
theorem dX10_entryBus_24 : decode cX10_entryBus 24 = .ok (.invokevirtual 127, 3) := by decide +kernel
theorem dX10_entryBus_27 : decode cX10_entryBus 27 = .ok (.ireturn, 1) := by decide +kernel
theorem dX10_entryRequest_0 : decode cX10_entryRequest 0 = .ok (.aload_n 0, 1) := by decide +kernel
theorem dX10_entryRequest_1 : decode cX10_entryRequest 1 = .ok (.iconst 0, 1) := by decide +kernel
theorem dX10_entryRequest_2 : decode cX10_entryRequest 2 = .ok (.putfield 114, 3) := by decide +kernel
theorem dX10_entryRequest_5 : decode cX10_entryRequest 5 = .ok (.aload_n 0, 1) := by decide +kernel
theorem dX10_entryRequest_6 : decode cX10_entryRequest 6 = .ok (.iload_n 1, 1) := by decide +kernel
theorem dX10_entryRequest_7 : decode cX10_entryRequest 7 = .ok (.invokevirtual 274, 3) := by decide +kernel
theorem dX10_entryRequest_10 : decode cX10_entryRequest 10 = .ok (.ifCond .eq 12, 3) := by decide +kernel
theorem dX10_entryRequest_13 : decode cX10_entryRequest 13 = .ok (.aload_n 0, 1) := by decide +kernel
theorem dX10_entryRequest_14 : decode cX10_entryRequest 14 = .ok (.getfield 86, 3) := by decide +kernel
theorem dX10_entryRequest_17 : decode cX10_entryRequest 17 = .ok (.iload_n 1, 1) := by decide +kernel
theorem dX10_entryRequest_18 : decode cX10_entryRequest 18 = .ok (.iaload, 1) := by decide +kernel
theorem dX10_entryRequest_19 : decode cX10_entryRequest 19 = .ok (.goto 8, 3) := by decide +kernel
theorem dX10_entryRequest_22 : decode cX10_entryRequest 22 = .ok (.aload_n 0, 1) := by decide +kernel
theorem dX10_entryRequest_23 : decode cX10_entryRequest 23 = .ok (.iconst 1, 1) := by decide +kernel
theorem dX10_entryRequest_24 : decode cX10_entryRequest 24 = .ok (.invokevirtual 127, 3) := by decide +kernel
theorem dX10_entryRequest_27 : decode cX10_entryRequest 27 = .ok (.ireturn, 1) := by decide +kernel
theorem dX10_entryTime_0 : decode cX10_entryTime 0 = .ok (.aload_n 0, 1) := by decide +kernel
theorem dX10_entryTime_1 : decode cX10_entryTime 1 = .ok (.iconst 0, 1) := by decide +kernel
theorem dX10_entryTime_2 : decode cX10_entryTime 2 = .ok (.putfield 114, 3) := by decide +kernel
theorem dX10_entryTime_5 : decode cX10_entryTime 5 = .ok (.aload_n 0, 1) := by decide +kernel
theorem dX10_entryTime_6 : decode cX10_entryTime 6 = .ok (.iload_n 1, 1) := by decide +kernel
theorem dX10_entryTime_7 : decode cX10_entryTime 7 = .ok (.invokevirtual 274, 3) := by decide +kernel
theorem dX10_entryTime_10 : decode cX10_entryTime 10 = .ok (.ifCond .eq 12, 3) := by decide +kernel
theorem dX10_entryTime_13 : decode cX10_entryTime 13 = .ok (.aload_n 0, 1) := by decide +kernel
theorem dX10_entryTime_14 : decode cX10_entryTime 14 = .ok (.getfield 89, 3) := by decide +kernel
theorem dX10_entryTime_17 : decode cX10_entryTime 17 = .ok (.iload_n 1, 1) := by decide +kernel
theorem dX10_entryTime_18 : decode cX10_entryTime 18 = .ok (.iaload, 1) := by decide +kernel
theorem dX10_entryTime_19 : decode cX10_entryTime 19 = .ok (.goto 8, 3) := by decide +kernel
theorem dX10_entryTime_22 : decode cX10_entryTime 22 = .ok (.aload_n 0, 1) := by decide +kernel
theorem dX10_entryTime_23 : decode cX10_entryTime 23 = .ok (.iconst 1, 1) := by decide +kernel
theorem dX10_entryTime_24 : decode cX10_entryTime 24 = .ok (.invokevirtual 127, 3) := by decide +kernel
theorem dX10_entryTime_27 : decode cX10_entryTime 27 = .ok (.ireturn, 1) := by decide +kernel
theorem dX10_entryDistance_0 : decode cX10_entryDistance 0 = .ok (.aload_n 0, 1) := by decide +kernel
theorem dX10_entryDistance_1 : decode cX10_entryDistance 1 = .ok (.iconst 0, 1) := by decide +kernel
theorem dX10_entryDistance_2 : decode cX10_entryDistance 2 = .ok (.putfield 114, 3) := by decide +kernel
theorem dX10_entryDistance_5 : decode cX10_entryDistance 5 = .ok (.aload_n 0, 1) := by decide +kernel
theorem dX10_entryDistance_6 : decode cX10_entryDistance 6 = .ok (.iload_n 1, 1) := by decide +kernel
theorem dX10_entryDistance_7 : decode cX10_entryDistance 7 = .ok (.invokevirtual 274, 3) := by decide +kernel
theorem dX10_entryDistance_10 : decode cX10_entryDistance 10 = .ok (.ifCond .eq 12, 3) := by decide +kernel
theorem dX10_entryDistance_13 : decode cX10_entryDistance 13 = .ok (.aload_n 0, 1) := by decide +kernel
theorem dX10_entryDistance_14 : decode cX10_entryDistance 14 = .ok (.getfield 92, 3) := by decide +kernel
theorem dX10_entryDistance_17 : decode cX10_entryDistance 17 = .ok (.iload_n 1, 1) := by decide +kernel
theorem dX10_entryDistance_18 : decode cX10_entryDistance 18 = .ok (.iaload, 1) := by decide +kernel
theorem dX10_entryDistance_19 : decode cX10_entryDistance 19 = .ok (.goto 8, 3) := by decide +kernel
theorem dX10_entryDistance_22 : decode cX10_entryDistance 22 = .ok (.aload_n 0, 1) := by decide +kernel
theorem dX10_entryDistance_23 : decode cX10_entryDistance 23 = .ok (.iconst 1, 1) := by decide +kernel
theorem dX10_entryDistance_24 : decode cX10_entryDistance 24 = .ok (.invokevirtual 127, 3) := by decide +kernel
theorem dX10_entryDistance_27 : decode cX10_entryDistance 27 = .ok (.ireturn, 1) := by decide +kernel
theorem dX10_worstRide_0 : decode cX10_worstRide 0 = .ok (.aload_n 0, 1) := by decide +kernel
theorem dX10_worstRide_1 : decode cX10_worstRide 1 = .ok (.iconst 0, 1) := by decide +kernel
theorem dX10_worstRide_2 : decode cX10_worstRide 2 = .ok (.putfield 114, 3) := by decide +kernel
theorem dX10_worstRide_5 : decode cX10_worstRide 5 = .ok (.iconst (-1), 1) := by decide +kernel
theorem dX10_worstRide_6 : decode cX10_worstRide 6 = .ok (.istore_n 1, 1) := by decide +kernel
theorem dX10_worstRide_7 : decode cX10_worstRide 7 = .ok (.iconst 0, 1) := by decide +kernel
theorem dX10_worstRide_8 : decode cX10_worstRide 8 = .ok (.istore_n 2, 1) := by decide +kernel
theorem dX10_worstRide_9 : decode cX10_worstRide 9 = .ok (.iload_n 2, 1) := by decide +kernel
theorem dX10_worstRide_10 : decode cX10_worstRide 10 = .ok (.aload_n 0, 1) := by decide +kernel
theorem dX10_worstRide_11 : decode cX10_worstRide 11 = .ok (.getfield 124, 3) := by decide +kernel
theorem dX10_worstRide_14 : decode cX10_worstRide 14 = .ok (.if_icmp .ge 66, 3) := by decide +kernel
theorem dX10_worstRide_17 : decode cX10_worstRide 17 = .ok (.aload_n 0, 1) := by decide +kernel
theorem dX10_worstRide_18 : decode cX10_worstRide 18 = .ok (.getfield 76, 3) := by decide +kernel
theorem dX10_worstRide_21 : decode cX10_worstRide 21 = .ok (.iload_n 2, 1) := by decide +kernel
theorem dX10_worstRide_22 : decode cX10_worstRide 22 = .ok (.caload, 1) := by decide +kernel
theorem dX10_worstRide_23 : decode cX10_worstRide 23 = .ok (.bipush 100, 2) := by decide +kernel
theorem dX10_worstRide_25 : decode cX10_worstRide 25 = .ok (.if_icmp .ne 49, 3) := by decide +kernel
theorem dX10_worstRide_28 : decode cX10_worstRide 28 = .ok (.iload_n 1, 1) := by decide +kernel
theorem dX10_worstRide_29 : decode cX10_worstRide 29 = .ok (.aload_n 0, 1) := by decide +kernel
theorem dX10_worstRide_30 : decode cX10_worstRide 30 = .ok (.getfield 73, 3) := by decide +kernel
theorem dX10_worstRide_33 : decode cX10_worstRide 33 = .ok (.iload_n 2, 1) := by decide +kernel
theorem dX10_worstRide_34 : decode cX10_worstRide 34 = .ok (.iaload, 1) := by decide +kernel
theorem dX10_worstRide_35 : decode cX10_worstRide 35 = .ok (.aload_n 0, 1) := by decide +kernel
theorem dX10_worstRide_36 : decode cX10_worstRide 36 = .ok (.getfield 70, 3) := by decide +kernel
theorem dX10_worstRide_39 : decode cX10_worstRide 39 = .ok (.iload_n 2, 1) := by decide +kernel
theorem dX10_worstRide_40 : decode cX10_worstRide 40 = .ok (.iaload, 1) := by decide +kernel
theorem dX10_worstRide_41 : decode cX10_worstRide 41 = .ok (.isub, 1) := by decide +kernel
theorem dX10_worstRide_42 : decode cX10_worstRide 42 = .ok (.aload_n 0, 1) := by decide +kernel
theorem dX10_worstRide_43 : decode cX10_worstRide 43 = .ok (.getfield 46, 3) := by decide +kernel
theorem dX10_worstRide_46 : decode cX10_worstRide 46 = .ok (.iload_n 2, 1) := by decide +kernel
theorem dX10_worstRide_47 : decode cX10_worstRide 47 = .ok (.iaload, 1) := by decide +kernel
theorem dX10_worstRide_48 : decode cX10_worstRide 48 = .ok (.aload_n 0, 1) := by decide +kernel
theorem dX10_worstRide_49 : decode cX10_worstRide 49 = .ok (.getfield 49, 3) := by decide +kernel
theorem dX10_worstRide_52 : decode cX10_worstRide 52 = .ok (.iload_n 2, 1) := by decide +kernel
theorem dX10_worstRide_53 : decode cX10_worstRide 53 = .ok (.iaload, 1) := by decide +kernel
theorem dX10_worstRide_54 : decode cX10_worstRide 54 = .ok (.aload_n 0, 1) := by decide +kernel
theorem dX10_worstRide_55 : decode cX10_worstRide 55 = .ok (.getfield 52, 3) := by decide +kernel
theorem dX10_worstRide_58 : decode cX10_worstRide 58 = .ok (.iload_n 2, 1) := by decide +kernel
theorem dX10_worstRide_59 : decode cX10_worstRide 59 = .ok (.iaload, 1) := by decide +kernel
theorem dX10_worstRide_60 : decode cX10_worstRide 60 = .ok (.aload_n 0, 1) := by decide +kernel
theorem dX10_worstRide_61 : decode cX10_worstRide 61 = .ok (.getfield 55, 3) := by decide +kernel
theorem dX10_worstRide_64 : decode cX10_worstRide 64 = .ok (.iload_n 2, 1) := by decide +kernel
theorem dX10_worstRide_65 : decode cX10_worstRide 65 = .ok (.iaload, 1) := by decide +kernel
theorem dX10_worstRide_66 : decode cX10_worstRide 66 = .ok (.invokestatic 153, 3) := by decide +kernel
theorem dX10_worstRide_69 : decode cX10_worstRide 69 = .ok (.isub, 1) := by decide +kernel
theorem dX10_worstRide_70 : decode cX10_worstRide 70 = .ok (.invokestatic 189, 3) := by decide +kernel
theorem dX10_worstRide_73 : decode cX10_worstRide 73 = .ok (.istore_n 1, 1) := by decide +kernel
theorem dX10_worstRide_74 : decode cX10_worstRide 74 = .ok (.iinc 2 1, 3) := by decide +kernel
theorem dX10_worstRide_77 : decode cX10_worstRide 77 = .ok (.goto (-68), 3) := by decide +kernel
theorem dX10_worstRide_80 : decode cX10_worstRide 80 = .ok (.iload_n 1, 1) := by decide +kernel
theorem dX10_worstRide_81 : decode cX10_worstRide 81 = .ok (.ifCond .ge 11, 3) := by decide +kernel
theorem dX10_worstRide_84 : decode cX10_worstRide 84 = .ok (.aload_n 0, 1) := by decide +kernel
theorem dX10_worstRide_85 : decode cX10_worstRide 85 = .ok (.iconst 1, 1) := by decide +kernel
theorem dX10_worstRide_86 : decode cX10_worstRide 86 = .ok (.invokevirtual 127, 3) := by decide +kernel
theorem dX10_worstRide_89 : decode cX10_worstRide 89 = .ok (.goto 4, 3) := by decide +kernel
theorem dX10_worstRide_92 : decode cX10_worstRide 92 = .ok (.iload_n 1, 1) := by decide +kernel
theorem dX10_worstRide_93 : decode cX10_worstRide 93 = .ok (.ireturn, 1) := by decide +kernel
theorem dJ9_abs_0f7a4_0 : decode cJ9_abs_0f7a4 0 = .ok (.iload_n 0, 1) := by decide +kernel
theorem dJ9_abs_0f7a4_1 : decode cJ9_abs_0f7a4 1 = .ok (.ifCond .ge 8, 3) := by decide +kernel
theorem dJ9_abs_0f7a4_4 : decode cJ9_abs_0f7a4 4 = .ok (.iload_n 0, 1) := by decide +kernel
theorem dJ9_abs_0f7a4_5 : decode cJ9_abs_0f7a4 5 = .ok (.ineg, 1) := by decide +kernel
theorem dJ9_abs_0f7a4_6 : decode cJ9_abs_0f7a4 6 = .ok (.goto 4, 3) := by decide +kernel
theorem dJ9_abs_0f7a4_9 : decode cJ9_abs_0f7a4 9 = .ok (.iload_n 0, 1) := by decide +kernel
theorem dJ9_abs_0f7a4_10 : decode cJ9_abs_0f7a4 10 = .ok (.ireturn, 1) := by decide +kernel
theorem dJ9_max_7cf53_0 : decode cJ9_max_7cf53 0 = .ok (.iload_n 0, 1) := by decide +kernel
theorem dJ9_max_7cf53_1 : decode cJ9_max_7cf53 1 = .ok (.iload_n 1, 1) := by decide +kernel
theorem dJ9_max_7cf53_2 : decode cJ9_max_7cf53 2 = .ok (.if_icmp .lt 7, 3) := by decide +kernel
theorem dJ9_max_7cf53_5 : decode cJ9_max_7cf53 5 = .ok (.iload_n 0, 1) := by decide +kernel
theorem dJ9_max_7cf53_6 : decode cJ9_max_7cf53 6 = .ok (.goto 4, 3) := by decide +kernel
theorem dJ9_max_7cf53_9 : decode cJ9_max_7cf53 9 = .ok (.iload_n 1, 1) := by decide +kernel
theorem dJ9_max_7cf53_10 : decode cJ9_max_7cf53 10 = .ok (.ireturn, 1) := by decide +kernel
theorem dJ9_min_7cf53_0 : decode cJ9_min_7cf53 0 = .ok (.iload_n 0, 1) := by decide +kernel
theorem dJ9_min_7cf53_1 : decode cJ9_min_7cf53 1 = .ok (.iload_n 1, 1) := by decide +kernel
theorem dJ9_min_7cf53_2 : decode cJ9_min_7cf53 2 = .ok (.if_icmp .gt 7, 3) := by decide +kernel
theorem dJ9_min_7cf53_5 : decode cJ9_min_7cf53 5 = .ok (.iload_n 0, 1) := by decide +kernel
theorem dJ9_min_7cf53_6 : decode cJ9_min_7cf53 6 = .ok (.goto 4, 3) := by decide +kernel
theorem dJ9_min_7cf53_9 : decode cJ9_min_7cf53 9 = .ok (.iload_n 1, 1) := by decide +kernel
theorem dJ9_min_7cf53_10 : decode cJ9_min_7cf53 10 = .ok (.ireturn, 1) := by decide +kernel
theorem dJxa1e45_init_da8c8_0 : decode cJxa1e45_init_da8c8 0 = .ok (.aload_n 0, 1) := by decide +kernel
theorem dJxa1e45_init_da8c8_1 : decode cJxa1e45_init_da8c8 1 = .ok (.invokespecial 1, 3) := by decide +kernel
theorem dJxa1e45_init_da8c8_4 : decode cJxa1e45_init_da8c8 4 = .ok (.return_, 1) := by decide +kernel
theorem dJxc12de_init_da8c8_0 : decode cJxc12de_init_da8c8 0 = .ok (.aload_n 0, 1) := by decide +kernel
theorem dJxc12de_init_da8c8_1 : decode cJxc12de_init_da8c8 1 = .ok (.invokespecial 1, 3) := by decide +kernel
theorem dJxc12de_init_da8c8_4 : decode cJxc12de_init_da8c8 4 = .ok (.aload_n 0, 1) := by decide +kernel
theorem dJxc12de_init_da8c8_5 : decode cJxc12de_init_da8c8 5 = .ok (.iconst 0, 1) := by decide +kernel
theorem dJxc12de_init_da8c8_6 : decode cJxc12de_init_da8c8 6 = .ok (.putfield 7, 3) := by decide +kernel
theorem dJxc12de_init_da8c8_9 : decode cJxc12de_init_da8c8 9 = .ok (.return_, 1) := by decide +kernel
theorem dJx4a65c_init_da8c8_0 : decode cJx4a65c_init_da8c8 0 = .ok (.aload_n 0, 1) := by decide +kernel
theorem dJx4a65c_init_da8c8_1 : decode cJx4a65c_init_da8c8 1 = .ok (.invokespecial 1, 3) := by decide +kernel
theorem dJx4a65c_init_da8c8_4 : decode cJx4a65c_init_da8c8 4 = .ok (.aload_n 0, 1) := by decide +kernel
theorem dJx4a65c_init_da8c8_5 : decode cJx4a65c_init_da8c8 5 = .ok (.getstatic 39, 3) := by decide +kernel
theorem dJx4a65c_init_da8c8_8 : decode cJx4a65c_init_da8c8 8 = .ok (.putfield 9, 3) := by decide +kernel
theorem dJx4a65c_init_da8c8_11 : decode cJx4a65c_init_da8c8 11 = .ok (.return_, 1) := by decide +kernel
theorem dJx4a65c_grow_92f84_0 : decode cJx4a65c_grow_92f84 0 = .ok (.aload_n 0, 1) := by decide +kernel
theorem dJx4a65c_grow_92f84_1 : decode cJx4a65c_grow_92f84 1 = .ok (.getfield 9, 3) := by decide +kernel
theorem dJx4a65c_grow_92f84_4 : decode cJx4a65c_grow_92f84 4 = .ok (.arraylength, 1) := by decide +kernel
theorem dJx4a65c_grow_92f84_5 : decode cJx4a65c_grow_92f84 5 = .ok (.istore_n 2, 1) := by decide +kernel
theorem dJx4a65c_grow_92f84_6 : decode cJx4a65c_grow_92f84 6 = .ok (.iload_n 2, 1) := by decide +kernel
theorem dJx4a65c_grow_92f84_7 : decode cJx4a65c_grow_92f84 7 = .ok (.ifCond .gt 13, 3) := by decide +kernel
theorem dJx4a65c_grow_92f84_10 : decode cJx4a65c_grow_92f84 10 = .ok (.aload_n 0, 1) := by decide +kernel
theorem dJx4a65c_grow_92f84_11 : decode cJx4a65c_grow_92f84 11 = .ok (.getfield 9, 3) := by decide +kernel
theorem dJx4a65c_grow_92f84_14 : decode cJx4a65c_grow_92f84 14 = .ok (.getstatic 39, 3) := by decide +kernel
theorem dJx4a65c_grow_92f84_17 : decode cJx4a65c_grow_92f84 17 = .ok (.if_acmp .eq 28, 3) := by decide +kernel
theorem dJx4a65c_grow_92f84_20 : decode cJx4a65c_grow_92f84 20 = .ok (.iload_n 2, 1) := by decide +kernel
theorem dJx4a65c_grow_92f84_21 : decode cJx4a65c_grow_92f84 21 = .ok (.iload_n 1, 1) := by decide +kernel
theorem dJx4a65c_grow_92f84_22 : decode cJx4a65c_grow_92f84 22 = .ok (.iload_n 2, 1) := by decide +kernel
theorem dJx4a65c_grow_92f84_23 : decode cJx4a65c_grow_92f84 23 = .ok (.isub, 1) := by decide +kernel
theorem dJx4a65c_grow_92f84_24 : decode cJx4a65c_grow_92f84 24 = .ok (.iload_n 2, 1) := by decide +kernel
theorem dJx4a65c_grow_92f84_25 : decode cJx4a65c_grow_92f84 25 = .ok (.iconst 1, 1) := by decide +kernel
theorem dJx4a65c_grow_92f84_26 : decode cJx4a65c_grow_92f84 26 = .ok (.ishr, 1) := by decide +kernel
theorem dJx4a65c_grow_92f84_27 : decode cJx4a65c_grow_92f84 27 = .ok (.invokestatic 73, 3) := by decide +kernel
theorem dJx4a65c_grow_92f84_30 : decode cJx4a65c_grow_92f84 30 = .ok (.istore_n 3, 1) := by decide +kernel
theorem dJx4a65c_grow_92f84_31 : decode cJx4a65c_grow_92f84 31 = .ok (.aload_n 0, 1) := by decide +kernel
theorem dJx4a65c_grow_92f84_32 : decode cJx4a65c_grow_92f84 32 = .ok (.aload_n 0, 1) := by decide +kernel
theorem dJx4a65c_grow_92f84_33 : decode cJx4a65c_grow_92f84 33 = .ok (.getfield 9, 3) := by decide +kernel
theorem dJx4a65c_grow_92f84_36 : decode cJx4a65c_grow_92f84 36 = .ok (.iload_n 3, 1) := by decide +kernel
theorem dJx4a65c_grow_92f84_37 : decode cJx4a65c_grow_92f84 37 = .ok (.invokestatic 66, 3) := by decide +kernel
theorem dJx4a65c_grow_92f84_40 : decode cJx4a65c_grow_92f84 40 = .ok (.dup_x1, 1) := by decide +kernel
theorem dJx4a65c_grow_92f84_41 : decode cJx4a65c_grow_92f84 41 = .ok (.putfield 9, 3) := by decide +kernel
theorem dJx4a65c_grow_92f84_44 : decode cJx4a65c_grow_92f84 44 = .ok (.areturn, 1) := by decide +kernel
theorem dJx4a65c_grow_92f84_45 : decode cJx4a65c_grow_92f84 45 = .ok (.aload_n 0, 1) := by decide +kernel
theorem dJx4a65c_grow_92f84_46 : decode cJx4a65c_grow_92f84 46 = .ok (.bipush 10, 2) := by decide +kernel
theorem dJx4a65c_grow_92f84_48 : decode cJx4a65c_grow_92f84 48 = .ok (.iload_n 1, 1) := by decide +kernel
theorem dJx4a65c_grow_92f84_49 : decode cJx4a65c_grow_92f84 49 = .ok (.invokestatic 79, 3) := by decide +kernel
theorem dJx4a65c_grow_92f84_52 : decode cJx4a65c_grow_92f84 52 = .ok (.anewarray 7, 3) := by decide +kernel
theorem dJx4a65c_grow_92f84_55 : decode cJx4a65c_grow_92f84 55 = .ok (.dup_x1, 1) := by decide +kernel
theorem dJx4a65c_grow_92f84_56 : decode cJx4a65c_grow_92f84 56 = .ok (.putfield 9, 3) := by decide +kernel
theorem dJx4a65c_grow_92f84_59 : decode cJx4a65c_grow_92f84 59 = .ok (.areturn, 1) := by decide +kernel
theorem dJx4a65c_grow_d5877_0 : decode cJx4a65c_grow_d5877 0 = .ok (.aload_n 0, 1) := by decide +kernel
theorem dJx4a65c_grow_d5877_1 : decode cJx4a65c_grow_d5877 1 = .ok (.aload_n 0, 1) := by decide +kernel
theorem dJx4a65c_grow_d5877_2 : decode cJx4a65c_grow_d5877 2 = .ok (.getfield 48, 3) := by decide +kernel
theorem dJx4a65c_grow_d5877_5 : decode cJx4a65c_grow_d5877 5 = .ok (.iconst 1, 1) := by decide +kernel
theorem dJx4a65c_grow_d5877_6 : decode cJx4a65c_grow_d5877 6 = .ok (.iadd, 1) := by decide +kernel
theorem dJx4a65c_grow_d5877_7 : decode cJx4a65c_grow_d5877 7 = .ok (.invokevirtual 69, 3) := by decide +kernel
theorem dJx4a65c_grow_d5877_10 : decode cJx4a65c_grow_d5877 10 = .ok (.areturn, 1) := by decide +kernel
theorem dJx4a65c_size_8abf5_0 : decode cJx4a65c_size_8abf5 0 = .ok (.aload_n 0, 1) := by decide +kernel
theorem dJx4a65c_size_8abf5_1 : decode cJx4a65c_size_8abf5 1 = .ok (.getfield 48, 3) := by decide +kernel
theorem dJx4a65c_size_8abf5_4 : decode cJx4a65c_size_8abf5 4 = .ok (.ireturn, 1) := by decide +kernel
theorem dJx4a65c_elementData_915e3_0 : decode cJx4a65c_elementData_915e3 0 = .ok (.aload_n 0, 1) := by decide +kernel
theorem dJx4a65c_elementData_915e3_1 : decode cJx4a65c_elementData_915e3 1 = .ok (.getfield 9, 3) := by decide +kernel
theorem dJx4a65c_elementData_915e3_4 : decode cJx4a65c_elementData_915e3 4 = .ok (.iload_n 1, 1) := by decide +kernel
theorem dJx4a65c_elementData_915e3_5 : decode cJx4a65c_elementData_915e3 5 = .ok (.aaload, 1) := by decide +kernel
theorem dJx4a65c_elementData_915e3_6 : decode cJx4a65c_elementData_915e3 6 = .ok (.areturn, 1) := by decide +kernel
theorem dJx4a65c_get_915e3_0 : decode cJx4a65c_get_915e3 0 = .ok (.iload_n 1, 1) := by decide +kernel
theorem dJx4a65c_get_915e3_1 : decode cJx4a65c_get_915e3 1 = .ok (.aload_n 0, 1) := by decide +kernel
theorem dJx4a65c_get_915e3_2 : decode cJx4a65c_get_915e3 2 = .ok (.getfield 48, 3) := by decide +kernel
theorem dJx4a65c_get_915e3_5 : decode cJx4a65c_get_915e3 5 = .ok (.invokestatic 118, 3) := by decide +kernel
theorem dJx4a65c_get_915e3_8 : decode cJx4a65c_get_915e3 8 = .ok (.pop, 1) := by decide +kernel
theorem dJx4a65c_get_915e3_9 : decode cJx4a65c_get_915e3 9 = .ok (.aload_n 0, 1) := by decide +kernel
theorem dJx4a65c_get_915e3_10 : decode cJx4a65c_get_915e3 10 = .ok (.iload_n 1, 1) := by decide +kernel
theorem dJx4a65c_get_915e3_11 : decode cJx4a65c_get_915e3 11 = .ok (.invokevirtual 123, 3) := by decide +kernel
theorem dJx4a65c_get_915e3_14 : decode cJx4a65c_get_915e3 14 = .ok (.areturn, 1) := by decide +kernel
theorem dJx4a65c_add_72be8_0 : decode cJx4a65c_add_72be8 0 = .ok (.iload_n 3, 1) := by decide +kernel
theorem dJx4a65c_add_72be8_1 : decode cJx4a65c_add_72be8 1 = .ok (.aload_n 2, 1) := by decide +kernel
theorem dJx4a65c_add_72be8_2 : decode cJx4a65c_add_72be8 2 = .ok (.arraylength, 1) := by decide +kernel
theorem dJx4a65c_add_72be8_3 : decode cJx4a65c_add_72be8 3 = .ok (.if_icmp .ne 8, 3) := by decide +kernel
theorem dJx4a65c_add_72be8_6 : decode cJx4a65c_add_72be8 6 = .ok (.aload_n 0, 1) := by decide +kernel
theorem dJx4a65c_add_72be8_7 : decode cJx4a65c_add_72be8 7 = .ok (.invokevirtual 129, 3) := by decide +kernel
theorem dJx4a65c_add_72be8_10 : decode cJx4a65c_add_72be8 10 = .ok (.astore_n 2, 1) := by decide +kernel
theorem dJx4a65c_add_72be8_11 : decode cJx4a65c_add_72be8 11 = .ok (.aload_n 2, 1) := by decide +kernel
theorem dJx4a65c_add_72be8_12 : decode cJx4a65c_add_72be8 12 = .ok (.iload_n 3, 1) := by decide +kernel
theorem dJx4a65c_add_72be8_13 : decode cJx4a65c_add_72be8 13 = .ok (.aload_n 1, 1) := by decide +kernel
theorem dJx4a65c_add_72be8_14 : decode cJx4a65c_add_72be8 14 = .ok (.aastore, 1) := by decide +kernel
theorem dJx4a65c_add_72be8_15 : decode cJx4a65c_add_72be8 15 = .ok (.aload_n 0, 1) := by decide +kernel
theorem dJx4a65c_add_72be8_16 : decode cJx4a65c_add_72be8 16 = .ok (.iload_n 3, 1) := by decide +kernel
theorem dJx4a65c_add_72be8_17 : decode cJx4a65c_add_72be8 17 = .ok (.iconst 1, 1) := by decide +kernel
theorem dJx4a65c_add_72be8_18 : decode cJx4a65c_add_72be8 18 = .ok (.iadd, 1) := by decide +kernel
theorem dJx4a65c_add_72be8_19 : decode cJx4a65c_add_72be8 19 = .ok (.putfield 48, 3) := by decide +kernel
theorem dJx4a65c_add_72be8_22 : decode cJx4a65c_add_72be8 22 = .ok (.return_, 1) := by decide +kernel
theorem dJx4a65c_add_9ea2d_0 : decode cJx4a65c_add_9ea2d 0 = .ok (.aload_n 0, 1) := by decide +kernel
theorem dJx4a65c_add_9ea2d_1 : decode cJx4a65c_add_9ea2d 1 = .ok (.dup, 1) := by decide +kernel
theorem dJx4a65c_add_9ea2d_2 : decode cJx4a65c_add_9ea2d 2 = .ok (.getfield 63, 3) := by decide +kernel
theorem dJx4a65c_add_9ea2d_5 : decode cJx4a65c_add_9ea2d 5 = .ok (.iconst 1, 1) := by decide +kernel
theorem dJx4a65c_add_9ea2d_6 : decode cJx4a65c_add_9ea2d 6 = .ok (.iadd, 1) := by decide +kernel
theorem dJx4a65c_add_9ea2d_7 : decode cJx4a65c_add_9ea2d 7 = .ok (.putfield 63, 3) := by decide +kernel
theorem dJx4a65c_add_9ea2d_10 : decode cJx4a65c_add_9ea2d 10 = .ok (.aload_n 0, 1) := by decide +kernel
theorem dJx4a65c_add_9ea2d_11 : decode cJx4a65c_add_9ea2d 11 = .ok (.aload_n 1, 1) := by decide +kernel
theorem dJx4a65c_add_9ea2d_12 : decode cJx4a65c_add_9ea2d 12 = .ok (.aload_n 0, 1) := by decide +kernel
theorem dJx4a65c_add_9ea2d_13 : decode cJx4a65c_add_9ea2d 13 = .ok (.getfield 9, 3) := by decide +kernel
theorem dJx4a65c_add_9ea2d_16 : decode cJx4a65c_add_9ea2d 16 = .ok (.aload_n 0, 1) := by decide +kernel
theorem dJx4a65c_add_9ea2d_17 : decode cJx4a65c_add_9ea2d 17 = .ok (.getfield 48, 3) := by decide +kernel
theorem dJx4a65c_add_9ea2d_20 : decode cJx4a65c_add_9ea2d 20 = .ok (.invokevirtual 131, 3) := by decide +kernel
theorem dJx4a65c_add_9ea2d_23 : decode cJx4a65c_add_9ea2d 23 = .ok (.iconst 1, 1) := by decide +kernel
theorem dJx4a65c_add_9ea2d_24 : decode cJx4a65c_add_9ea2d 24 = .ok (.ireturn, 1) := by decide +kernel
theorem dJ7_copyOf_1904c_0 : decode cJ7_copyOf_1904c 0 = .ok (.aload_n 0, 1) := by decide +kernel
theorem dJ7_copyOf_1904c_1 : decode cJ7_copyOf_1904c 1 = .ok (.iload_n 1, 1) := by decide +kernel
theorem dJ7_copyOf_1904c_2 : decode cJ7_copyOf_1904c 2 = .ok (.aload_n 0, 1) := by decide +kernel
theorem dJ7_copyOf_1904c_3 : decode cJ7_copyOf_1904c 3 = .ok (.invokevirtual 86, 3) := by decide +kernel
theorem dJ7_copyOf_1904c_6 : decode cJ7_copyOf_1904c 6 = .ok (.invokestatic 300, 3) := by decide +kernel
theorem dJ7_copyOf_1904c_9 : decode cJ7_copyOf_1904c 9 = .ok (.areturn, 1) := by decide +kernel
theorem dJ7_copyOf_6403c_0 : decode cJ7_copyOf_6403c 0 = .ok (.aload_n 2, 1) := by decide +kernel
theorem dJ7_copyOf_6403c_1 : decode cJ7_copyOf_6403c 1 = .ok (.ldc 110, 2) := by decide +kernel
theorem dJ7_copyOf_6403c_3 : decode cJ7_copyOf_6403c 3 = .ok (.if_acmp .ne 10, 3) := by decide +kernel
theorem dJ7_copyOf_6403c_6 : decode cJ7_copyOf_6403c 6 = .ok (.iload_n 1, 1) := by decide +kernel
theorem dJ7_copyOf_6403c_7 : decode cJ7_copyOf_6403c 7 = .ok (.anewarray 2, 3) := by decide +kernel
theorem dJ7_copyOf_6403c_10 : decode cJ7_copyOf_6403c 10 = .ok (.goto 14, 3) := by decide +kernel
theorem dJ7_copyOf_6403c_13 : decode cJ7_copyOf_6403c 13 = .ok (.aload_n 2, 1) := by decide +kernel
theorem dJ7_copyOf_6403c_14 : decode cJ7_copyOf_6403c 14 = .ok (.invokevirtual 90, 3) := by decide +kernel
theorem dJ7_copyOf_6403c_17 : decode cJ7_copyOf_6403c 17 = .ok (.iload_n 1, 1) := by decide +kernel
theorem dJ7_copyOf_6403c_18 : decode cJ7_copyOf_6403c 18 = .ok (.invokestatic 95, 3) := by decide +kernel
theorem dJ7_copyOf_6403c_21 : decode cJ7_copyOf_6403c 21 = .ok (.checkcast 110, 3) := by decide +kernel
theorem dJ7_copyOf_6403c_24 : decode cJ7_copyOf_6403c 24 = .ok (.astore_n 3, 1) := by decide +kernel
theorem dJ7_copyOf_6403c_25 : decode cJ7_copyOf_6403c 25 = .ok (.aload_n 0, 1) := by decide +kernel
theorem dJ7_copyOf_6403c_26 : decode cJ7_copyOf_6403c 26 = .ok (.iconst 0, 1) := by decide +kernel
theorem dJ7_copyOf_6403c_27 : decode cJ7_copyOf_6403c 27 = .ok (.aload_n 3, 1) := by decide +kernel
theorem dJ7_copyOf_6403c_28 : decode cJ7_copyOf_6403c 28 = .ok (.iconst 0, 1) := by decide +kernel
theorem dJ7_copyOf_6403c_29 : decode cJ7_copyOf_6403c 29 = .ok (.aload_n 0, 1) := by decide +kernel
theorem dJ7_copyOf_6403c_30 : decode cJ7_copyOf_6403c 30 = .ok (.arraylength, 1) := by decide +kernel
theorem dJ7_copyOf_6403c_31 : decode cJ7_copyOf_6403c 31 = .ok (.iload_n 1, 1) := by decide +kernel
theorem dJ7_copyOf_6403c_32 : decode cJ7_copyOf_6403c 32 = .ok (.invokestatic 304, 3) := by decide +kernel
theorem dJ7_copyOf_6403c_35 : decode cJ7_copyOf_6403c 35 = .ok (.invokestatic 150, 3) := by decide +kernel
theorem dJ7_copyOf_6403c_38 : decode cJ7_copyOf_6403c 38 = .ok (.aload_n 3, 1) := by decide +kernel
theorem dJ7_copyOf_6403c_39 : decode cJ7_copyOf_6403c 39 = .ok (.areturn, 1) := by decide +kernel
theorem dJ15_checkIndex_7cf53_0 : decode cJ15_checkIndex_7cf53 0 = .ok (.iload_n 0, 1) := by decide +kernel
theorem dJ15_checkIndex_7cf53_1 : decode cJ15_checkIndex_7cf53 1 = .ok (.iload_n 1, 1) := by decide +kernel
theorem dJ15_checkIndex_7cf53_2 : decode cJ15_checkIndex_7cf53 2 = .ok (.aconst_null, 1) := by decide +kernel
theorem dJ15_checkIndex_7cf53_3 : decode cJ15_checkIndex_7cf53 3 = .ok (.invokestatic 105, 3) := by decide +kernel
theorem dJ15_checkIndex_7cf53_6 : decode cJ15_checkIndex_7cf53 6 = .ok (.ireturn, 1) := by decide +kernel
theorem dJ8_newLength_cabcc_0 : decode cJ8_newLength_cabcc 0 = .ok (.iload_n 0, 1) := by decide +kernel
theorem dJ8_newLength_cabcc_1 : decode cJ8_newLength_cabcc 1 = .ok (.iload_n 1, 1) := by decide +kernel
theorem dJ8_newLength_cabcc_2 : decode cJ8_newLength_cabcc 2 = .ok (.iload_n 2, 1) := by decide +kernel
theorem dJ8_newLength_cabcc_3 : decode cJ8_newLength_cabcc 3 = .ok (.invokestatic 194, 3) := by decide +kernel
theorem dJ8_newLength_cabcc_6 : decode cJ8_newLength_cabcc 6 = .ok (.iadd, 1) := by decide +kernel
theorem dJ8_newLength_cabcc_7 : decode cJ8_newLength_cabcc 7 = .ok (.istore_n 3, 1) := by decide +kernel
theorem dJ8_newLength_cabcc_8 : decode cJ8_newLength_cabcc 8 = .ok (.iconst 0, 1) := by decide +kernel
theorem dJ8_newLength_cabcc_9 : decode cJ8_newLength_cabcc 9 = .ok (.iload_n 3, 1) := by decide +kernel
theorem dJ8_newLength_cabcc_10 : decode cJ8_newLength_cabcc 10 = .ok (.if_icmp .ge 11, 3) := by decide +kernel
theorem dJ8_newLength_cabcc_13 : decode cJ8_newLength_cabcc 13 = .ok (.iload_n 3, 1) := by decide +kernel
theorem dJ8_newLength_cabcc_14 : decode cJ8_newLength_cabcc 14 = .ok (.ldc 200, 2) := by decide +kernel
theorem dJ8_newLength_cabcc_16 : decode cJ8_newLength_cabcc 16 = .ok (.if_icmp .gt 5, 3) := by decide +kernel
theorem dJ8_newLength_cabcc_19 : decode cJ8_newLength_cabcc 19 = .ok (.iload_n 3, 1) := by decide +kernel
theorem dJ8_newLength_cabcc_20 : decode cJ8_newLength_cabcc 20 = .ok (.ireturn, 1) := by decide +kernel
theorem dJ8_newLength_cabcc_21 : decode cJ8_newLength_cabcc 21 = .ok (.iload_n 0, 1) := by decide +kernel
theorem dJ8_newLength_cabcc_22 : decode cJ8_newLength_cabcc 22 = .ok (.iload_n 1, 1) := by decide +kernel
theorem dJ8_newLength_cabcc_23 : decode cJ8_newLength_cabcc 23 = .ok (.invokestatic 201, 3) := by decide +kernel
theorem dJ8_newLength_cabcc_26 : decode cJ8_newLength_cabcc 26 = .ok (.ireturn, 1) := by decide +kernel
theorem dJ8_hugeLength_7cf53_0 : decode cJ8_hugeLength_7cf53 0 = .ok (.iload_n 0, 1) := by decide +kernel
theorem dJ8_hugeLength_7cf53_1 : decode cJ8_hugeLength_7cf53 1 = .ok (.iload_n 1, 1) := by decide +kernel
theorem dJ8_hugeLength_7cf53_2 : decode cJ8_hugeLength_7cf53 2 = .ok (.iadd, 1) := by decide +kernel
theorem dJ8_hugeLength_7cf53_3 : decode cJ8_hugeLength_7cf53 3 = .ok (.istore_n 2, 1) := by decide +kernel
theorem dJ8_hugeLength_7cf53_4 : decode cJ8_hugeLength_7cf53 4 = .ok (.iload_n 2, 1) := by decide +kernel
theorem dJ8_hugeLength_7cf53_5 : decode cJ8_hugeLength_7cf53 5 = .ok (.ifCond .ge 44, 3) := by decide +kernel
theorem dJ8_hugeLength_7cf53_8 : decode cJ8_hugeLength_7cf53 8 = .ok (.new 204, 3) := by decide +kernel
theorem dJ8_hugeLength_7cf53_11 : decode cJ8_hugeLength_7cf53 11 = .ok (.dup, 1) := by decide +kernel
theorem dJ8_hugeLength_7cf53_12 : decode cJ8_hugeLength_7cf53 12 = .ok (.new 89, 3) := by decide +kernel
theorem dJ8_hugeLength_7cf53_15 : decode cJ8_hugeLength_7cf53 15 = .ok (.dup, 1) := by decide +kernel
theorem dJ8_hugeLength_7cf53_16 : decode cJ8_hugeLength_7cf53 16 = .ok (.invokespecial 91, 3) := by decide +kernel
theorem dJ8_hugeLength_7cf53_19 : decode cJ8_hugeLength_7cf53 19 = .ok (.ldc 206, 2) := by decide +kernel
theorem dJ8_hugeLength_7cf53_21 : decode cJ8_hugeLength_7cf53 21 = .ok (.invokevirtual 94, 3) := by decide +kernel
theorem dJ8_hugeLength_7cf53_24 : decode cJ8_hugeLength_7cf53 24 = .ok (.iload_n 0, 1) := by decide +kernel
theorem dJ8_hugeLength_7cf53_25 : decode cJ8_hugeLength_7cf53 25 = .ok (.invokevirtual 98, 3) := by decide +kernel
theorem dJ8_hugeLength_7cf53_28 : decode cJ8_hugeLength_7cf53 28 = .ok (.ldc 208, 2) := by decide +kernel
theorem dJ8_hugeLength_7cf53_30 : decode cJ8_hugeLength_7cf53 30 = .ok (.invokevirtual 94, 3) := by decide +kernel
theorem dJ8_hugeLength_7cf53_33 : decode cJ8_hugeLength_7cf53 33 = .ok (.iload_n 1, 1) := by decide +kernel
theorem dJ8_hugeLength_7cf53_34 : decode cJ8_hugeLength_7cf53 34 = .ok (.invokevirtual 98, 3) := by decide +kernel
theorem dJ8_hugeLength_7cf53_37 : decode cJ8_hugeLength_7cf53 37 = .ok (.ldc 210, 2) := by decide +kernel
theorem dJ8_hugeLength_7cf53_39 : decode cJ8_hugeLength_7cf53 39 = .ok (.invokevirtual 94, 3) := by decide +kernel
theorem dJ8_hugeLength_7cf53_42 : decode cJ8_hugeLength_7cf53 42 = .ok (.invokevirtual 101, 3) := by decide +kernel
theorem dJ8_hugeLength_7cf53_45 : decode cJ8_hugeLength_7cf53 45 = .ok (.invokespecial 212, 3) := by decide +kernel
theorem dJ8_hugeLength_7cf53_48 : decode cJ8_hugeLength_7cf53 48 = .ok (.athrow, 1) := by decide +kernel
theorem dJ8_hugeLength_7cf53_49 : decode cJ8_hugeLength_7cf53 49 = .ok (.iload_n 2, 1) := by decide +kernel
theorem dJ8_hugeLength_7cf53_50 : decode cJ8_hugeLength_7cf53 50 = .ok (.ldc 200, 2) := by decide +kernel
theorem dJ8_hugeLength_7cf53_52 : decode cJ8_hugeLength_7cf53 52 = .ok (.if_icmp .gt 6, 3) := by decide +kernel
theorem dJ8_hugeLength_7cf53_55 : decode cJ8_hugeLength_7cf53 55 = .ok (.ldc 200, 2) := by decide +kernel
theorem dJ8_hugeLength_7cf53_57 : decode cJ8_hugeLength_7cf53 57 = .ok (.ireturn, 1) := by decide +kernel
theorem dJ8_hugeLength_7cf53_58 : decode cJ8_hugeLength_7cf53 58 = .ok (.iload_n 2, 1) := by decide +kernel
theorem dJ8_hugeLength_7cf53_59 : decode cJ8_hugeLength_7cf53 59 = .ok (.ireturn, 1) := by decide +kernel
theorem dJ3_checkIndex_8e157_0 : decode cJ3_checkIndex_8e157 0 = .ok (.iload_n 0, 1) := by decide +kernel
theorem dJ3_checkIndex_8e157_1 : decode cJ3_checkIndex_8e157 1 = .ok (.ifCond .lt 8, 3) := by decide +kernel
theorem dJ3_checkIndex_8e157_4 : decode cJ3_checkIndex_8e157 4 = .ok (.iload_n 0, 1) := by decide +kernel
theorem dJ3_checkIndex_8e157_5 : decode cJ3_checkIndex_8e157 5 = .ok (.iload_n 1, 1) := by decide +kernel
theorem dJ3_checkIndex_8e157_6 : decode cJ3_checkIndex_8e157 6 = .ok (.if_icmp .lt 10, 3) := by decide +kernel
theorem dJ3_checkIndex_8e157_9 : decode cJ3_checkIndex_8e157 9 = .ok (.aload_n 2, 1) := by decide +kernel
theorem dJ3_checkIndex_8e157_10 : decode cJ3_checkIndex_8e157 10 = .ok (.iload_n 0, 1) := by decide +kernel
theorem dJ3_checkIndex_8e157_11 : decode cJ3_checkIndex_8e157 11 = .ok (.iload_n 1, 1) := by decide +kernel
theorem dJ3_checkIndex_8e157_12 : decode cJ3_checkIndex_8e157 12 = .ok (.invokestatic 95, 3) := by decide +kernel
theorem dJ3_checkIndex_8e157_15 : decode cJ3_checkIndex_8e157 15 = .ok (.athrow, 1) := by decide +kernel
theorem dJ3_checkIndex_8e157_16 : decode cJ3_checkIndex_8e157 16 = .ok (.iload_n 0, 1) := by decide +kernel
theorem dJ3_checkIndex_8e157_17 : decode cJ3_checkIndex_8e157 17 = .ok (.ireturn, 1) := by decide +kernel
theorem dL_setDetour_0 : decode cL_setDetour 0 = .ok (.aload_n 2, 1) := by decide +kernel
theorem dL_setDetour_1 : decode cL_setDetour 1 = .ok (.iconst 0, 1) := by decide +kernel
theorem dL_setDetour_2 : decode cL_setDetour 2 = .ok (.aload_n 0, 1) := by decide +kernel
theorem dL_setDetour_3 : decode cL_setDetour 3 = .ok (.iload_n 1, 1) := by decide +kernel
theorem dL_setDetour_4 : decode cL_setDetour 4 = .ok (.invokevirtual 7, 3) := by decide +kernel
theorem dL_setDetour_7 : decode cL_setDetour 7 = .ok (.i2l, 1) := by decide +kernel
theorem dL_setDetour_8 : decode cL_setDetour 8 = .ok (.lastore, 1) := by decide +kernel
theorem dL_setDetour_9 : decode cL_setDetour 9 = .ok (.goto 6, 3) := by decide +kernel
theorem dL_setDetour_12 : decode cL_setDetour 12 = .ok (.astore_n 3, 1) := by decide +kernel
theorem dL_setDetour_13 : decode cL_setDetour 13 = .ok (.iconst 1, 1) := by decide +kernel
theorem dL_setDetour_14 : decode cL_setDetour 14 = .ok (.ireturn, 1) := by decide +kernel
theorem dL_setDetour_15 : decode cL_setDetour 15 = .ok (.iconst 0, 1) := by decide +kernel
theorem dL_setDetour_16 : decode cL_setDetour 16 = .ok (.ireturn, 1) := by decide +kernel
theorem dL_setWait_0 : decode cL_setWait 0 = .ok (.aload_n 2, 1) := by decide +kernel
theorem dL_setWait_1 : decode cL_setWait 1 = .ok (.iconst 0, 1) := by decide +kernel
theorem dL_setWait_2 : decode cL_setWait 2 = .ok (.aload_n 0, 1) := by decide +kernel
theorem dL_setWait_3 : decode cL_setWait 3 = .ok (.iload_n 1, 1) := by decide +kernel
theorem dL_setWait_4 : decode cL_setWait 4 = .ok (.invokevirtual 15, 3) := by decide +kernel
theorem dL_setWait_7 : decode cL_setWait 7 = .ok (.i2l, 1) := by decide +kernel
theorem dL_setWait_8 : decode cL_setWait 8 = .ok (.lastore, 1) := by decide +kernel
theorem dL_setWait_9 : decode cL_setWait 9 = .ok (.goto 6, 3) := by decide +kernel
theorem dL_setWait_12 : decode cL_setWait 12 = .ok (.astore_n 3, 1) := by decide +kernel
theorem dL_setWait_13 : decode cL_setWait 13 = .ok (.iconst 1, 1) := by decide +kernel
theorem dL_setWait_14 : decode cL_setWait 14 = .ok (.ireturn, 1) := by decide +kernel
theorem dL_setWait_15 : decode cL_setWait 15 = .ok (.iconst 0, 1) := by decide +kernel
theorem dL_setWait_16 : decode cL_setWait 16 = .ok (.ireturn, 1) := by decide +kernel
theorem dL_addBus_0 : decode cL_addBus 0 = .ok (.aload 5, 2) := by decide +kernel
theorem dL_addBus_2 : decode cL_addBus 2 = .ok (.iconst 0, 1) := by decide +kernel
theorem dL_addBus_3 : decode cL_addBus 3 = .ok (.aload_n 0, 1) := by decide +kernel
theorem dL_addBus_4 : decode cL_addBus 4 = .ok (.iload_n 1, 1) := by decide +kernel
theorem dL_addBus_5 : decode cL_addBus 5 = .ok (.iload_n 2, 1) := by decide +kernel
theorem dL_addBus_6 : decode cL_addBus 6 = .ok (.iload_n 3, 1) := by decide +kernel
theorem dL_addBus_7 : decode cL_addBus 7 = .ok (.iload 4, 2) := by decide +kernel
theorem dL_addBus_9 : decode cL_addBus 9 = .ok (.invokevirtual 18, 3) := by decide +kernel
theorem dL_addBus_12 : decode cL_addBus 12 = .ok (.i2l, 1) := by decide +kernel
theorem dL_addBus_13 : decode cL_addBus 13 = .ok (.lastore, 1) := by decide +kernel
theorem dL_addBus_14 : decode cL_addBus 14 = .ok (.goto 11, 3) := by decide +kernel
theorem dL_addBus_17 : decode cL_addBus 17 = .ok (.astore 6, 2) := by decide +kernel
theorem dL_addBus_19 : decode cL_addBus 19 = .ok (.iconst 1, 1) := by decide +kernel
theorem dL_addBus_20 : decode cL_addBus 20 = .ok (.ireturn, 1) := by decide +kernel
theorem dL_addBus_21 : decode cL_addBus 21 = .ok (.astore 6, 2) := by decide +kernel
theorem dL_addBus_23 : decode cL_addBus 23 = .ok (.iconst 2, 1) := by decide +kernel
theorem dL_addBus_24 : decode cL_addBus 24 = .ok (.ireturn, 1) := by decide +kernel
theorem dL_addBus_25 : decode cL_addBus 25 = .ok (.iconst 0, 1) := by decide +kernel
theorem dL_addBus_26 : decode cL_addBus 26 = .ok (.ireturn, 1) := by decide +kernel
theorem dL_request_0 : decode cL_request 0 = .ok (.aload 6, 2) := by decide +kernel
theorem dL_request_2 : decode cL_request 2 = .ok (.iconst 0, 1) := by decide +kernel
theorem dL_request_3 : decode cL_request 3 = .ok (.aload_n 0, 1) := by decide +kernel
theorem dL_request_4 : decode cL_request 4 = .ok (.iload_n 1, 1) := by decide +kernel
theorem dL_request_5 : decode cL_request 5 = .ok (.iload_n 2, 1) := by decide +kernel
theorem dL_request_6 : decode cL_request 6 = .ok (.iload_n 3, 1) := by decide +kernel
theorem dL_request_7 : decode cL_request 7 = .ok (.iload 4, 2) := by decide +kernel
theorem dL_request_9 : decode cL_request 9 = .ok (.iload 5, 2) := by decide +kernel
theorem dL_request_11 : decode cL_request 11 = .ok (.invokevirtual 24, 3) := by decide +kernel
theorem dL_request_14 : decode cL_request 14 = .ok (.i2l, 1) := by decide +kernel
theorem dL_request_15 : decode cL_request 15 = .ok (.lastore, 1) := by decide +kernel
theorem dL_request_16 : decode cL_request 16 = .ok (.goto 15, 3) := by decide +kernel
theorem dL_request_19 : decode cL_request 19 = .ok (.astore 7, 2) := by decide +kernel
theorem dL_request_21 : decode cL_request 21 = .ok (.iconst 1, 1) := by decide +kernel
theorem dL_request_22 : decode cL_request 22 = .ok (.ireturn, 1) := by decide +kernel
theorem dL_request_23 : decode cL_request 23 = .ok (.astore 7, 2) := by decide +kernel
theorem dL_request_25 : decode cL_request 25 = .ok (.iconst 2, 1) := by decide +kernel
theorem dL_request_26 : decode cL_request 26 = .ok (.ireturn, 1) := by decide +kernel
theorem dL_request_27 : decode cL_request 27 = .ok (.astore 7, 2) := by decide +kernel
theorem dL_request_29 : decode cL_request 29 = .ok (.iconst 3, 1) := by decide +kernel
theorem dL_request_30 : decode cL_request 30 = .ok (.ireturn, 1) := by decide +kernel
theorem dL_request_31 : decode cL_request 31 = .ok (.iconst 0, 1) := by decide +kernel
theorem dL_request_32 : decode cL_request 32 = .ok (.ireturn, 1) := by decide +kernel
theorem dL_quote_0 : decode cL_quote 0 = .ok (.aload 6, 2) := by decide +kernel
theorem dL_quote_2 : decode cL_quote 2 = .ok (.iconst 0, 1) := by decide +kernel
theorem dL_quote_3 : decode cL_quote 3 = .ok (.aload_n 0, 1) := by decide +kernel
theorem dL_quote_4 : decode cL_quote 4 = .ok (.iload_n 1, 1) := by decide +kernel
theorem dL_quote_5 : decode cL_quote 5 = .ok (.iload_n 2, 1) := by decide +kernel
theorem dL_quote_6 : decode cL_quote 6 = .ok (.iload_n 3, 1) := by decide +kernel
theorem dL_quote_7 : decode cL_quote 7 = .ok (.iload 4, 2) := by decide +kernel
theorem dL_quote_9 : decode cL_quote 9 = .ok (.iload 5, 2) := by decide +kernel
theorem dL_quote_11 : decode cL_quote 11 = .ok (.invokevirtual 30, 3) := by decide +kernel
theorem dL_quote_14 : decode cL_quote 14 = .ok (.i2l, 1) := by decide +kernel
theorem dL_quote_15 : decode cL_quote 15 = .ok (.lastore, 1) := by decide +kernel
theorem dL_quote_16 : decode cL_quote 16 = .ok (.goto 15, 3) := by decide +kernel
theorem dL_quote_19 : decode cL_quote 19 = .ok (.astore 7, 2) := by decide +kernel
theorem dL_quote_21 : decode cL_quote 21 = .ok (.iconst 1, 1) := by decide +kernel
theorem dL_quote_22 : decode cL_quote 22 = .ok (.ireturn, 1) := by decide +kernel
theorem dL_quote_23 : decode cL_quote 23 = .ok (.astore 7, 2) := by decide +kernel
theorem dL_quote_25 : decode cL_quote 25 = .ok (.iconst 2, 1) := by decide +kernel
theorem dL_quote_26 : decode cL_quote 26 = .ok (.ireturn, 1) := by decide +kernel
theorem dL_quote_27 : decode cL_quote 27 = .ok (.astore 7, 2) := by decide +kernel
theorem dL_quote_29 : decode cL_quote 29 = .ok (.iconst 3, 1) := by decide +kernel
theorem dL_quote_30 : decode cL_quote 30 = .ok (.ireturn, 1) := by decide +kernel
theorem dL_quote_31 : decode cL_quote 31 = .ok (.iconst 0, 1) := by decide +kernel
theorem dL_quote_32 : decode cL_quote 32 = .ok (.ireturn, 1) := by decide +kernel
theorem dL_quoteByTrying_0 : decode cL_quoteByTrying 0 = .ok (.aload 6, 2) := by decide +kernel
theorem dL_quoteByTrying_2 : decode cL_quoteByTrying 2 = .ok (.iconst 0, 1) := by decide +kernel
theorem dL_quoteByTrying_3 : decode cL_quoteByTrying 3 = .ok (.aload_n 0, 1) := by decide +kernel
theorem dL_quoteByTrying_4 : decode cL_quoteByTrying 4 = .ok (.iload_n 1, 1) := by decide +kernel
theorem dL_quoteByTrying_5 : decode cL_quoteByTrying 5 = .ok (.iload_n 2, 1) := by decide +kernel
theorem dL_quoteByTrying_6 : decode cL_quoteByTrying 6 = .ok (.iload_n 3, 1) := by decide +kernel
theorem dL_quoteByTrying_7 : decode cL_quoteByTrying 7 = .ok (.iload 4, 2) := by decide +kernel
theorem dL_quoteByTrying_9 : decode cL_quoteByTrying 9 = .ok (.iload 5, 2) := by decide +kernel
theorem dL_quoteByTrying_11 : decode cL_quoteByTrying 11 = .ok (.invokevirtual 35, 3) := by decide +kernel
theorem dL_quoteByTrying_14 : decode cL_quoteByTrying 14 = .ok (.i2l, 1) := by decide +kernel
theorem dL_quoteByTrying_15 : decode cL_quoteByTrying 15 = .ok (.lastore, 1) := by decide +kernel
theorem dL_quoteByTrying_16 : decode cL_quoteByTrying 16 = .ok (.goto 15, 3) := by decide +kernel
theorem dL_quoteByTrying_19 : decode cL_quoteByTrying 19 = .ok (.astore 7, 2) := by decide +kernel
theorem dL_quoteByTrying_21 : decode cL_quoteByTrying 21 = .ok (.iconst 1, 1) := by decide +kernel
theorem dL_quoteByTrying_22 : decode cL_quoteByTrying 22 = .ok (.ireturn, 1) := by decide +kernel
theorem dL_quoteByTrying_23 : decode cL_quoteByTrying 23 = .ok (.astore 7, 2) := by decide +kernel
theorem dL_quoteByTrying_25 : decode cL_quoteByTrying 25 = .ok (.iconst 2, 1) := by decide +kernel
theorem dL_quoteByTrying_26 : decode cL_quoteByTrying 26 = .ok (.ireturn, 1) := by decide +kernel
theorem dL_quoteByTrying_27 : decode cL_quoteByTrying 27 = .ok (.astore 7, 2) := by decide +kernel
theorem dL_quoteByTrying_29 : decode cL_quoteByTrying 29 = .ok (.iconst 3, 1) := by decide +kernel
theorem dL_quoteByTrying_30 : decode cL_quoteByTrying 30 = .ok (.ireturn, 1) := by decide +kernel
theorem dL_quoteByTrying_31 : decode cL_quoteByTrying 31 = .ok (.iconst 0, 1) := by decide +kernel
theorem dL_quoteByTrying_32 : decode cL_quoteByTrying 32 = .ok (.ireturn, 1) := by decide +kernel
theorem dL_quotedBus_0 : decode cL_quotedBus 0 = .ok (.aload 6, 2) := by decide +kernel
theorem dL_quotedBus_2 : decode cL_quotedBus 2 = .ok (.iconst 0, 1) := by decide +kernel
theorem dL_quotedBus_3 : decode cL_quotedBus 3 = .ok (.aload_n 0, 1) := by decide +kernel
theorem dL_quotedBus_4 : decode cL_quotedBus 4 = .ok (.iload_n 1, 1) := by decide +kernel
theorem dL_quotedBus_5 : decode cL_quotedBus 5 = .ok (.iload_n 2, 1) := by decide +kernel
theorem dL_quotedBus_6 : decode cL_quotedBus 6 = .ok (.iload_n 3, 1) := by decide +kernel
theorem dL_quotedBus_7 : decode cL_quotedBus 7 = .ok (.iload 4, 2) := by decide +kernel
theorem dL_quotedBus_9 : decode cL_quotedBus 9 = .ok (.iload 5, 2) := by decide +kernel
theorem dL_quotedBus_11 : decode cL_quotedBus 11 = .ok (.invokevirtual 38, 3) := by decide +kernel
theorem dL_quotedBus_14 : decode cL_quotedBus 14 = .ok (.i2l, 1) := by decide +kernel
theorem dL_quotedBus_15 : decode cL_quotedBus 15 = .ok (.lastore, 1) := by decide +kernel
theorem dL_quotedBus_16 : decode cL_quotedBus 16 = .ok (.goto 15, 3) := by decide +kernel
theorem dL_quotedBus_19 : decode cL_quotedBus 19 = .ok (.astore 7, 2) := by decide +kernel
theorem dL_quotedBus_21 : decode cL_quotedBus 21 = .ok (.iconst 1, 1) := by decide +kernel
theorem dL_quotedBus_22 : decode cL_quotedBus 22 = .ok (.ireturn, 1) := by decide +kernel
theorem dL_quotedBus_23 : decode cL_quotedBus 23 = .ok (.astore 7, 2) := by decide +kernel
theorem dL_quotedBus_25 : decode cL_quotedBus 25 = .ok (.iconst 2, 1) := by decide +kernel
theorem dL_quotedBus_26 : decode cL_quotedBus 26 = .ok (.ireturn, 1) := by decide +kernel
theorem dL_quotedBus_27 : decode cL_quotedBus 27 = .ok (.astore 7, 2) := by decide +kernel
theorem dL_quotedBus_29 : decode cL_quotedBus 29 = .ok (.iconst 3, 1) := by decide +kernel
theorem dL_quotedBus_30 : decode cL_quotedBus 30 = .ok (.ireturn, 1) := by decide +kernel
theorem dL_quotedBus_31 : decode cL_quotedBus 31 = .ok (.iconst 0, 1) := by decide +kernel
theorem dL_quotedBus_32 : decode cL_quotedBus 32 = .ok (.ireturn, 1) := by decide +kernel
theorem dL_cancel_0 : decode cL_cancel 0 = .ok (.aload_n 2, 1) := by decide +kernel
theorem dL_cancel_1 : decode cL_cancel 1 = .ok (.iconst 0, 1) := by decide +kernel
theorem dL_cancel_2 : decode cL_cancel 2 = .ok (.aload_n 0, 1) := by decide +kernel
theorem dL_cancel_3 : decode cL_cancel 3 = .ok (.iload_n 1, 1) := by decide +kernel
theorem dL_cancel_4 : decode cL_cancel 4 = .ok (.invokevirtual 41, 3) := by decide +kernel
theorem dL_cancel_7 : decode cL_cancel 7 = .ok (.i2l, 1) := by decide +kernel
theorem dL_cancel_8 : decode cL_cancel 8 = .ok (.lastore, 1) := by decide +kernel
theorem dL_cancel_9 : decode cL_cancel 9 = .ok (.goto 9, 3) := by decide +kernel
theorem dL_cancel_12 : decode cL_cancel 12 = .ok (.astore_n 3, 1) := by decide +kernel
theorem dL_cancel_13 : decode cL_cancel 13 = .ok (.iconst 1, 1) := by decide +kernel
theorem dL_cancel_14 : decode cL_cancel 14 = .ok (.ireturn, 1) := by decide +kernel
theorem dL_cancel_15 : decode cL_cancel 15 = .ok (.astore_n 3, 1) := by decide +kernel
theorem dL_cancel_16 : decode cL_cancel 16 = .ok (.iconst 2, 1) := by decide +kernel
theorem dL_cancel_17 : decode cL_cancel 17 = .ok (.ireturn, 1) := by decide +kernel
theorem dL_cancel_18 : decode cL_cancel 18 = .ok (.iconst 0, 1) := by decide +kernel
theorem dL_cancel_19 : decode cL_cancel 19 = .ok (.ireturn, 1) := by decide +kernel
theorem dL_status_0 : decode cL_status 0 = .ok (.aload_n 2, 1) := by decide +kernel
theorem dL_status_1 : decode cL_status 1 = .ok (.iconst 0, 1) := by decide +kernel
theorem dL_status_2 : decode cL_status 2 = .ok (.aload_n 0, 1) := by decide +kernel
theorem dL_status_3 : decode cL_status 3 = .ok (.iload_n 1, 1) := by decide +kernel
theorem dL_status_4 : decode cL_status 4 = .ok (.invokevirtual 46, 3) := by decide +kernel
theorem dL_status_7 : decode cL_status 7 = .ok (.i2l, 1) := by decide +kernel
theorem dL_status_8 : decode cL_status 8 = .ok (.lastore, 1) := by decide +kernel
theorem dL_status_9 : decode cL_status 9 = .ok (.goto 6, 3) := by decide +kernel
theorem dL_status_12 : decode cL_status 12 = .ok (.astore_n 3, 1) := by decide +kernel
theorem dL_status_13 : decode cL_status 13 = .ok (.iconst 1, 1) := by decide +kernel
theorem dL_status_14 : decode cL_status 14 = .ok (.ireturn, 1) := by decide +kernel
theorem dL_status_15 : decode cL_status 15 = .ok (.iconst 0, 1) := by decide +kernel
theorem dL_status_16 : decode cL_status 16 = .ok (.ireturn, 1) := by decide +kernel
theorem dL_reason_0 : decode cL_reason 0 = .ok (.aload_n 2, 1) := by decide +kernel
theorem dL_reason_1 : decode cL_reason 1 = .ok (.iconst 0, 1) := by decide +kernel
theorem dL_reason_2 : decode cL_reason 2 = .ok (.aload_n 0, 1) := by decide +kernel
theorem dL_reason_3 : decode cL_reason 3 = .ok (.iload_n 1, 1) := by decide +kernel
theorem dL_reason_4 : decode cL_reason 4 = .ok (.invokevirtual 50, 3) := by decide +kernel
theorem dL_reason_7 : decode cL_reason 7 = .ok (.i2l, 1) := by decide +kernel
theorem dL_reason_8 : decode cL_reason 8 = .ok (.lastore, 1) := by decide +kernel
theorem dL_reason_9 : decode cL_reason 9 = .ok (.goto 9, 3) := by decide +kernel
theorem dL_reason_12 : decode cL_reason 12 = .ok (.astore_n 3, 1) := by decide +kernel
theorem dL_reason_13 : decode cL_reason 13 = .ok (.iconst 1, 1) := by decide +kernel
theorem dL_reason_14 : decode cL_reason 14 = .ok (.ireturn, 1) := by decide +kernel
theorem dL_reason_15 : decode cL_reason 15 = .ok (.astore_n 3, 1) := by decide +kernel
theorem dL_reason_16 : decode cL_reason 16 = .ok (.iconst 2, 1) := by decide +kernel
theorem dL_reason_17 : decode cL_reason 17 = .ok (.ireturn, 1) := by decide +kernel
theorem dL_reason_18 : decode cL_reason 18 = .ok (.iconst 0, 1) := by decide +kernel
theorem dL_reason_19 : decode cL_reason 19 = .ok (.ireturn, 1) := by decide +kernel
theorem dL_busOf_0 : decode cL_busOf 0 = .ok (.aload_n 2, 1) := by decide +kernel
theorem dL_busOf_1 : decode cL_busOf 1 = .ok (.iconst 0, 1) := by decide +kernel
theorem dL_busOf_2 : decode cL_busOf 2 = .ok (.aload_n 0, 1) := by decide +kernel
theorem dL_busOf_3 : decode cL_busOf 3 = .ok (.iload_n 1, 1) := by decide +kernel
theorem dL_busOf_4 : decode cL_busOf 4 = .ok (.invokevirtual 53, 3) := by decide +kernel
theorem dL_busOf_7 : decode cL_busOf 7 = .ok (.i2l, 1) := by decide +kernel
theorem dL_busOf_8 : decode cL_busOf 8 = .ok (.lastore, 1) := by decide +kernel
theorem dL_busOf_9 : decode cL_busOf 9 = .ok (.goto 9, 3) := by decide +kernel
theorem dL_busOf_12 : decode cL_busOf 12 = .ok (.astore_n 3, 1) := by decide +kernel
theorem dL_busOf_13 : decode cL_busOf 13 = .ok (.iconst 1, 1) := by decide +kernel
theorem dL_busOf_14 : decode cL_busOf 14 = .ok (.ireturn, 1) := by decide +kernel
theorem dL_busOf_15 : decode cL_busOf 15 = .ok (.astore_n 3, 1) := by decide +kernel
theorem dL_busOf_16 : decode cL_busOf 16 = .ok (.iconst 2, 1) := by decide +kernel
theorem dL_busOf_17 : decode cL_busOf 17 = .ok (.ireturn, 1) := by decide +kernel
theorem dL_busOf_18 : decode cL_busOf 18 = .ok (.iconst 0, 1) := by decide +kernel
theorem dL_busOf_19 : decode cL_busOf 19 = .ok (.ireturn, 1) := by decide +kernel
theorem dL_latestPickup_0 : decode cL_latestPickup 0 = .ok (.aload_n 2, 1) := by decide +kernel
theorem dL_latestPickup_1 : decode cL_latestPickup 1 = .ok (.iconst 0, 1) := by decide +kernel
theorem dL_latestPickup_2 : decode cL_latestPickup 2 = .ok (.aload_n 0, 1) := by decide +kernel
theorem dL_latestPickup_3 : decode cL_latestPickup 3 = .ok (.iload_n 1, 1) := by decide +kernel
theorem dL_latestPickup_4 : decode cL_latestPickup 4 = .ok (.invokevirtual 56, 3) := by decide +kernel
theorem dL_latestPickup_7 : decode cL_latestPickup 7 = .ok (.i2l, 1) := by decide +kernel
theorem dL_latestPickup_8 : decode cL_latestPickup 8 = .ok (.lastore, 1) := by decide +kernel
theorem dL_latestPickup_9 : decode cL_latestPickup 9 = .ok (.goto 6, 3) := by decide +kernel
theorem dL_latestPickup_12 : decode cL_latestPickup 12 = .ok (.astore_n 3, 1) := by decide +kernel
theorem dL_latestPickup_13 : decode cL_latestPickup 13 = .ok (.iconst 1, 1) := by decide +kernel
theorem dL_latestPickup_14 : decode cL_latestPickup 14 = .ok (.ireturn, 1) := by decide +kernel
theorem dL_latestPickup_15 : decode cL_latestPickup 15 = .ok (.iconst 0, 1) := by decide +kernel
theorem dL_latestPickup_16 : decode cL_latestPickup 16 = .ok (.ireturn, 1) := by decide +kernel
theorem dL_longestRide_0 : decode cL_longestRide 0 = .ok (.aload_n 2, 1) := by decide +kernel
theorem dL_longestRide_1 : decode cL_longestRide 1 = .ok (.iconst 0, 1) := by decide +kernel
theorem dL_longestRide_2 : decode cL_longestRide 2 = .ok (.aload_n 0, 1) := by decide +kernel
theorem dL_longestRide_3 : decode cL_longestRide 3 = .ok (.iload_n 1, 1) := by decide +kernel
theorem dL_longestRide_4 : decode cL_longestRide 4 = .ok (.invokevirtual 59, 3) := by decide +kernel
theorem dL_longestRide_7 : decode cL_longestRide 7 = .ok (.i2l, 1) := by decide +kernel
theorem dL_longestRide_8 : decode cL_longestRide 8 = .ok (.lastore, 1) := by decide +kernel
theorem dL_longestRide_9 : decode cL_longestRide 9 = .ok (.goto 6, 3) := by decide +kernel
theorem dL_longestRide_12 : decode cL_longestRide 12 = .ok (.astore_n 3, 1) := by decide +kernel
theorem dL_longestRide_13 : decode cL_longestRide 13 = .ok (.iconst 1, 1) := by decide +kernel
theorem dL_longestRide_14 : decode cL_longestRide 14 = .ok (.ireturn, 1) := by decide +kernel
theorem dL_longestRide_15 : decode cL_longestRide 15 = .ok (.iconst 0, 1) := by decide +kernel
theorem dL_longestRide_16 : decode cL_longestRide 16 = .ok (.ireturn, 1) := by decide +kernel
theorem dL_pickupTime_0 : decode cL_pickupTime 0 = .ok (.aload_n 2, 1) := by decide +kernel
theorem dL_pickupTime_1 : decode cL_pickupTime 1 = .ok (.iconst 0, 1) := by decide +kernel
theorem dL_pickupTime_2 : decode cL_pickupTime 2 = .ok (.aload_n 0, 1) := by decide +kernel
theorem dL_pickupTime_3 : decode cL_pickupTime 3 = .ok (.iload_n 1, 1) := by decide +kernel
theorem dL_pickupTime_4 : decode cL_pickupTime 4 = .ok (.invokevirtual 62, 3) := by decide +kernel
theorem dL_pickupTime_7 : decode cL_pickupTime 7 = .ok (.i2l, 1) := by decide +kernel
theorem dL_pickupTime_8 : decode cL_pickupTime 8 = .ok (.lastore, 1) := by decide +kernel
theorem dL_pickupTime_9 : decode cL_pickupTime 9 = .ok (.goto 9, 3) := by decide +kernel
theorem dL_pickupTime_12 : decode cL_pickupTime 12 = .ok (.astore_n 3, 1) := by decide +kernel
theorem dL_pickupTime_13 : decode cL_pickupTime 13 = .ok (.iconst 1, 1) := by decide +kernel
theorem dL_pickupTime_14 : decode cL_pickupTime 14 = .ok (.ireturn, 1) := by decide +kernel
theorem dL_pickupTime_15 : decode cL_pickupTime 15 = .ok (.astore_n 3, 1) := by decide +kernel
theorem dL_pickupTime_16 : decode cL_pickupTime 16 = .ok (.iconst 2, 1) := by decide +kernel
theorem dL_pickupTime_17 : decode cL_pickupTime 17 = .ok (.ireturn, 1) := by decide +kernel
theorem dL_pickupTime_18 : decode cL_pickupTime 18 = .ok (.iconst 0, 1) := by decide +kernel
theorem dL_pickupTime_19 : decode cL_pickupTime 19 = .ok (.ireturn, 1) := by decide +kernel
theorem dL_dropTime_0 : decode cL_dropTime 0 = .ok (.aload_n 2, 1) := by decide +kernel
theorem dL_dropTime_1 : decode cL_dropTime 1 = .ok (.iconst 0, 1) := by decide +kernel
theorem dL_dropTime_2 : decode cL_dropTime 2 = .ok (.aload_n 0, 1) := by decide +kernel
theorem dL_dropTime_3 : decode cL_dropTime 3 = .ok (.iload_n 1, 1) := by decide +kernel
theorem dL_dropTime_4 : decode cL_dropTime 4 = .ok (.invokevirtual 65, 3) := by decide +kernel
theorem dL_dropTime_7 : decode cL_dropTime 7 = .ok (.i2l, 1) := by decide +kernel
theorem dL_dropTime_8 : decode cL_dropTime 8 = .ok (.lastore, 1) := by decide +kernel
theorem dL_dropTime_9 : decode cL_dropTime 9 = .ok (.goto 9, 3) := by decide +kernel
theorem dL_dropTime_12 : decode cL_dropTime 12 = .ok (.astore_n 3, 1) := by decide +kernel
theorem dL_dropTime_13 : decode cL_dropTime 13 = .ok (.iconst 1, 1) := by decide +kernel
theorem dL_dropTime_14 : decode cL_dropTime 14 = .ok (.ireturn, 1) := by decide +kernel
theorem dL_dropTime_15 : decode cL_dropTime 15 = .ok (.astore_n 3, 1) := by decide +kernel
theorem dL_dropTime_16 : decode cL_dropTime 16 = .ok (.iconst 2, 1) := by decide +kernel
theorem dL_dropTime_17 : decode cL_dropTime 17 = .ok (.ireturn, 1) := by decide +kernel
theorem dL_dropTime_18 : decode cL_dropTime 18 = .ok (.iconst 0, 1) := by decide +kernel
theorem dL_dropTime_19 : decode cL_dropTime 19 = .ok (.ireturn, 1) := by decide +kernel
theorem dL_stops_0 : decode cL_stops 0 = .ok (.aload_n 2, 1) := by decide +kernel
theorem dL_stops_1 : decode cL_stops 1 = .ok (.iconst 0, 1) := by decide +kernel
theorem dL_stops_2 : decode cL_stops 2 = .ok (.aload_n 0, 1) := by decide +kernel
theorem dL_stops_3 : decode cL_stops 3 = .ok (.iload_n 1, 1) := by decide +kernel
theorem dL_stops_4 : decode cL_stops 4 = .ok (.invokevirtual 68, 3) := by decide +kernel
theorem dL_stops_7 : decode cL_stops 7 = .ok (.i2l, 1) := by decide +kernel
theorem dL_stops_8 : decode cL_stops 8 = .ok (.lastore, 1) := by decide +kernel
theorem dL_stops_9 : decode cL_stops 9 = .ok (.goto 6, 3) := by decide +kernel
theorem dL_stops_12 : decode cL_stops 12 = .ok (.astore_n 3, 1) := by decide +kernel
theorem dL_stops_13 : decode cL_stops 13 = .ok (.iconst 1, 1) := by decide +kernel
theorem dL_stops_14 : decode cL_stops 14 = .ok (.ireturn, 1) := by decide +kernel
theorem dL_stops_15 : decode cL_stops 15 = .ok (.iconst 0, 1) := by decide +kernel
theorem dL_stops_16 : decode cL_stops 16 = .ok (.ireturn, 1) := by decide +kernel
theorem dL_stopRequest_0 : decode cL_stopRequest 0 = .ok (.aload_n 3, 1) := by decide +kernel
theorem dL_stopRequest_1 : decode cL_stopRequest 1 = .ok (.iconst 0, 1) := by decide +kernel
theorem dL_stopRequest_2 : decode cL_stopRequest 2 = .ok (.aload_n 0, 1) := by decide +kernel
theorem dL_stopRequest_3 : decode cL_stopRequest 3 = .ok (.iload_n 1, 1) := by decide +kernel
theorem dL_stopRequest_4 : decode cL_stopRequest 4 = .ok (.iload_n 2, 1) := by decide +kernel
theorem dL_stopRequest_5 : decode cL_stopRequest 5 = .ok (.invokevirtual 71, 3) := by decide +kernel
theorem dL_stopRequest_8 : decode cL_stopRequest 8 = .ok (.i2l, 1) := by decide +kernel
theorem dL_stopRequest_9 : decode cL_stopRequest 9 = .ok (.lastore, 1) := by decide +kernel
theorem dL_stopRequest_10 : decode cL_stopRequest 10 = .ok (.goto 11, 3) := by decide +kernel
theorem dL_stopRequest_13 : decode cL_stopRequest 13 = .ok (.astore 4, 2) := by decide +kernel
theorem dL_stopRequest_15 : decode cL_stopRequest 15 = .ok (.iconst 1, 1) := by decide +kernel
theorem dL_stopRequest_16 : decode cL_stopRequest 16 = .ok (.ireturn, 1) := by decide +kernel
theorem dL_stopRequest_17 : decode cL_stopRequest 17 = .ok (.astore 4, 2) := by decide +kernel
theorem dL_stopRequest_19 : decode cL_stopRequest 19 = .ok (.iconst 2, 1) := by decide +kernel
theorem dL_stopRequest_20 : decode cL_stopRequest 20 = .ok (.ireturn, 1) := by decide +kernel
theorem dL_stopRequest_21 : decode cL_stopRequest 21 = .ok (.iconst 0, 1) := by decide +kernel
theorem dL_stopRequest_22 : decode cL_stopRequest 22 = .ok (.ireturn, 1) := by decide +kernel
theorem dL_isPickup_0 : decode cL_isPickup 0 = .ok (.aload_n 3, 1) := by decide +kernel
theorem dL_isPickup_1 : decode cL_isPickup 1 = .ok (.iconst 0, 1) := by decide +kernel
theorem dL_isPickup_2 : decode cL_isPickup 2 = .ok (.aload_n 0, 1) := by decide +kernel
theorem dL_isPickup_3 : decode cL_isPickup 3 = .ok (.iload_n 1, 1) := by decide +kernel
theorem dL_isPickup_4 : decode cL_isPickup 4 = .ok (.iload_n 2, 1) := by decide +kernel
theorem dL_isPickup_5 : decode cL_isPickup 5 = .ok (.invokevirtual 75, 3) := by decide +kernel
theorem dL_isPickup_8 : decode cL_isPickup 8 = .ok (.ifCond .eq 7, 3) := by decide +kernel
theorem dL_isPickup_11 : decode cL_isPickup 11 = .ok (.lconst 1, 1) := by decide +kernel
theorem dL_isPickup_12 : decode cL_isPickup 12 = .ok (.goto 4, 3) := by decide +kernel
theorem dL_isPickup_15 : decode cL_isPickup 15 = .ok (.lconst 0, 1) := by decide +kernel
theorem dL_isPickup_16 : decode cL_isPickup 16 = .ok (.lastore, 1) := by decide +kernel
theorem dL_isPickup_17 : decode cL_isPickup 17 = .ok (.goto 11, 3) := by decide +kernel
theorem dL_isPickup_20 : decode cL_isPickup 20 = .ok (.astore 4, 2) := by decide +kernel
theorem dL_isPickup_22 : decode cL_isPickup 22 = .ok (.iconst 1, 1) := by decide +kernel
theorem dL_isPickup_23 : decode cL_isPickup 23 = .ok (.ireturn, 1) := by decide +kernel
theorem dL_isPickup_24 : decode cL_isPickup 24 = .ok (.astore 4, 2) := by decide +kernel
theorem dL_isPickup_26 : decode cL_isPickup 26 = .ok (.iconst 2, 1) := by decide +kernel
theorem dL_isPickup_27 : decode cL_isPickup 27 = .ok (.ireturn, 1) := by decide +kernel
theorem dL_isPickup_28 : decode cL_isPickup 28 = .ok (.iconst 0, 1) := by decide +kernel
theorem dL_isPickup_29 : decode cL_isPickup 29 = .ok (.ireturn, 1) := by decide +kernel
theorem dL_stopTime_0 : decode cL_stopTime 0 = .ok (.aload_n 3, 1) := by decide +kernel
theorem dL_stopTime_1 : decode cL_stopTime 1 = .ok (.iconst 0, 1) := by decide +kernel
theorem dL_stopTime_2 : decode cL_stopTime 2 = .ok (.aload_n 0, 1) := by decide +kernel
theorem dL_stopTime_3 : decode cL_stopTime 3 = .ok (.iload_n 1, 1) := by decide +kernel
theorem dL_stopTime_4 : decode cL_stopTime 4 = .ok (.iload_n 2, 1) := by decide +kernel
theorem dL_stopTime_5 : decode cL_stopTime 5 = .ok (.invokevirtual 79, 3) := by decide +kernel
theorem dL_stopTime_8 : decode cL_stopTime 8 = .ok (.i2l, 1) := by decide +kernel
theorem dL_stopTime_9 : decode cL_stopTime 9 = .ok (.lastore, 1) := by decide +kernel
theorem dL_stopTime_10 : decode cL_stopTime 10 = .ok (.goto 11, 3) := by decide +kernel
theorem dL_stopTime_13 : decode cL_stopTime 13 = .ok (.astore 4, 2) := by decide +kernel
theorem dL_stopTime_15 : decode cL_stopTime 15 = .ok (.iconst 1, 1) := by decide +kernel
theorem dL_stopTime_16 : decode cL_stopTime 16 = .ok (.ireturn, 1) := by decide +kernel
theorem dL_stopTime_17 : decode cL_stopTime 17 = .ok (.astore 4, 2) := by decide +kernel
theorem dL_stopTime_19 : decode cL_stopTime 19 = .ok (.iconst 2, 1) := by decide +kernel
theorem dL_stopTime_20 : decode cL_stopTime 20 = .ok (.ireturn, 1) := by decide +kernel
theorem dL_stopTime_21 : decode cL_stopTime 21 = .ok (.iconst 0, 1) := by decide +kernel
theorem dL_stopTime_22 : decode cL_stopTime 22 = .ok (.ireturn, 1) := by decide +kernel
theorem dL_length_0 : decode cL_length 0 = .ok (.aload_n 2, 1) := by decide +kernel
theorem dL_length_1 : decode cL_length 1 = .ok (.iconst 0, 1) := by decide +kernel
theorem dL_length_2 : decode cL_length 2 = .ok (.aload_n 0, 1) := by decide +kernel
theorem dL_length_3 : decode cL_length 3 = .ok (.iload_n 1, 1) := by decide +kernel
theorem dL_length_4 : decode cL_length 4 = .ok (.invokevirtual 82, 3) := by decide +kernel
theorem dL_length_7 : decode cL_length 7 = .ok (.i2l, 1) := by decide +kernel
theorem dL_length_8 : decode cL_length 8 = .ok (.lastore, 1) := by decide +kernel
theorem dL_length_9 : decode cL_length 9 = .ok (.goto 6, 3) := by decide +kernel
theorem dL_length_12 : decode cL_length 12 = .ok (.astore_n 3, 1) := by decide +kernel
theorem dL_length_13 : decode cL_length 13 = .ok (.iconst 1, 1) := by decide +kernel
theorem dL_length_14 : decode cL_length 14 = .ok (.ireturn, 1) := by decide +kernel
theorem dL_length_15 : decode cL_length 15 = .ok (.iconst 0, 1) := by decide +kernel
theorem dL_length_16 : decode cL_length 16 = .ok (.ireturn, 1) := by decide +kernel
theorem dL_bestLength_0 : decode cL_bestLength 0 = .ok (.aload_n 2, 1) := by decide +kernel
theorem dL_bestLength_1 : decode cL_bestLength 1 = .ok (.iconst 0, 1) := by decide +kernel
theorem dL_bestLength_2 : decode cL_bestLength 2 = .ok (.aload_n 0, 1) := by decide +kernel
theorem dL_bestLength_3 : decode cL_bestLength 3 = .ok (.iload_n 1, 1) := by decide +kernel
theorem dL_bestLength_4 : decode cL_bestLength 4 = .ok (.invokevirtual 85, 3) := by decide +kernel
theorem dL_bestLength_7 : decode cL_bestLength 7 = .ok (.i2l, 1) := by decide +kernel
theorem dL_bestLength_8 : decode cL_bestLength 8 = .ok (.lastore, 1) := by decide +kernel
theorem dL_bestLength_9 : decode cL_bestLength 9 = .ok (.goto 6, 3) := by decide +kernel
theorem dL_bestLength_12 : decode cL_bestLength 12 = .ok (.astore_n 3, 1) := by decide +kernel
theorem dL_bestLength_13 : decode cL_bestLength 13 = .ok (.iconst 1, 1) := by decide +kernel
theorem dL_bestLength_14 : decode cL_bestLength 14 = .ok (.ireturn, 1) := by decide +kernel
theorem dL_bestLength_15 : decode cL_bestLength 15 = .ok (.iconst 0, 1) := by decide +kernel
theorem dL_bestLength_16 : decode cL_bestLength 16 = .ok (.ireturn, 1) := by decide +kernel
theorem dL_bestLengthByTrying_0 : decode cL_bestLengthByTrying 0 = .ok (.aload_n 2, 1) := by decide +kernel
theorem dL_bestLengthByTrying_1 : decode cL_bestLengthByTrying 1 = .ok (.iconst 0, 1) := by decide +kernel
theorem dL_bestLengthByTrying_2 : decode cL_bestLengthByTrying 2 = .ok (.aload_n 0, 1) := by decide +kernel
theorem dL_bestLengthByTrying_3 : decode cL_bestLengthByTrying 3 = .ok (.iload_n 1, 1) := by decide +kernel
theorem dL_bestLengthByTrying_4 : decode cL_bestLengthByTrying 4 = .ok (.invokevirtual 88, 3) := by decide +kernel
theorem dL_bestLengthByTrying_7 : decode cL_bestLengthByTrying 7 = .ok (.i2l, 1) := by decide +kernel
theorem dL_bestLengthByTrying_8 : decode cL_bestLengthByTrying 8 = .ok (.lastore, 1) := by decide +kernel
theorem dL_bestLengthByTrying_9 : decode cL_bestLengthByTrying 9 = .ok (.goto 6, 3) := by decide +kernel
theorem dL_bestLengthByTrying_12 : decode cL_bestLengthByTrying 12 = .ok (.astore_n 3, 1) := by decide +kernel
theorem dL_bestLengthByTrying_13 : decode cL_bestLengthByTrying 13 = .ok (.iconst 1, 1) := by decide +kernel
theorem dL_bestLengthByTrying_14 : decode cL_bestLengthByTrying 14 = .ok (.ireturn, 1) := by decide +kernel
theorem dL_bestLengthByTrying_15 : decode cL_bestLengthByTrying 15 = .ok (.iconst 0, 1) := by decide +kernel
theorem dL_bestLengthByTrying_16 : decode cL_bestLengthByTrying 16 = .ok (.ireturn, 1) := by decide +kernel
theorem dL_improve_0 : decode cL_improve 0 = .ok (.aload_n 2, 1) := by decide +kernel
theorem dL_improve_1 : decode cL_improve 1 = .ok (.iconst 0, 1) := by decide +kernel
theorem dL_improve_2 : decode cL_improve 2 = .ok (.aload_n 0, 1) := by decide +kernel
theorem dL_improve_3 : decode cL_improve 3 = .ok (.iload_n 1, 1) := by decide +kernel
theorem dL_improve_4 : decode cL_improve 4 = .ok (.invokevirtual 91, 3) := by decide +kernel
theorem dL_improve_7 : decode cL_improve 7 = .ok (.i2l, 1) := by decide +kernel
theorem dL_improve_8 : decode cL_improve 8 = .ok (.lastore, 1) := by decide +kernel
theorem dL_improve_9 : decode cL_improve 9 = .ok (.goto 6, 3) := by decide +kernel
theorem dL_improve_12 : decode cL_improve 12 = .ok (.astore_n 3, 1) := by decide +kernel
theorem dL_improve_13 : decode cL_improve 13 = .ok (.iconst 1, 1) := by decide +kernel
theorem dL_improve_14 : decode cL_improve 14 = .ok (.ireturn, 1) := by decide +kernel
theorem dL_improve_15 : decode cL_improve 15 = .ok (.iconst 0, 1) := by decide +kernel
theorem dL_improve_16 : decode cL_improve 16 = .ok (.ireturn, 1) := by decide +kernel
theorem dL_pass_0 : decode cL_pass 0 = .ok (.aload_n 2, 1) := by decide +kernel
theorem dL_pass_1 : decode cL_pass 1 = .ok (.iconst 0, 1) := by decide +kernel
theorem dL_pass_2 : decode cL_pass 2 = .ok (.aload_n 0, 1) := by decide +kernel
theorem dL_pass_3 : decode cL_pass 3 = .ok (.iload_n 1, 1) := by decide +kernel
theorem dL_pass_4 : decode cL_pass 4 = .ok (.invokevirtual 94, 3) := by decide +kernel
theorem dL_pass_7 : decode cL_pass 7 = .ok (.i2l, 1) := by decide +kernel
theorem dL_pass_8 : decode cL_pass 8 = .ok (.lastore, 1) := by decide +kernel
theorem dL_pass_9 : decode cL_pass 9 = .ok (.goto 6, 3) := by decide +kernel
theorem dL_pass_12 : decode cL_pass 12 = .ok (.astore_n 3, 1) := by decide +kernel
theorem dL_pass_13 : decode cL_pass 13 = .ok (.iconst 1, 1) := by decide +kernel
theorem dL_pass_14 : decode cL_pass 14 = .ok (.ireturn, 1) := by decide +kernel
theorem dL_pass_15 : decode cL_pass 15 = .ok (.iconst 0, 1) := by decide +kernel
theorem dL_pass_16 : decode cL_pass 16 = .ok (.ireturn, 1) := by decide +kernel
theorem dL_x_0 : decode cL_x 0 = .ok (.aload_n 2, 1) := by decide +kernel
theorem dL_x_1 : decode cL_x 1 = .ok (.iconst 0, 1) := by decide +kernel
theorem dL_x_2 : decode cL_x 2 = .ok (.aload_n 0, 1) := by decide +kernel
theorem dL_x_3 : decode cL_x 3 = .ok (.iload_n 1, 1) := by decide +kernel
theorem dL_x_4 : decode cL_x 4 = .ok (.invokevirtual 97, 3) := by decide +kernel
theorem dL_x_7 : decode cL_x 7 = .ok (.i2l, 1) := by decide +kernel
theorem dL_x_8 : decode cL_x 8 = .ok (.lastore, 1) := by decide +kernel
theorem dL_x_9 : decode cL_x 9 = .ok (.goto 6, 3) := by decide +kernel
theorem dL_x_12 : decode cL_x 12 = .ok (.astore_n 3, 1) := by decide +kernel
theorem dL_x_13 : decode cL_x 13 = .ok (.iconst 1, 1) := by decide +kernel
theorem dL_x_14 : decode cL_x 14 = .ok (.ireturn, 1) := by decide +kernel
theorem dL_x_15 : decode cL_x 15 = .ok (.iconst 0, 1) := by decide +kernel
theorem dL_x_16 : decode cL_x 16 = .ok (.ireturn, 1) := by decide +kernel
theorem dL_y_0 : decode cL_y 0 = .ok (.aload_n 2, 1) := by decide +kernel
theorem dL_y_1 : decode cL_y 1 = .ok (.iconst 0, 1) := by decide +kernel
theorem dL_y_2 : decode cL_y 2 = .ok (.aload_n 0, 1) := by decide +kernel
theorem dL_y_3 : decode cL_y 3 = .ok (.iload_n 1, 1) := by decide +kernel
theorem dL_y_4 : decode cL_y 4 = .ok (.invokevirtual 100, 3) := by decide +kernel
theorem dL_y_7 : decode cL_y 7 = .ok (.i2l, 1) := by decide +kernel
theorem dL_y_8 : decode cL_y 8 = .ok (.lastore, 1) := by decide +kernel
theorem dL_y_9 : decode cL_y 9 = .ok (.goto 6, 3) := by decide +kernel
theorem dL_y_12 : decode cL_y 12 = .ok (.astore_n 3, 1) := by decide +kernel
theorem dL_y_13 : decode cL_y 13 = .ok (.iconst 1, 1) := by decide +kernel
theorem dL_y_14 : decode cL_y 14 = .ok (.ireturn, 1) := by decide +kernel
theorem dL_y_15 : decode cL_y 15 = .ok (.iconst 0, 1) := by decide +kernel
theorem dL_y_16 : decode cL_y 16 = .ok (.ireturn, 1) := by decide +kernel
theorem dL_charge_0 : decode cL_charge 0 = .ok (.aload_n 2, 1) := by decide +kernel
theorem dL_charge_1 : decode cL_charge 1 = .ok (.iconst 0, 1) := by decide +kernel
theorem dL_charge_2 : decode cL_charge 2 = .ok (.aload_n 0, 1) := by decide +kernel
theorem dL_charge_3 : decode cL_charge 3 = .ok (.iload_n 1, 1) := by decide +kernel
theorem dL_charge_4 : decode cL_charge 4 = .ok (.invokevirtual 103, 3) := by decide +kernel
theorem dL_charge_7 : decode cL_charge 7 = .ok (.i2l, 1) := by decide +kernel
theorem dL_charge_8 : decode cL_charge 8 = .ok (.lastore, 1) := by decide +kernel
theorem dL_charge_9 : decode cL_charge 9 = .ok (.goto 6, 3) := by decide +kernel
theorem dL_charge_12 : decode cL_charge 12 = .ok (.astore_n 3, 1) := by decide +kernel
theorem dL_charge_13 : decode cL_charge 13 = .ok (.iconst 1, 1) := by decide +kernel
theorem dL_charge_14 : decode cL_charge 14 = .ok (.ireturn, 1) := by decide +kernel
theorem dL_charge_15 : decode cL_charge 15 = .ok (.iconst 0, 1) := by decide +kernel
theorem dL_charge_16 : decode cL_charge 16 = .ok (.ireturn, 1) := by decide +kernel
theorem dL_onBoard_0 : decode cL_onBoard 0 = .ok (.aload_n 2, 1) := by decide +kernel
theorem dL_onBoard_1 : decode cL_onBoard 1 = .ok (.iconst 0, 1) := by decide +kernel
theorem dL_onBoard_2 : decode cL_onBoard 2 = .ok (.aload_n 0, 1) := by decide +kernel
theorem dL_onBoard_3 : decode cL_onBoard 3 = .ok (.iload_n 1, 1) := by decide +kernel
theorem dL_onBoard_4 : decode cL_onBoard 4 = .ok (.invokevirtual 106, 3) := by decide +kernel
theorem dL_onBoard_7 : decode cL_onBoard 7 = .ok (.i2l, 1) := by decide +kernel
theorem dL_onBoard_8 : decode cL_onBoard 8 = .ok (.lastore, 1) := by decide +kernel
theorem dL_onBoard_9 : decode cL_onBoard 9 = .ok (.goto 6, 3) := by decide +kernel
theorem dL_onBoard_12 : decode cL_onBoard 12 = .ok (.astore_n 3, 1) := by decide +kernel
theorem dL_onBoard_13 : decode cL_onBoard 13 = .ok (.iconst 1, 1) := by decide +kernel
theorem dL_onBoard_14 : decode cL_onBoard 14 = .ok (.ireturn, 1) := by decide +kernel
theorem dL_onBoard_15 : decode cL_onBoard 15 = .ok (.iconst 0, 1) := by decide +kernel
theorem dL_onBoard_16 : decode cL_onBoard 16 = .ok (.ireturn, 1) := by decide +kernel
theorem dL_driven_0 : decode cL_driven 0 = .ok (.aload_n 2, 1) := by decide +kernel
theorem dL_driven_1 : decode cL_driven 1 = .ok (.iconst 0, 1) := by decide +kernel
theorem dL_driven_2 : decode cL_driven 2 = .ok (.aload_n 0, 1) := by decide +kernel
