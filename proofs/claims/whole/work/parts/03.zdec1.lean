theorem dX9_pickupTime_28 : decode cX9_pickupTime 28 = .ok (.invokevirtual 214, 3) := by decide +kernel
theorem dX9_pickupTime_31 : decode cX9_pickupTime 31 = .ok (.ireturn, 1) := by decide +kernel
theorem dX9_pickupTime_32 : decode cX9_pickupTime 32 = .ok (.aload_n 2, 1) := by decide +kernel
theorem dX9_pickupTime_33 : decode cX9_pickupTime 33 = .ok (.getfield 218, 3) := by decide +kernel
theorem dX9_pickupTime_36 : decode cX9_pickupTime 36 = .ok (.ireturn, 1) := by decide +kernel
theorem dX9_dropTime_0 : decode cX9_dropTime 0 = .ok (.aload_n 0, 1) := by decide +kernel
theorem dX9_dropTime_1 : decode cX9_dropTime 1 = .ok (.iload_n 1, 1) := by decide +kernel
theorem dX9_dropTime_2 : decode cX9_dropTime 2 = .ok (.invokevirtual 211, 3) := by decide +kernel
theorem dX9_dropTime_5 : decode cX9_dropTime 5 = .ok (.astore_n 2, 1) := by decide +kernel
theorem dX9_dropTime_6 : decode cX9_dropTime 6 = .ok (.aload_n 2, 1) := by decide +kernel
theorem dX9_dropTime_7 : decode cX9_dropTime 7 = .ok (.getfield 132, 3) := by decide +kernel
theorem dX9_dropTime_10 : decode cX9_dropTime 10 = .ok (.bipush 100, 2) := by decide +kernel
theorem dX9_dropTime_12 : decode cX9_dropTime 12 = .ok (.if_icmp .ne 8, 3) := by decide +kernel
theorem dX9_dropTime_15 : decode cX9_dropTime 15 = .ok (.aload_n 2, 1) := by decide +kernel
theorem dX9_dropTime_16 : decode cX9_dropTime 16 = .ok (.getfield 221, 3) := by decide +kernel
theorem dX9_dropTime_19 : decode cX9_dropTime 19 = .ok (.ireturn, 1) := by decide +kernel
theorem dX9_dropTime_20 : decode cX9_dropTime 20 = .ok (.aload_n 0, 1) := by decide +kernel
theorem dX9_dropTime_21 : decode cX9_dropTime 21 = .ok (.aload_n 0, 1) := by decide +kernel
theorem dX9_dropTime_22 : decode cX9_dropTime 22 = .ok (.aload_n 2, 1) := by decide +kernel
theorem dX9_dropTime_23 : decode cX9_dropTime 23 = .ok (.getfield 141, 3) := by decide +kernel
theorem dX9_dropTime_26 : decode cX9_dropTime 26 = .ok (.invokevirtual 182, 3) := by decide +kernel
theorem dX9_dropTime_29 : decode cX9_dropTime 29 = .ok (.iload_n 1, 1) := by decide +kernel
theorem dX9_dropTime_30 : decode cX9_dropTime 30 = .ok (.invokestatic 194, 3) := by decide +kernel
theorem dX9_dropTime_33 : decode cX9_dropTime 33 = .ok (.invokevirtual 214, 3) := by decide +kernel
theorem dX9_dropTime_36 : decode cX9_dropTime 36 = .ok (.ireturn, 1) := by decide +kernel
theorem dX9_requests_0 : decode cX9_requests 0 = .ok (.aload_n 0, 1) := by decide +kernel
theorem dX9_requests_1 : decode cX9_requests 1 = .ok (.getfield 19, 3) := by decide +kernel
theorem dX9_requests_4 : decode cX9_requests 4 = .ok (.invokevirtual 108, 3) := by decide +kernel
theorem dX9_requests_7 : decode cX9_requests 7 = .ok (.ireturn, 1) := by decide +kernel
theorem dX9_stops_0 : decode cX9_stops 0 = .ok (.aload_n 0, 1) := by decide +kernel
theorem dX9_stops_1 : decode cX9_stops 1 = .ok (.iload_n 1, 1) := by decide +kernel
theorem dX9_stops_2 : decode cX9_stops 2 = .ok (.invokevirtual 182, 3) := by decide +kernel
theorem dX9_stops_5 : decode cX9_stops 5 = .ok (.getfield 142, 3) := by decide +kernel
theorem dX9_stops_8 : decode cX9_stops 8 = .ok (.getfield 224, 3) := by decide +kernel
theorem dX9_stops_11 : decode cX9_stops 11 = .ok (.ireturn, 1) := by decide +kernel
theorem dX9_stopRequest_0 : decode cX9_stopRequest 0 = .ok (.aload_n 0, 1) := by decide +kernel
theorem dX9_stopRequest_1 : decode cX9_stopRequest 1 = .ok (.iload_n 1, 1) := by decide +kernel
theorem dX9_stopRequest_2 : decode cX9_stopRequest 2 = .ok (.invokevirtual 182, 3) := by decide +kernel
theorem dX9_stopRequest_5 : decode cX9_stopRequest 5 = .ok (.getfield 142, 3) := by decide +kernel
theorem dX9_stopRequest_8 : decode cX9_stopRequest 8 = .ok (.astore_n 3, 1) := by decide +kernel
theorem dX9_stopRequest_9 : decode cX9_stopRequest 9 = .ok (.aload_n 0, 1) := by decide +kernel
theorem dX9_stopRequest_10 : decode cX9_stopRequest 10 = .ok (.aload_n 3, 1) := by decide +kernel
theorem dX9_stopRequest_11 : decode cX9_stopRequest 11 = .ok (.iload_n 2, 1) := by decide +kernel
theorem dX9_stopRequest_12 : decode cX9_stopRequest 12 = .ok (.invokevirtual 226, 3) := by decide +kernel
theorem dX9_stopRequest_15 : decode cX9_stopRequest 15 = .ok (.aload_n 3, 1) := by decide +kernel
theorem dX9_stopRequest_16 : decode cX9_stopRequest 16 = .ok (.iload_n 2, 1) := by decide +kernel
theorem dX9_stopRequest_17 : decode cX9_stopRequest 17 = .ok (.invokevirtual 229, 3) := by decide +kernel
theorem dX9_stopRequest_20 : decode cX9_stopRequest 20 = .ok (.invokestatic 232, 3) := by decide +kernel
theorem dX9_stopRequest_23 : decode cX9_stopRequest 23 = .ok (.ireturn, 1) := by decide +kernel
theorem dX9_isPickup_0 : decode cX9_isPickup 0 = .ok (.aload_n 0, 1) := by decide +kernel
theorem dX9_isPickup_1 : decode cX9_isPickup 1 = .ok (.iload_n 1, 1) := by decide +kernel
theorem dX9_isPickup_2 : decode cX9_isPickup 2 = .ok (.invokevirtual 182, 3) := by decide +kernel
theorem dX9_isPickup_5 : decode cX9_isPickup 5 = .ok (.getfield 142, 3) := by decide +kernel
theorem dX9_isPickup_8 : decode cX9_isPickup 8 = .ok (.astore_n 3, 1) := by decide +kernel
theorem dX9_isPickup_9 : decode cX9_isPickup 9 = .ok (.aload_n 0, 1) := by decide +kernel
theorem dX9_isPickup_10 : decode cX9_isPickup 10 = .ok (.aload_n 3, 1) := by decide +kernel
theorem dX9_isPickup_11 : decode cX9_isPickup 11 = .ok (.iload_n 2, 1) := by decide +kernel
theorem dX9_isPickup_12 : decode cX9_isPickup 12 = .ok (.invokevirtual 226, 3) := by decide +kernel
theorem dX9_isPickup_15 : decode cX9_isPickup 15 = .ok (.aload_n 3, 1) := by decide +kernel
theorem dX9_isPickup_16 : decode cX9_isPickup 16 = .ok (.iload_n 2, 1) := by decide +kernel
theorem dX9_isPickup_17 : decode cX9_isPickup 17 = .ok (.invokevirtual 229, 3) := by decide +kernel
theorem dX9_isPickup_20 : decode cX9_isPickup 20 = .ok (.invokestatic 235, 3) := by decide +kernel
theorem dX9_isPickup_23 : decode cX9_isPickup 23 = .ok (.ireturn, 1) := by decide +kernel
theorem dX9_stopTime_0 : decode cX9_stopTime 0 = .ok (.aload_n 0, 1) := by decide +kernel
theorem dX9_stopTime_1 : decode cX9_stopTime 1 = .ok (.iload_n 1, 1) := by decide +kernel
theorem dX9_stopTime_2 : decode cX9_stopTime 2 = .ok (.invokevirtual 182, 3) := by decide +kernel
theorem dX9_stopTime_5 : decode cX9_stopTime 5 = .ok (.astore_n 3, 1) := by decide +kernel
theorem dX9_stopTime_6 : decode cX9_stopTime 6 = .ok (.aload_n 0, 1) := by decide +kernel
theorem dX9_stopTime_7 : decode cX9_stopTime 7 = .ok (.aload_n 3, 1) := by decide +kernel
theorem dX9_stopTime_8 : decode cX9_stopTime 8 = .ok (.getfield 142, 3) := by decide +kernel
theorem dX9_stopTime_11 : decode cX9_stopTime 11 = .ok (.iload_n 2, 1) := by decide +kernel
theorem dX9_stopTime_12 : decode cX9_stopTime 12 = .ok (.invokevirtual 226, 3) := by decide +kernel
theorem dX9_stopTime_15 : decode cX9_stopTime 15 = .ok (.aload_n 0, 1) := by decide +kernel
theorem dX9_stopTime_16 : decode cX9_stopTime 16 = .ok (.aload_n 3, 1) := by decide +kernel
theorem dX9_stopTime_17 : decode cX9_stopTime 17 = .ok (.aload_n 3, 1) := by decide +kernel
theorem dX9_stopTime_18 : decode cX9_stopTime 18 = .ok (.getfield 142, 3) := by decide +kernel
theorem dX9_stopTime_21 : decode cX9_stopTime 21 = .ok (.iload_n 2, 1) := by decide +kernel
theorem dX9_stopTime_22 : decode cX9_stopTime 22 = .ok (.invokevirtual 229, 3) := by decide +kernel
theorem dX9_stopTime_25 : decode cX9_stopTime 25 = .ok (.invokevirtual 214, 3) := by decide +kernel
theorem dX9_stopTime_28 : decode cX9_stopTime 28 = .ok (.ireturn, 1) := by decide +kernel
theorem dX9_length_0 : decode cX9_length 0 = .ok (.aload_n 0, 1) := by decide +kernel
theorem dX9_length_1 : decode cX9_length 1 = .ok (.iload_n 1, 1) := by decide +kernel
theorem dX9_length_2 : decode cX9_length 2 = .ok (.invokevirtual 182, 3) := by decide +kernel
theorem dX9_length_5 : decode cX9_length 5 = .ok (.astore_n 2, 1) := by decide +kernel
theorem dX9_length_6 : decode cX9_length 6 = .ok (.aload_n 0, 1) := by decide +kernel
theorem dX9_length_7 : decode cX9_length 7 = .ok (.getfield 35, 3) := by decide +kernel
theorem dX9_length_10 : decode cX9_length 10 = .ok (.aload_n 2, 1) := by decide +kernel
theorem dX9_length_11 : decode cX9_length 11 = .ok (.aload_n 2, 1) := by decide +kernel
theorem dX9_length_12 : decode cX9_length 12 = .ok (.getfield 142, 3) := by decide +kernel
theorem dX9_length_15 : decode cX9_length 15 = .ok (.invokevirtual 239, 3) := by decide +kernel
theorem dX9_length_18 : decode cX9_length 18 = .ok (.ireturn, 1) := by decide +kernel
theorem dX9_bestLength_0 : decode cX9_bestLength 0 = .ok (.aload_n 0, 1) := by decide +kernel
theorem dX9_bestLength_1 : decode cX9_bestLength 1 = .ok (.iload_n 1, 1) := by decide +kernel
theorem dX9_bestLength_2 : decode cX9_bestLength 2 = .ok (.invokevirtual 182, 3) := by decide +kernel
theorem dX9_bestLength_5 : decode cX9_bestLength 5 = .ok (.astore_n 2, 1) := by decide +kernel
theorem dX9_bestLength_6 : decode cX9_bestLength 6 = .ok (.aload_n 0, 1) := by decide +kernel
theorem dX9_bestLength_7 : decode cX9_bestLength 7 = .ok (.getfield 54, 3) := by decide +kernel
theorem dX9_bestLength_10 : decode cX9_bestLength 10 = .ok (.aload_n 2, 1) := by decide +kernel
theorem dX9_bestLength_11 : decode cX9_bestLength 11 = .ok (.aload_n 0, 1) := by decide +kernel
theorem dX9_bestLength_12 : decode cX9_bestLength 12 = .ok (.getfield 58, 3) := by decide +kernel
theorem dX9_bestLength_15 : decode cX9_bestLength 15 = .ok (.invokevirtual 243, 3) := by decide +kernel
theorem dX9_bestLength_18 : decode cX9_bestLength 18 = .ok (.aload_n 0, 1) := by decide +kernel
theorem dX9_bestLength_19 : decode cX9_bestLength 19 = .ok (.getfield 35, 3) := by decide +kernel
theorem dX9_bestLength_22 : decode cX9_bestLength 22 = .ok (.aload_n 2, 1) := by decide +kernel
theorem dX9_bestLength_23 : decode cX9_bestLength 23 = .ok (.aload_n 0, 1) := by decide +kernel
theorem dX9_bestLength_24 : decode cX9_bestLength 24 = .ok (.getfield 54, 3) := by decide +kernel
theorem dX9_bestLength_27 : decode cX9_bestLength 27 = .ok (.getfield 246, 3) := by decide +kernel
theorem dX9_bestLength_30 : decode cX9_bestLength 30 = .ok (.invokevirtual 239, 3) := by decide +kernel
theorem dX9_bestLength_33 : decode cX9_bestLength 33 = .ok (.ireturn, 1) := by decide +kernel
theorem dX9_bestLengthByTrying_0 : decode cX9_bestLengthByTrying 0 = .ok (.aload_n 0, 1) := by decide +kernel
theorem dX9_bestLengthByTrying_1 : decode cX9_bestLengthByTrying 1 = .ok (.iload_n 1, 1) := by decide +kernel
theorem dX9_bestLengthByTrying_2 : decode cX9_bestLengthByTrying 2 = .ok (.invokevirtual 182, 3) := by decide +kernel
theorem dX9_bestLengthByTrying_5 : decode cX9_bestLengthByTrying 5 = .ok (.astore_n 2, 1) := by decide +kernel
theorem dX9_bestLengthByTrying_6 : decode cX9_bestLengthByTrying 6 = .ok (.aload_n 0, 1) := by decide +kernel
theorem dX9_bestLengthByTrying_7 : decode cX9_bestLengthByTrying 7 = .ok (.getfield 54, 3) := by decide +kernel
theorem dX9_bestLengthByTrying_10 : decode cX9_bestLengthByTrying 10 = .ok (.aload_n 2, 1) := by decide +kernel
theorem dX9_bestLengthByTrying_11 : decode cX9_bestLengthByTrying 11 = .ok (.aload_n 0, 1) := by decide +kernel
theorem dX9_bestLengthByTrying_12 : decode cX9_bestLengthByTrying 12 = .ok (.getfield 58, 3) := by decide +kernel
theorem dX9_bestLengthByTrying_15 : decode cX9_bestLengthByTrying 15 = .ok (.invokevirtual 249, 3) := by decide +kernel
theorem dX9_bestLengthByTrying_18 : decode cX9_bestLengthByTrying 18 = .ok (.aload_n 0, 1) := by decide +kernel
theorem dX9_bestLengthByTrying_19 : decode cX9_bestLengthByTrying 19 = .ok (.getfield 35, 3) := by decide +kernel
theorem dX9_bestLengthByTrying_22 : decode cX9_bestLengthByTrying 22 = .ok (.aload_n 2, 1) := by decide +kernel
theorem dX9_bestLengthByTrying_23 : decode cX9_bestLengthByTrying 23 = .ok (.aload_n 0, 1) := by decide +kernel
theorem dX9_bestLengthByTrying_24 : decode cX9_bestLengthByTrying 24 = .ok (.getfield 54, 3) := by decide +kernel
theorem dX9_bestLengthByTrying_27 : decode cX9_bestLengthByTrying 27 = .ok (.getfield 246, 3) := by decide +kernel
theorem dX9_bestLengthByTrying_30 : decode cX9_bestLengthByTrying 30 = .ok (.invokevirtual 239, 3) := by decide +kernel
theorem dX9_bestLengthByTrying_33 : decode cX9_bestLengthByTrying 33 = .ok (.ireturn, 1) := by decide +kernel
theorem dX9_improve_0 : decode cX9_improve 0 = .ok (.aload_n 0, 1) := by decide +kernel
theorem dX9_improve_1 : decode cX9_improve 1 = .ok (.iload_n 1, 1) := by decide +kernel
theorem dX9_improve_2 : decode cX9_improve 2 = .ok (.invokevirtual 182, 3) := by decide +kernel
theorem dX9_improve_5 : decode cX9_improve 5 = .ok (.astore_n 2, 1) := by decide +kernel
theorem dX9_improve_6 : decode cX9_improve 6 = .ok (.aload_n 0, 1) := by decide +kernel
theorem dX9_improve_7 : decode cX9_improve 7 = .ok (.getfield 35, 3) := by decide +kernel
theorem dX9_improve_10 : decode cX9_improve 10 = .ok (.aload_n 2, 1) := by decide +kernel
theorem dX9_improve_11 : decode cX9_improve 11 = .ok (.aload_n 2, 1) := by decide +kernel
theorem dX9_improve_12 : decode cX9_improve 12 = .ok (.getfield 142, 3) := by decide +kernel
theorem dX9_improve_15 : decode cX9_improve 15 = .ok (.invokevirtual 239, 3) := by decide +kernel
theorem dX9_improve_18 : decode cX9_improve 18 = .ok (.istore_n 3, 1) := by decide +kernel
theorem dX9_improve_19 : decode cX9_improve 19 = .ok (.aload_n 0, 1) := by decide +kernel
theorem dX9_improve_20 : decode cX9_improve 20 = .ok (.getfield 54, 3) := by decide +kernel
theorem dX9_improve_23 : decode cX9_improve 23 = .ok (.aload_n 2, 1) := by decide +kernel
theorem dX9_improve_24 : decode cX9_improve 24 = .ok (.aload_n 0, 1) := by decide +kernel
theorem dX9_improve_25 : decode cX9_improve 25 = .ok (.getfield 58, 3) := by decide +kernel
theorem dX9_improve_28 : decode cX9_improve 28 = .ok (.invokevirtual 243, 3) := by decide +kernel
theorem dX9_improve_31 : decode cX9_improve 31 = .ok (.aload_n 2, 1) := by decide +kernel
theorem dX9_improve_32 : decode cX9_improve 32 = .ok (.getfield 142, 3) := by decide +kernel
theorem dX9_improve_35 : decode cX9_improve 35 = .ok (.aload_n 0, 1) := by decide +kernel
theorem dX9_improve_36 : decode cX9_improve 36 = .ok (.getfield 54, 3) := by decide +kernel
theorem dX9_improve_39 : decode cX9_improve 39 = .ok (.getfield 246, 3) := by decide +kernel
theorem dX9_improve_42 : decode cX9_improve 42 = .ok (.invokevirtual 153, 3) := by decide +kernel
theorem dX9_improve_45 : decode cX9_improve 45 = .ok (.aload_n 0, 1) := by decide +kernel
theorem dX9_improve_46 : decode cX9_improve 46 = .ok (.getfield 35, 3) := by decide +kernel
theorem dX9_improve_49 : decode cX9_improve 49 = .ok (.aload_n 2, 1) := by decide +kernel
theorem dX9_improve_50 : decode cX9_improve 50 = .ok (.aload_n 2, 1) := by decide +kernel
theorem dX9_improve_51 : decode cX9_improve 51 = .ok (.getfield 142, 3) := by decide +kernel
theorem dX9_improve_54 : decode cX9_improve 54 = .ok (.invokevirtual 239, 3) := by decide +kernel
theorem dX9_improve_57 : decode cX9_improve 57 = .ok (.istore 4, 2) := by decide +kernel
theorem dX9_improve_59 : decode cX9_improve 59 = .ok (.aload_n 0, 1) := by decide +kernel
theorem dX9_improve_60 : decode cX9_improve 60 = .ok (.aload_n 2, 1) := by decide +kernel
theorem dX9_improve_61 : decode cX9_improve 61 = .ok (.invokevirtual 159, 3) := by decide +kernel
theorem dX9_improve_64 : decode cX9_improve 64 = .ok (.pop, 1) := by decide +kernel
theorem dX9_improve_65 : decode cX9_improve 65 = .ok (.iload_n 3, 1) := by decide +kernel
theorem dX9_improve_66 : decode cX9_improve 66 = .ok (.iload 4, 2) := by decide +kernel
theorem dX9_improve_68 : decode cX9_improve 68 = .ok (.isub, 1) := by decide +kernel
theorem dX9_improve_69 : decode cX9_improve 69 = .ok (.ireturn, 1) := by decide +kernel
theorem dX9_pass_0 : decode cX9_pass 0 = .ok (.iload_n 1, 1) := by decide +kernel
theorem dX9_pass_1 : decode cX9_pass 1 = .ok (.iconst 1, 1) := by decide +kernel
theorem dX9_pass_2 : decode cX9_pass 2 = .ok (.bipush 60, 2) := by decide +kernel
theorem dX9_pass_4 : decode cX9_pass 4 = .ok (.invokestatic 68, 3) := by decide +kernel
theorem dX9_pass_7 : decode cX9_pass 7 = .ok (.ifCond .ne 13, 3) := by decide +kernel
theorem dX9_pass_10 : decode cX9_pass 10 = .ok (.new 72, 3) := by decide +kernel
theorem dX9_pass_13 : decode cX9_pass 13 = .ok (.dup, 1) := by decide +kernel
theorem dX9_pass_14 : decode cX9_pass 14 = .ok (.ldc 251, 2) := by decide +kernel
theorem dX9_pass_16 : decode cX9_pass 16 = .ok (.invokespecial 76, 3) := by decide +kernel
theorem dX9_pass_19 : decode cX9_pass 19 = .ok (.athrow, 1) := by decide +kernel
theorem dX9_pass_20 : decode cX9_pass 20 = .ok (.iconst 0, 1) := by decide +kernel
theorem dX9_pass_21 : decode cX9_pass 21 = .ok (.istore_n 2, 1) := by decide +kernel
theorem dX9_pass_22 : decode cX9_pass 22 = .ok (.iconst 0, 1) := by decide +kernel
theorem dX9_pass_23 : decode cX9_pass 23 = .ok (.istore_n 3, 1) := by decide +kernel
theorem dX9_pass_24 : decode cX9_pass 24 = .ok (.iload_n 3, 1) := by decide +kernel
theorem dX9_pass_25 : decode cX9_pass 25 = .ok (.iload_n 1, 1) := by decide +kernel
theorem dX9_pass_26 : decode cX9_pass 26 = .ok (.if_icmp .ge 69, 3) := by decide +kernel
theorem dX9_pass_29 : decode cX9_pass 29 = .ok (.aload_n 0, 1) := by decide +kernel
theorem dX9_pass_30 : decode cX9_pass 30 = .ok (.dup, 1) := by decide +kernel
theorem dX9_pass_31 : decode cX9_pass 31 = .ok (.getfield 58, 3) := by decide +kernel
theorem dX9_pass_34 : decode cX9_pass 34 = .ok (.iconst 1, 1) := by decide +kernel
theorem dX9_pass_35 : decode cX9_pass 35 = .ok (.iadd, 1) := by decide +kernel
theorem dX9_pass_36 : decode cX9_pass 36 = .ok (.putfield 58, 3) := by decide +kernel
theorem dX9_pass_39 : decode cX9_pass 39 = .ok (.iconst 0, 1) := by decide +kernel
theorem dX9_pass_40 : decode cX9_pass 40 = .ok (.istore 4, 2) := by decide +kernel
theorem dX9_pass_42 : decode cX9_pass 42 = .ok (.iload 4, 2) := by decide +kernel
theorem dX9_pass_44 : decode cX9_pass 44 = .ok (.aload_n 0, 1) := by decide +kernel
theorem dX9_pass_45 : decode cX9_pass 45 = .ok (.getfield 12, 3) := by decide +kernel
theorem dX9_pass_48 : decode cX9_pass 48 = .ok (.invokevirtual 87, 3) := by decide +kernel
theorem dX9_pass_51 : decode cX9_pass 51 = .ok (.if_icmp .ge 38, 3) := by decide +kernel
theorem dX9_pass_54 : decode cX9_pass 54 = .ok (.aload_n 0, 1) := by decide +kernel
theorem dX9_pass_55 : decode cX9_pass 55 = .ok (.getfield 12, 3) := by decide +kernel
theorem dX9_pass_58 : decode cX9_pass 58 = .ok (.iload 4, 2) := by decide +kernel
theorem dX9_pass_60 : decode cX9_pass 60 = .ok (.invokevirtual 128, 3) := by decide +kernel
theorem dX9_pass_63 : decode cX9_pass 63 = .ok (.checkcast 96, 3) := by decide +kernel
theorem dX9_pass_66 : decode cX9_pass 66 = .ok (.astore 5, 2) := by decide +kernel
theorem dX9_pass_68 : decode cX9_pass 68 = .ok (.aload_n 0, 1) := by decide +kernel
theorem dX9_pass_69 : decode cX9_pass 69 = .ok (.aload 5, 2) := by decide +kernel
theorem dX9_pass_71 : decode cX9_pass 71 = .ok (.invokevirtual 253, 3) := by decide +kernel
theorem dX9_pass_74 : decode cX9_pass 74 = .ok (.iload_n 2, 1) := by decide +kernel
theorem dX9_pass_75 : decode cX9_pass 75 = .ok (.aload_n 0, 1) := by decide +kernel
theorem dX9_pass_76 : decode cX9_pass 76 = .ok (.aload 5, 2) := by decide +kernel
theorem dX9_pass_78 : decode cX9_pass 78 = .ok (.invokevirtual 159, 3) := by decide +kernel
theorem dX9_pass_81 : decode cX9_pass 81 = .ok (.iadd, 1) := by decide +kernel
theorem dX9_pass_82 : decode cX9_pass 82 = .ok (.istore_n 2, 1) := by decide +kernel
theorem dX9_pass_83 : decode cX9_pass 83 = .ok (.iinc 4 1, 3) := by decide +kernel
theorem dX9_pass_86 : decode cX9_pass 86 = .ok (.goto (-44), 3) := by decide +kernel
theorem dX9_pass_89 : decode cX9_pass 89 = .ok (.iinc 3 1, 3) := by decide +kernel
theorem dX9_pass_92 : decode cX9_pass 92 = .ok (.goto (-68), 3) := by decide +kernel
theorem dX9_pass_95 : decode cX9_pass 95 = .ok (.iload_n 2, 1) := by decide +kernel
theorem dX9_pass_96 : decode cX9_pass 96 = .ok (.ireturn, 1) := by decide +kernel
theorem dX9_now_0 : decode cX9_now 0 = .ok (.aload_n 0, 1) := by decide +kernel
theorem dX9_now_1 : decode cX9_now 1 = .ok (.getfield 58, 3) := by decide +kernel
theorem dX9_now_4 : decode cX9_now 4 = .ok (.ireturn, 1) := by decide +kernel
theorem dX9_x_0 : decode cX9_x 0 = .ok (.aload_n 0, 1) := by decide +kernel
theorem dX9_x_1 : decode cX9_x 1 = .ok (.iload_n 1, 1) := by decide +kernel
theorem dX9_x_2 : decode cX9_x 2 = .ok (.invokevirtual 182, 3) := by decide +kernel
theorem dX9_x_5 : decode cX9_x 5 = .ok (.getfield 257, 3) := by decide +kernel
theorem dX9_x_8 : decode cX9_x 8 = .ok (.ireturn, 1) := by decide +kernel
theorem dX9_y_0 : decode cX9_y 0 = .ok (.aload_n 0, 1) := by decide +kernel
theorem dX9_y_1 : decode cX9_y 1 = .ok (.iload_n 1, 1) := by decide +kernel
theorem dX9_y_2 : decode cX9_y 2 = .ok (.invokevirtual 182, 3) := by decide +kernel
theorem dX9_y_5 : decode cX9_y 5 = .ok (.getfield 260, 3) := by decide +kernel
theorem dX9_y_8 : decode cX9_y 8 = .ok (.ireturn, 1) := by decide +kernel
theorem dX9_charge_0 : decode cX9_charge 0 = .ok (.aload_n 0, 1) := by decide +kernel
theorem dX9_charge_1 : decode cX9_charge 1 = .ok (.iload_n 1, 1) := by decide +kernel
theorem dX9_charge_2 : decode cX9_charge 2 = .ok (.invokevirtual 182, 3) := by decide +kernel
theorem dX9_charge_5 : decode cX9_charge 5 = .ok (.getfield 263, 3) := by decide +kernel
theorem dX9_charge_8 : decode cX9_charge 8 = .ok (.ireturn, 1) := by decide +kernel
theorem dX9_onBoard_0 : decode cX9_onBoard 0 = .ok (.aload_n 0, 1) := by decide +kernel
theorem dX9_onBoard_1 : decode cX9_onBoard 1 = .ok (.iload_n 1, 1) := by decide +kernel
theorem dX9_onBoard_2 : decode cX9_onBoard 2 = .ok (.invokevirtual 182, 3) := by decide +kernel
theorem dX9_onBoard_5 : decode cX9_onBoard 5 = .ok (.getfield 266, 3) := by decide +kernel
theorem dX9_onBoard_8 : decode cX9_onBoard 8 = .ok (.ireturn, 1) := by decide +kernel
theorem dX9_driven_0 : decode cX9_driven 0 = .ok (.aload_n 0, 1) := by decide +kernel
theorem dX9_driven_1 : decode cX9_driven 1 = .ok (.iload_n 1, 1) := by decide +kernel
theorem dX9_driven_2 : decode cX9_driven 2 = .ok (.invokevirtual 182, 3) := by decide +kernel
theorem dX9_driven_5 : decode cX9_driven 5 = .ok (.getfield 269, 3) := by decide +kernel
theorem dX9_driven_8 : decode cX9_driven 8 = .ok (.ireturn, 1) := by decide +kernel
theorem dX9_empty_0 : decode cX9_empty 0 = .ok (.aload_n 0, 1) := by decide +kernel
theorem dX9_empty_1 : decode cX9_empty 1 = .ok (.iload_n 1, 1) := by decide +kernel
theorem dX9_empty_2 : decode cX9_empty 2 = .ok (.invokevirtual 182, 3) := by decide +kernel
theorem dX9_empty_5 : decode cX9_empty 5 = .ok (.getfield 272, 3) := by decide +kernel
theorem dX9_empty_8 : decode cX9_empty 8 = .ok (.ireturn, 1) := by decide +kernel
theorem dX9_emptyByJournal_0 : decode cX9_emptyByJournal 0 = .ok (.aload_n 0, 1) := by decide +kernel
theorem dX9_emptyByJournal_1 : decode cX9_emptyByJournal 1 = .ok (.iload_n 1, 1) := by decide +kernel
theorem dX9_emptyByJournal_2 : decode cX9_emptyByJournal 2 = .ok (.invokevirtual 182, 3) := by decide +kernel
theorem dX9_emptyByJournal_5 : decode cX9_emptyByJournal 5 = .ok (.astore_n 2, 1) := by decide +kernel
theorem dX9_emptyByJournal_6 : decode cX9_emptyByJournal 6 = .ok (.aload_n 0, 1) := by decide +kernel
theorem dX9_emptyByJournal_7 : decode cX9_emptyByJournal 7 = .ok (.getfield 26, 3) := by decide +kernel
theorem dX9_emptyByJournal_10 : decode cX9_emptyByJournal 10 = .ok (.aload_n 2, 1) := by decide +kernel
theorem dX9_emptyByJournal_11 : decode cX9_emptyByJournal 11 = .ok (.getfield 138, 3) := by decide +kernel
theorem dX9_emptyByJournal_14 : decode cX9_emptyByJournal 14 = .ok (.aload_n 2, 1) := by decide +kernel
theorem dX9_emptyByJournal_15 : decode cX9_emptyByJournal 15 = .ok (.getfield 269, 3) := by decide +kernel
theorem dX9_emptyByJournal_18 : decode cX9_emptyByJournal 18 = .ok (.aload_n 0, 1) := by decide +kernel
theorem dX9_emptyByJournal_19 : decode cX9_emptyByJournal 19 = .ok (.getfield 19, 3) := by decide +kernel
theorem dX9_emptyByJournal_22 : decode cX9_emptyByJournal 22 = .ok (.invokevirtual 275, 3) := by decide +kernel
theorem dX9_emptyByJournal_25 : decode cX9_emptyByJournal 25 = .ok (.ireturn, 1) := by decide +kernel
theorem dX9_occupancy_0 : decode cX9_occupancy 0 = .ok (.aload_n 0, 1) := by decide +kernel
theorem dX9_occupancy_1 : decode cX9_occupancy 1 = .ok (.iload_n 1, 1) := by decide +kernel
theorem dX9_occupancy_2 : decode cX9_occupancy 2 = .ok (.invokevirtual 182, 3) := by decide +kernel
theorem dX9_occupancy_5 : decode cX9_occupancy 5 = .ok (.astore_n 2, 1) := by decide +kernel
theorem dX9_occupancy_6 : decode cX9_occupancy 6 = .ok (.aload_n 2, 1) := by decide +kernel
theorem dX9_occupancy_7 : decode cX9_occupancy 7 = .ok (.getfield 269, 3) := by decide +kernel
theorem dX9_occupancy_10 : decode cX9_occupancy 10 = .ok (.ifCond .gt 14, 3) := by decide +kernel
theorem dX9_occupancy_13 : decode cX9_occupancy 13 = .ok (.new 279, 3) := by decide +kernel
theorem dX9_occupancy_16 : decode cX9_occupancy 16 = .ok (.dup, 1) := by decide +kernel
theorem dX9_occupancy_17 : decode cX9_occupancy 17 = .ok (.ldc_w 281, 3) := by decide +kernel
theorem dX9_occupancy_20 : decode cX9_occupancy 20 = .ok (.invokespecial 283, 3) := by decide +kernel
theorem dX9_occupancy_23 : decode cX9_occupancy 23 = .ok (.athrow, 1) := by decide +kernel
theorem dX9_occupancy_24 : decode cX9_occupancy 24 = .ok (.aload_n 2, 1) := by decide +kernel
theorem dX9_occupancy_25 : decode cX9_occupancy 25 = .ok (.getfield 284, 3) := by decide +kernel
theorem dX9_occupancy_28 : decode cX9_occupancy 28 = .ok (.i2f, 1) := by decide +kernel
theorem dX9_occupancy_29 : decode cX9_occupancy 29 = .ok (.aload_n 2, 1) := by decide +kernel
theorem dX9_occupancy_30 : decode cX9_occupancy 30 = .ok (.getfield 269, 3) := by decide +kernel
theorem dX9_occupancy_33 : decode cX9_occupancy 33 = .ok (.i2f, 1) := by decide +kernel
theorem dX9_occupancy_34 : decode cX9_occupancy 34 = .ok (.fdiv, 1) := by decide +kernel
theorem dX9_occupancy_35 : decode cX9_occupancy 35 = .ok (.freturn, 1) := by decide +kernel
theorem dX9_entries_0 : decode cX9_entries 0 = .ok (.aload_n 0, 1) := by decide +kernel
theorem dX9_entries_1 : decode cX9_entries 1 = .ok (.getfield 26, 3) := by decide +kernel
theorem dX9_entries_4 : decode cX9_entries 4 = .ok (.getfield 287, 3) := by decide +kernel
theorem dX9_entries_7 : decode cX9_entries 7 = .ok (.ireturn, 1) := by decide +kernel
theorem dX9_entryBus_0 : decode cX9_entryBus 0 = .ok (.aload_n 0, 1) := by decide +kernel
theorem dX9_entryBus_1 : decode cX9_entryBus 1 = .ok (.iload_n 1, 1) := by decide +kernel
theorem dX9_entryBus_2 : decode cX9_entryBus 2 = .ok (.invokevirtual 288, 3) := by decide +kernel
theorem dX9_entryBus_5 : decode cX9_entryBus 5 = .ok (.aload_n 0, 1) := by decide +kernel
theorem dX9_entryBus_6 : decode cX9_entryBus 6 = .ok (.getfield 26, 3) := by decide +kernel
theorem dX9_entryBus_9 : decode cX9_entryBus 9 = .ok (.iload_n 1, 1) := by decide +kernel
theorem dX9_entryBus_10 : decode cX9_entryBus 10 = .ok (.invokevirtual 291, 3) := by decide +kernel
theorem dX9_entryBus_13 : decode cX9_entryBus 13 = .ok (.ireturn, 1) := by decide +kernel
theorem dX9_entryRequest_0 : decode cX9_entryRequest 0 = .ok (.aload_n 0, 1) := by decide +kernel
theorem dX9_entryRequest_1 : decode cX9_entryRequest 1 = .ok (.iload_n 1, 1) := by decide +kernel
theorem dX9_entryRequest_2 : decode cX9_entryRequest 2 = .ok (.invokevirtual 288, 3) := by decide +kernel
theorem dX9_entryRequest_5 : decode cX9_entryRequest 5 = .ok (.aload_n 0, 1) := by decide +kernel
theorem dX9_entryRequest_6 : decode cX9_entryRequest 6 = .ok (.getfield 26, 3) := by decide +kernel
theorem dX9_entryRequest_9 : decode cX9_entryRequest 9 = .ok (.iload_n 1, 1) := by decide +kernel
theorem dX9_entryRequest_10 : decode cX9_entryRequest 10 = .ok (.invokevirtual 294, 3) := by decide +kernel
theorem dX9_entryRequest_13 : decode cX9_entryRequest 13 = .ok (.ireturn, 1) := by decide +kernel
theorem dX9_entryTime_0 : decode cX9_entryTime 0 = .ok (.aload_n 0, 1) := by decide +kernel
theorem dX9_entryTime_1 : decode cX9_entryTime 1 = .ok (.iload_n 1, 1) := by decide +kernel
theorem dX9_entryTime_2 : decode cX9_entryTime 2 = .ok (.invokevirtual 288, 3) := by decide +kernel
theorem dX9_entryTime_5 : decode cX9_entryTime 5 = .ok (.aload_n 0, 1) := by decide +kernel
theorem dX9_entryTime_6 : decode cX9_entryTime 6 = .ok (.getfield 26, 3) := by decide +kernel
theorem dX9_entryTime_9 : decode cX9_entryTime 9 = .ok (.iload_n 1, 1) := by decide +kernel
theorem dX9_entryTime_10 : decode cX9_entryTime 10 = .ok (.invokevirtual 297, 3) := by decide +kernel
theorem dX9_entryTime_13 : decode cX9_entryTime 13 = .ok (.ireturn, 1) := by decide +kernel
theorem dX9_entryDistance_0 : decode cX9_entryDistance 0 = .ok (.aload_n 0, 1) := by decide +kernel
theorem dX9_entryDistance_1 : decode cX9_entryDistance 1 = .ok (.iload_n 1, 1) := by decide +kernel
theorem dX9_entryDistance_2 : decode cX9_entryDistance 2 = .ok (.invokevirtual 288, 3) := by decide +kernel
theorem dX9_entryDistance_5 : decode cX9_entryDistance 5 = .ok (.aload_n 0, 1) := by decide +kernel
theorem dX9_entryDistance_6 : decode cX9_entryDistance 6 = .ok (.getfield 26, 3) := by decide +kernel
theorem dX9_entryDistance_9 : decode cX9_entryDistance 9 = .ok (.iload_n 1, 1) := by decide +kernel
theorem dX9_entryDistance_10 : decode cX9_entryDistance 10 = .ok (.invokevirtual 300, 3) := by decide +kernel
theorem dX9_entryDistance_13 : decode cX9_entryDistance 13 = .ok (.ireturn, 1) := by decide +kernel
theorem dX9_worstRide_0 : decode cX9_worstRide 0 = .ok (.iconst (-1), 1) := by decide +kernel
theorem dX9_worstRide_1 : decode cX9_worstRide 1 = .ok (.istore_n 1, 1) := by decide +kernel
theorem dX9_worstRide_2 : decode cX9_worstRide 2 = .ok (.iconst 0, 1) := by decide +kernel
theorem dX9_worstRide_3 : decode cX9_worstRide 3 = .ok (.istore_n 2, 1) := by decide +kernel
theorem dX9_worstRide_4 : decode cX9_worstRide 4 = .ok (.iload_n 2, 1) := by decide +kernel
theorem dX9_worstRide_5 : decode cX9_worstRide 5 = .ok (.aload_n 0, 1) := by decide +kernel
theorem dX9_worstRide_6 : decode cX9_worstRide 6 = .ok (.getfield 19, 3) := by decide +kernel
theorem dX9_worstRide_9 : decode cX9_worstRide 9 = .ok (.invokevirtual 108, 3) := by decide +kernel
theorem dX9_worstRide_12 : decode cX9_worstRide 12 = .ok (.if_icmp .ge 46, 3) := by decide +kernel
theorem dX9_worstRide_15 : decode cX9_worstRide 15 = .ok (.aload_n 0, 1) := by decide +kernel
theorem dX9_worstRide_16 : decode cX9_worstRide 16 = .ok (.getfield 19, 3) := by decide +kernel
theorem dX9_worstRide_19 : decode cX9_worstRide 19 = .ok (.iload_n 2, 1) := by decide +kernel
theorem dX9_worstRide_20 : decode cX9_worstRide 20 = .ok (.invokevirtual 303, 3) := by decide +kernel
theorem dX9_worstRide_23 : decode cX9_worstRide 23 = .ok (.astore_n 3, 1) := by decide +kernel
theorem dX9_worstRide_24 : decode cX9_worstRide 24 = .ok (.aload_n 3, 1) := by decide +kernel
theorem dX9_worstRide_25 : decode cX9_worstRide 25 = .ok (.getfield 132, 3) := by decide +kernel
theorem dX9_worstRide_28 : decode cX9_worstRide 28 = .ok (.bipush 100, 2) := by decide +kernel
theorem dX9_worstRide_30 : decode cX9_worstRide 30 = .ok (.if_icmp .ne 22, 3) := by decide +kernel
theorem dX9_worstRide_33 : decode cX9_worstRide 33 = .ok (.iload_n 1, 1) := by decide +kernel
theorem dX9_worstRide_34 : decode cX9_worstRide 34 = .ok (.aload_n 3, 1) := by decide +kernel
theorem dX9_worstRide_35 : decode cX9_worstRide 35 = .ok (.getfield 221, 3) := by decide +kernel
theorem dX9_worstRide_38 : decode cX9_worstRide 38 = .ok (.aload_n 3, 1) := by decide +kernel
theorem dX9_worstRide_39 : decode cX9_worstRide 39 = .ok (.getfield 218, 3) := by decide +kernel
theorem dX9_worstRide_42 : decode cX9_worstRide 42 = .ok (.isub, 1) := by decide +kernel
theorem dX9_worstRide_43 : decode cX9_worstRide 43 = .ok (.aload_n 3, 1) := by decide +kernel
theorem dX9_worstRide_44 : decode cX9_worstRide 44 = .ok (.getfield 305, 3) := by decide +kernel
theorem dX9_worstRide_47 : decode cX9_worstRide 47 = .ok (.isub, 1) := by decide +kernel
theorem dX9_worstRide_48 : decode cX9_worstRide 48 = .ok (.invokestatic 308, 3) := by decide +kernel
theorem dX9_worstRide_51 : decode cX9_worstRide 51 = .ok (.istore_n 1, 1) := by decide +kernel
theorem dX9_worstRide_52 : decode cX9_worstRide 52 = .ok (.iinc 2 1, 3) := by decide +kernel
theorem dX9_worstRide_55 : decode cX9_worstRide 55 = .ok (.goto (-51), 3) := by decide +kernel
theorem dX9_worstRide_58 : decode cX9_worstRide 58 = .ok (.iload_n 1, 1) := by decide +kernel
theorem dX9_worstRide_59 : decode cX9_worstRide 59 = .ok (.iconst (-1), 1) := by decide +kernel
theorem dX9_worstRide_60 : decode cX9_worstRide 60 = .ok (.if_icmp .ne 14, 3) := by decide +kernel
theorem dX9_worstRide_63 : decode cX9_worstRide 63 = .ok (.new 279, 3) := by decide +kernel
theorem dX9_worstRide_66 : decode cX9_worstRide 66 = .ok (.dup, 1) := by decide +kernel
theorem dX9_worstRide_67 : decode cX9_worstRide 67 = .ok (.ldc_w 314, 3) := by decide +kernel
theorem dX9_worstRide_70 : decode cX9_worstRide 70 = .ok (.invokespecial 283, 3) := by decide +kernel
theorem dX9_worstRide_73 : decode cX9_worstRide 73 = .ok (.athrow, 1) := by decide +kernel
theorem dX9_worstRide_74 : decode cX9_worstRide 74 = .ok (.iload_n 1, 1) := by decide +kernel
theorem dX9_worstRide_75 : decode cX9_worstRide 75 = .ok (.ireturn, 1) := by decide +kernel
theorem dX9_keptBus_0 : decode cX9_keptBus 0 = .ok (.iload_n 1, 1) := by decide +kernel
theorem dX9_keptBus_1 : decode cX9_keptBus 1 = .ok (.ifCond .lt 14, 3) := by decide +kernel
theorem dX9_keptBus_4 : decode cX9_keptBus 4 = .ok (.iload_n 1, 1) := by decide +kernel
theorem dX9_keptBus_5 : decode cX9_keptBus 5 = .ok (.aload_n 0, 1) := by decide +kernel
theorem dX9_keptBus_6 : decode cX9_keptBus 6 = .ok (.getfield 12, 3) := by decide +kernel
theorem dX9_keptBus_9 : decode cX9_keptBus 9 = .ok (.invokevirtual 87, 3) := by decide +kernel
theorem dX9_keptBus_12 : decode cX9_keptBus 12 = .ok (.if_icmp .lt 13, 3) := by decide +kernel
theorem dX9_keptBus_15 : decode cX9_keptBus 15 = .ok (.new 316, 3) := by decide +kernel
theorem dX9_keptBus_18 : decode cX9_keptBus 18 = .ok (.dup, 1) := by decide +kernel
theorem dX9_keptBus_19 : decode cX9_keptBus 19 = .ok (.ldc 85, 2) := by decide +kernel
theorem dX9_keptBus_21 : decode cX9_keptBus 21 = .ok (.invokespecial 318, 3) := by decide +kernel
theorem dX9_keptBus_24 : decode cX9_keptBus 24 = .ok (.athrow, 1) := by decide +kernel
theorem dX9_keptBus_25 : decode cX9_keptBus 25 = .ok (.aload_n 0, 1) := by decide +kernel
theorem dX9_keptBus_26 : decode cX9_keptBus 26 = .ok (.getfield 12, 3) := by decide +kernel
theorem dX9_keptBus_29 : decode cX9_keptBus 29 = .ok (.iload_n 1, 1) := by decide +kernel
theorem dX9_keptBus_30 : decode cX9_keptBus 30 = .ok (.invokevirtual 128, 3) := by decide +kernel
theorem dX9_keptBus_33 : decode cX9_keptBus 33 = .ok (.checkcast 96, 3) := by decide +kernel
theorem dX9_keptBus_36 : decode cX9_keptBus 36 = .ok (.areturn, 1) := by decide +kernel
theorem dX9_keptRequest_0 : decode cX9_keptRequest 0 = .ok (.iload_n 1, 1) := by decide +kernel
theorem dX9_keptRequest_1 : decode cX9_keptRequest 1 = .ok (.ifCond .lt 14, 3) := by decide +kernel
theorem dX9_keptRequest_4 : decode cX9_keptRequest 4 = .ok (.iload_n 1, 1) := by decide +kernel
theorem dX9_keptRequest_5 : decode cX9_keptRequest 5 = .ok (.aload_n 0, 1) := by decide +kernel
theorem dX9_keptRequest_6 : decode cX9_keptRequest 6 = .ok (.getfield 19, 3) := by decide +kernel
theorem dX9_keptRequest_9 : decode cX9_keptRequest 9 = .ok (.invokevirtual 108, 3) := by decide +kernel
theorem dX9_keptRequest_12 : decode cX9_keptRequest 12 = .ok (.if_icmp .lt 14, 3) := by decide +kernel
theorem dX9_keptRequest_15 : decode cX9_keptRequest 15 = .ok (.new 316, 3) := by decide +kernel
theorem dX9_keptRequest_18 : decode cX9_keptRequest 18 = .ok (.dup, 1) := by decide +kernel
theorem dX9_keptRequest_19 : decode cX9_keptRequest 19 = .ok (.ldc_w 319, 3) := by decide +kernel
theorem dX9_keptRequest_22 : decode cX9_keptRequest 22 = .ok (.invokespecial 318, 3) := by decide +kernel
theorem dX9_keptRequest_25 : decode cX9_keptRequest 25 = .ok (.athrow, 1) := by decide +kernel
theorem dX9_keptRequest_26 : decode cX9_keptRequest 26 = .ok (.aload_n 0, 1) := by decide +kernel
theorem dX9_keptRequest_27 : decode cX9_keptRequest 27 = .ok (.getfield 19, 3) := by decide +kernel
theorem dX9_keptRequest_30 : decode cX9_keptRequest 30 = .ok (.iload_n 1, 1) := by decide +kernel
theorem dX9_keptRequest_31 : decode cX9_keptRequest 31 = .ok (.invokevirtual 303, 3) := by decide +kernel
theorem dX9_keptRequest_34 : decode cX9_keptRequest 34 = .ok (.areturn, 1) := by decide +kernel
theorem dX9_servedRequest_0 : decode cX9_servedRequest 0 = .ok (.aload_n 0, 1) := by decide +kernel
theorem dX9_servedRequest_1 : decode cX9_servedRequest 1 = .ok (.iload_n 1, 1) := by decide +kernel
theorem dX9_servedRequest_2 : decode cX9_servedRequest 2 = .ok (.invokevirtual 176, 3) := by decide +kernel
theorem dX9_servedRequest_5 : decode cX9_servedRequest 5 = .ok (.astore_n 2, 1) := by decide +kernel
theorem dX9_servedRequest_6 : decode cX9_servedRequest 6 = .ok (.aload_n 2, 1) := by decide +kernel
theorem dX9_servedRequest_7 : decode cX9_servedRequest 7 = .ok (.getfield 132, 3) := by decide +kernel
theorem dX9_servedRequest_10 : decode cX9_servedRequest 10 = .ok (.bipush 120, 2) := by decide +kernel
theorem dX9_servedRequest_12 : decode cX9_servedRequest 12 = .ok (.if_icmp .eq 12, 3) := by decide +kernel
theorem dX9_servedRequest_15 : decode cX9_servedRequest 15 = .ok (.aload_n 2, 1) := by decide +kernel
theorem dX9_servedRequest_16 : decode cX9_servedRequest 16 = .ok (.getfield 132, 3) := by decide +kernel
theorem dX9_servedRequest_19 : decode cX9_servedRequest 19 = .ok (.bipush 99, 2) := by decide +kernel
theorem dX9_servedRequest_21 : decode cX9_servedRequest 21 = .ok (.if_icmp .ne 14, 3) := by decide +kernel
theorem dX9_servedRequest_24 : decode cX9_servedRequest 24 = .ok (.new 91, 3) := by decide +kernel
theorem dX9_servedRequest_27 : decode cX9_servedRequest 27 = .ok (.dup, 1) := by decide +kernel
theorem dX9_servedRequest_28 : decode cX9_servedRequest 28 = .ok (.ldc_w 321, 3) := by decide +kernel
theorem dX9_servedRequest_31 : decode cX9_servedRequest 31 = .ok (.invokespecial 95, 3) := by decide +kernel
theorem dX9_servedRequest_34 : decode cX9_servedRequest 34 = .ok (.athrow, 1) := by decide +kernel
theorem dX9_servedRequest_35 : decode cX9_servedRequest 35 = .ok (.aload_n 2, 1) := by decide +kernel
theorem dX9_servedRequest_36 : decode cX9_servedRequest 36 = .ok (.areturn, 1) := by decide +kernel
theorem dX9_checkWish_0 : decode cX9_checkWish 0 = .ok (.iload_n 1, 1) := by decide +kernel
theorem dX9_checkWish_1 : decode cX9_checkWish 1 = .ok (.iload_n 2, 1) := by decide +kernel
theorem dX9_checkWish_2 : decode cX9_checkWish 2 = .ok (.invokestatic 81, 3) := by decide +kernel
theorem dX9_checkWish_5 : decode cX9_checkWish 5 = .ok (.ifCond .eq 23, 3) := by decide +kernel
theorem dX9_checkWish_8 : decode cX9_checkWish 8 = .ok (.iload_n 3, 1) := by decide +kernel
theorem dX9_checkWish_9 : decode cX9_checkWish 9 = .ok (.iload 4, 2) := by decide +kernel
theorem dX9_checkWish_11 : decode cX9_checkWish 11 = .ok (.invokestatic 81, 3) := by decide +kernel
theorem dX9_checkWish_14 : decode cX9_checkWish 14 = .ok (.ifCond .eq 14, 3) := by decide +kernel
theorem dX9_checkWish_17 : decode cX9_checkWish 17 = .ok (.iload 5, 2) := by decide +kernel
theorem dX9_checkWish_19 : decode cX9_checkWish 19 = .ok (.iconst 1, 1) := by decide +kernel
theorem dX9_checkWish_20 : decode cX9_checkWish 20 = .ok (.bipush 6, 2) := by decide +kernel
theorem dX9_checkWish_22 : decode cX9_checkWish 22 = .ok (.invokestatic 68, 3) := by decide +kernel
theorem dX9_checkWish_25 : decode cX9_checkWish 25 = .ok (.ifCond .ne 14, 3) := by decide +kernel
theorem dX9_checkWish_28 : decode cX9_checkWish 28 = .ok (.new 72, 3) := by decide +kernel
theorem dX9_checkWish_31 : decode cX9_checkWish 31 = .ok (.dup, 1) := by decide +kernel
theorem dX9_checkWish_32 : decode cX9_checkWish 32 = .ok (.ldc_w 319, 3) := by decide +kernel
theorem dX9_checkWish_35 : decode cX9_checkWish 35 = .ok (.invokespecial 76, 3) := by decide +kernel
theorem dX9_checkWish_38 : decode cX9_checkWish 38 = .ok (.athrow, 1) := by decide +kernel
theorem dX9_checkWish_39 : decode cX9_checkWish 39 = .ok (.iload_n 1, 1) := by decide +kernel
theorem dX9_checkWish_40 : decode cX9_checkWish 40 = .ok (.iload_n 3, 1) := by decide +kernel
theorem dX9_checkWish_41 : decode cX9_checkWish 41 = .ok (.if_icmp .ne 20, 3) := by decide +kernel
theorem dX9_checkWish_44 : decode cX9_checkWish 44 = .ok (.iload_n 2, 1) := by decide +kernel
theorem dX9_checkWish_45 : decode cX9_checkWish 45 = .ok (.iload 4, 2) := by decide +kernel
theorem dX9_checkWish_47 : decode cX9_checkWish 47 = .ok (.if_icmp .ne 14, 3) := by decide +kernel
theorem dX9_checkWish_50 : decode cX9_checkWish 50 = .ok (.new 323, 3) := by decide +kernel
theorem dX9_checkWish_53 : decode cX9_checkWish 53 = .ok (.dup, 1) := by decide +kernel
theorem dX9_checkWish_54 : decode cX9_checkWish 54 = .ok (.ldc_w 325, 3) := by decide +kernel
theorem dX9_checkWish_57 : decode cX9_checkWish 57 = .ok (.invokespecial 327, 3) := by decide +kernel
theorem dX9_checkWish_60 : decode cX9_checkWish 60 = .ok (.athrow, 1) := by decide +kernel
theorem dX9_checkWish_61 : decode cX9_checkWish 61 = .ok (.return_, 1) := by decide +kernel
theorem dX9_checkFound_0 : decode cX9_checkFound 0 = .ok (.aload_n 0, 1) := by decide +kernel
theorem dX9_checkFound_1 : decode cX9_checkFound 1 = .ok (.getfield 47, 3) := by decide +kernel
theorem dX9_checkFound_4 : decode cX9_checkFound 4 = .ok (.invokevirtual 121, 3) := by decide +kernel
theorem dX9_checkFound_7 : decode cX9_checkFound 7 = .ok (.ifCond .ne 14, 3) := by decide +kernel
theorem dX9_checkFound_10 : decode cX9_checkFound 10 = .ok (.new 279, 3) := by decide +kernel
theorem dX9_checkFound_13 : decode cX9_checkFound 13 = .ok (.dup, 1) := by decide +kernel
theorem dX9_checkFound_14 : decode cX9_checkFound 14 = .ok (.ldc_w 328, 3) := by decide +kernel
theorem dX9_checkFound_17 : decode cX9_checkFound 17 = .ok (.invokespecial 283, 3) := by decide +kernel
theorem dX9_checkFound_20 : decode cX9_checkFound 20 = .ok (.athrow, 1) := by decide +kernel
theorem dX9_checkFound_21 : decode cX9_checkFound 21 = .ok (.return_, 1) := by decide +kernel
theorem dX9_checkStop_0 : decode cX9_checkStop 0 = .ok (.iload_n 2, 1) := by decide +kernel
theorem dX9_checkStop_1 : decode cX9_checkStop 1 = .ok (.ifCond .lt 11, 3) := by decide +kernel
theorem dX9_checkStop_4 : decode cX9_checkStop 4 = .ok (.iload_n 2, 1) := by decide +kernel
theorem dX9_checkStop_5 : decode cX9_checkStop 5 = .ok (.aload_n 1, 1) := by decide +kernel
theorem dX9_checkStop_6 : decode cX9_checkStop 6 = .ok (.getfield 224, 3) := by decide +kernel
theorem dX9_checkStop_9 : decode cX9_checkStop 9 = .ok (.if_icmp .lt 14, 3) := by decide +kernel
theorem dX9_checkStop_12 : decode cX9_checkStop 12 = .ok (.new 279, 3) := by decide +kernel
theorem dX9_checkStop_15 : decode cX9_checkStop 15 = .ok (.dup, 1) := by decide +kernel
theorem dX9_checkStop_16 : decode cX9_checkStop 16 = .ok (.ldc_w 330, 3) := by decide +kernel
theorem dX9_checkStop_19 : decode cX9_checkStop 19 = .ok (.invokespecial 283, 3) := by decide +kernel
theorem dX9_checkStop_22 : decode cX9_checkStop 22 = .ok (.athrow, 1) := by decide +kernel
theorem dX9_checkStop_23 : decode cX9_checkStop 23 = .ok (.return_, 1) := by decide +kernel
theorem dX9_checkEntry_0 : decode cX9_checkEntry 0 = .ok (.iload_n 1, 1) := by decide +kernel
theorem dX9_checkEntry_1 : decode cX9_checkEntry 1 = .ok (.ifCond .lt 14, 3) := by decide +kernel
theorem dX9_checkEntry_4 : decode cX9_checkEntry 4 = .ok (.iload_n 1, 1) := by decide +kernel
theorem dX9_checkEntry_5 : decode cX9_checkEntry 5 = .ok (.aload_n 0, 1) := by decide +kernel
theorem dX9_checkEntry_6 : decode cX9_checkEntry 6 = .ok (.getfield 26, 3) := by decide +kernel
theorem dX9_checkEntry_9 : decode cX9_checkEntry 9 = .ok (.getfield 287, 3) := by decide +kernel
theorem dX9_checkEntry_12 : decode cX9_checkEntry 12 = .ok (.if_icmp .lt 14, 3) := by decide +kernel
theorem dX9_checkEntry_15 : decode cX9_checkEntry 15 = .ok (.new 316, 3) := by decide +kernel
theorem dX9_checkEntry_18 : decode cX9_checkEntry 18 = .ok (.dup, 1) := by decide +kernel
theorem dX9_checkEntry_19 : decode cX9_checkEntry 19 = .ok (.ldc_w 332, 3) := by decide +kernel
theorem dX9_checkEntry_22 : decode cX9_checkEntry 22 = .ok (.invokespecial 318, 3) := by decide +kernel
theorem dX9_checkEntry_25 : decode cX9_checkEntry 25 = .ok (.athrow, 1) := by decide +kernel
theorem dX9_checkEntry_26 : decode cX9_checkEntry 26 = .ok (.return_, 1) := by decide +kernel
theorem dX9_takeWish_0 : decode cX9_takeWish 0 = .ok (.aload_n 0, 1) := by decide +kernel
theorem dX9_takeWish_1 : decode cX9_takeWish 1 = .ok (.iload_n 1, 1) := by decide +kernel
theorem dX9_takeWish_2 : decode cX9_takeWish 2 = .ok (.iload_n 2, 1) := by decide +kernel
theorem dX9_takeWish_3 : decode cX9_takeWish 3 = .ok (.iload_n 3, 1) := by decide +kernel
theorem dX9_takeWish_4 : decode cX9_takeWish 4 = .ok (.iload 4, 2) := by decide +kernel
theorem dX9_takeWish_6 : decode cX9_takeWish 6 = .ok (.iload 5, 2) := by decide +kernel
theorem dX9_takeWish_8 : decode cX9_takeWish 8 = .ok (.invokevirtual 334, 3) := by decide +kernel
theorem dX9_takeWish_11 : decode cX9_takeWish 11 = .ok (.aload_n 0, 1) := by decide +kernel
theorem dX9_takeWish_12 : decode cX9_takeWish 12 = .ok (.getfield 19, 3) := by decide +kernel
theorem dX9_takeWish_15 : decode cX9_takeWish 15 = .ok (.getfield 337, 3) := by decide +kernel
theorem dX9_takeWish_18 : decode cX9_takeWish 18 = .ok (.astore 6, 2) := by decide +kernel
theorem dX9_takeWish_20 : decode cX9_takeWish 20 = .ok (.aload 6, 2) := by decide +kernel
theorem dX9_takeWish_22 : decode cX9_takeWish 22 = .ok (.iload_n 1, 1) := by decide +kernel
theorem dX9_takeWish_23 : decode cX9_takeWish 23 = .ok (.putfield 341, 3) := by decide +kernel
theorem dX9_takeWish_26 : decode cX9_takeWish 26 = .ok (.aload 6, 2) := by decide +kernel
theorem dX9_takeWish_28 : decode cX9_takeWish 28 = .ok (.iload_n 2, 1) := by decide +kernel
theorem dX9_takeWish_29 : decode cX9_takeWish 29 = .ok (.putfield 344, 3) := by decide +kernel
theorem dX9_takeWish_32 : decode cX9_takeWish 32 = .ok (.aload 6, 2) := by decide +kernel
theorem dX9_takeWish_34 : decode cX9_takeWish 34 = .ok (.iload_n 3, 1) := by decide +kernel
theorem dX9_takeWish_35 : decode cX9_takeWish 35 = .ok (.putfield 347, 3) := by decide +kernel
theorem dX9_takeWish_38 : decode cX9_takeWish 38 = .ok (.aload 6, 2) := by decide +kernel
theorem dX9_takeWish_40 : decode cX9_takeWish 40 = .ok (.iload 4, 2) := by decide +kernel
theorem dX9_takeWish_42 : decode cX9_takeWish 42 = .ok (.putfield 350, 3) := by decide +kernel
theorem dX9_takeWish_45 : decode cX9_takeWish 45 = .ok (.aload 6, 2) := by decide +kernel
theorem dX9_takeWish_47 : decode cX9_takeWish 47 = .ok (.iload 5, 2) := by decide +kernel
theorem dX9_takeWish_49 : decode cX9_takeWish 49 = .ok (.putfield 353, 3) := by decide +kernel
theorem dX9_takeWish_52 : decode cX9_takeWish 52 = .ok (.aload 6, 2) := by decide +kernel
theorem dX9_takeWish_54 : decode cX9_takeWish 54 = .ok (.iload_n 1, 1) := by decide +kernel
theorem dX9_takeWish_55 : decode cX9_takeWish 55 = .ok (.iload_n 2, 1) := by decide +kernel
theorem dX9_takeWish_56 : decode cX9_takeWish 56 = .ok (.iload_n 3, 1) := by decide +kernel
theorem dX9_takeWish_57 : decode cX9_takeWish 57 = .ok (.iload 4, 2) := by decide +kernel
theorem dX9_takeWish_59 : decode cX9_takeWish 59 = .ok (.invokestatic 356, 3) := by decide +kernel
theorem dX9_takeWish_62 : decode cX9_takeWish 62 = .ok (.putfield 305, 3) := by decide +kernel
theorem dX9_takeWish_65 : decode cX9_takeWish 65 = .ok (.aload 6, 2) := by decide +kernel
theorem dX9_takeWish_67 : decode cX9_takeWish 67 = .ok (.aload_n 0, 1) := by decide +kernel
theorem dX9_takeWish_68 : decode cX9_takeWish 68 = .ok (.getfield 58, 3) := by decide +kernel
theorem dX9_takeWish_71 : decode cX9_takeWish 71 = .ok (.aload_n 0, 1) := by decide +kernel
theorem dX9_takeWish_72 : decode cX9_takeWish 72 = .ok (.getfield 65, 3) := by decide +kernel
theorem dX9_takeWish_75 : decode cX9_takeWish 75 = .ok (.iadd, 1) := by decide +kernel
theorem dX9_takeWish_76 : decode cX9_takeWish 76 = .ok (.putfield 205, 3) := by decide +kernel
theorem dX9_takeWish_79 : decode cX9_takeWish 79 = .ok (.aload 6, 2) := by decide +kernel
theorem dX9_takeWish_81 : decode cX9_takeWish 81 = .ok (.aload 6, 2) := by decide +kernel
theorem dX9_takeWish_83 : decode cX9_takeWish 83 = .ok (.getfield 305, 3) := by decide +kernel
theorem dX9_takeWish_86 : decode cX9_takeWish 86 = .ok (.bipush 100, 2) := by decide +kernel
theorem dX9_takeWish_88 : decode cX9_takeWish 88 = .ok (.aload_n 0, 1) := by decide +kernel
theorem dX9_takeWish_89 : decode cX9_takeWish 89 = .ok (.getfield 62, 3) := by decide +kernel
theorem dX9_takeWish_92 : decode cX9_takeWish 92 = .ok (.iadd, 1) := by decide +kernel
theorem dX9_takeWish_93 : decode cX9_takeWish 93 = .ok (.imul, 1) := by decide +kernel
theorem dX9_takeWish_94 : decode cX9_takeWish 94 = .ok (.bipush 100, 2) := by decide +kernel
theorem dX9_takeWish_96 : decode cX9_takeWish 96 = .ok (.idiv, 1) := by decide +kernel
theorem dX9_takeWish_97 : decode cX9_takeWish 97 = .ok (.putfield 208, 3) := by decide +kernel
theorem dX9_takeWish_100 : decode cX9_takeWish 100 = .ok (.return_, 1) := by decide +kernel
theorem dX9_plannedTime_0 : decode cX9_plannedTime 0 = .ok (.aload_n 0, 1) := by decide +kernel
theorem dX9_plannedTime_1 : decode cX9_plannedTime 1 = .ok (.getfield 35, 3) := by decide +kernel
theorem dX9_plannedTime_4 : decode cX9_plannedTime 4 = .ok (.aload_n 1, 1) := by decide +kernel
theorem dX9_plannedTime_5 : decode cX9_plannedTime 5 = .ok (.aload_n 1, 1) := by decide +kernel
theorem dX9_plannedTime_6 : decode cX9_plannedTime 6 = .ok (.getfield 142, 3) := by decide +kernel
theorem dX9_plannedTime_9 : decode cX9_plannedTime 9 = .ok (.aload_n 0, 1) := by decide +kernel
theorem dX9_plannedTime_10 : decode cX9_plannedTime 10 = .ok (.getfield 58, 3) := by decide +kernel
theorem dX9_plannedTime_13 : decode cX9_plannedTime 13 = .ok (.invokevirtual 360, 3) := by decide +kernel
theorem dX9_plannedTime_16 : decode cX9_plannedTime 16 = .ok (.aload_n 0, 1) := by decide +kernel
theorem dX9_plannedTime_17 : decode cX9_plannedTime 17 = .ok (.getfield 35, 3) := by decide +kernel
theorem dX9_plannedTime_20 : decode cX9_plannedTime 20 = .ok (.aload_n 1, 1) := by decide +kernel
theorem dX9_plannedTime_21 : decode cX9_plannedTime 21 = .ok (.getfield 142, 3) := by decide +kernel
theorem dX9_plannedTime_24 : decode cX9_plannedTime 24 = .ok (.iload_n 2, 1) := by decide +kernel
theorem dX9_plannedTime_25 : decode cX9_plannedTime 25 = .ok (.invokevirtual 364, 3) := by decide +kernel
theorem dX9_plannedTime_28 : decode cX9_plannedTime 28 = .ok (.invokevirtual 367, 3) := by decide +kernel
theorem dX9_plannedTime_31 : decode cX9_plannedTime 31 = .ok (.ireturn, 1) := by decide +kernel
theorem dX9_spendMinute_0 : decode cX9_spendMinute 0 = .ok (.aload_n 1, 1) := by decide +kernel
theorem dX9_spendMinute_1 : decode cX9_spendMinute 1 = .ok (.getfield 142, 3) := by decide +kernel
theorem dX9_spendMinute_4 : decode cX9_spendMinute 4 = .ok (.getfield 224, 3) := by decide +kernel
theorem dX9_spendMinute_7 : decode cX9_spendMinute 7 = .ok (.ifCond .le 35, 3) := by decide +kernel
theorem dX9_spendMinute_10 : decode cX9_spendMinute 10 = .ok (.aload_n 1, 1) := by decide +kernel
theorem dX9_spendMinute_11 : decode cX9_spendMinute 11 = .ok (.getfield 142, 3) := by decide +kernel
theorem dX9_spendMinute_14 : decode cX9_spendMinute 14 = .ok (.iconst 0, 1) := by decide +kernel
theorem dX9_spendMinute_15 : decode cX9_spendMinute 15 = .ok (.invokevirtual 229, 3) := by decide +kernel
theorem dX9_spendMinute_18 : decode cX9_spendMinute 18 = .ok (.istore_n 2, 1) := by decide +kernel
theorem dX9_spendMinute_19 : decode cX9_spendMinute 19 = .ok (.aload_n 1, 1) := by decide +kernel
theorem dX9_spendMinute_20 : decode cX9_spendMinute 20 = .ok (.aload_n 0, 1) := by decide +kernel
theorem dX9_spendMinute_21 : decode cX9_spendMinute 21 = .ok (.getfield 19, 3) := by decide +kernel
theorem dX9_spendMinute_24 : decode cX9_spendMinute 24 = .ok (.iload_n 2, 1) := by decide +kernel
theorem dX9_spendMinute_25 : decode cX9_spendMinute 25 = .ok (.invokevirtual 368, 3) := by decide +kernel
theorem dX9_spendMinute_28 : decode cX9_spendMinute 28 = .ok (.aload_n 0, 1) := by decide +kernel
theorem dX9_spendMinute_29 : decode cX9_spendMinute 29 = .ok (.getfield 19, 3) := by decide +kernel
theorem dX9_spendMinute_32 : decode cX9_spendMinute 32 = .ok (.iload_n 2, 1) := by decide +kernel
theorem dX9_spendMinute_33 : decode cX9_spendMinute 33 = .ok (.invokevirtual 371, 3) := by decide +kernel
theorem dX9_spendMinute_36 : decode cX9_spendMinute 36 = .ok (.invokevirtual 374, 3) := by decide +kernel
theorem dX9_spendMinute_39 : decode cX9_spendMinute 39 = .ok (.goto 57, 3) := by decide +kernel
theorem dX9_spendMinute_42 : decode cX9_spendMinute 42 = .ok (.aload_n 1, 1) := by decide +kernel
theorem dX9_spendMinute_43 : decode cX9_spendMinute 43 = .ok (.getfield 257, 3) := by decide +kernel
theorem dX9_spendMinute_46 : decode cX9_spendMinute 46 = .ok (.aload_n 1, 1) := by decide +kernel
theorem dX9_spendMinute_47 : decode cX9_spendMinute 47 = .ok (.getfield 378, 3) := by decide +kernel
theorem dX9_spendMinute_50 : decode cX9_spendMinute 50 = .ok (.if_icmp .ne 14, 3) := by decide +kernel
theorem dX9_spendMinute_53 : decode cX9_spendMinute 53 = .ok (.aload_n 1, 1) := by decide +kernel
theorem dX9_spendMinute_54 : decode cX9_spendMinute 54 = .ok (.getfield 260, 3) := by decide +kernel
theorem dX9_spendMinute_57 : decode cX9_spendMinute 57 = .ok (.aload_n 1, 1) := by decide +kernel
theorem dX9_spendMinute_58 : decode cX9_spendMinute 58 = .ok (.getfield 381, 3) := by decide +kernel
theorem dX9_spendMinute_61 : decode cX9_spendMinute 61 = .ok (.if_icmp .eq 18, 3) := by decide +kernel
theorem dX9_spendMinute_64 : decode cX9_spendMinute 64 = .ok (.aload_n 1, 1) := by decide +kernel
theorem dX9_spendMinute_65 : decode cX9_spendMinute 65 = .ok (.aload_n 1, 1) := by decide +kernel
theorem dX9_spendMinute_66 : decode cX9_spendMinute 66 = .ok (.getfield 378, 3) := by decide +kernel
theorem dX9_spendMinute_69 : decode cX9_spendMinute 69 = .ok (.aload_n 1, 1) := by decide +kernel
theorem dX9_spendMinute_70 : decode cX9_spendMinute 70 = .ok (.getfield 381, 3) := by decide +kernel
theorem dX9_spendMinute_73 : decode cX9_spendMinute 73 = .ok (.invokevirtual 374, 3) := by decide +kernel
theorem dX9_spendMinute_76 : decode cX9_spendMinute 76 = .ok (.goto 20, 3) := by decide +kernel
theorem dX9_spendMinute_79 : decode cX9_spendMinute 79 = .ok (.aload_n 1, 1) := by decide +kernel
theorem dX9_spendMinute_80 : decode cX9_spendMinute 80 = .ok (.aload_n 1, 1) := by decide +kernel
theorem dX9_spendMinute_81 : decode cX9_spendMinute 81 = .ok (.getfield 384, 3) := by decide +kernel
theorem dX9_spendMinute_84 : decode cX9_spendMinute 84 = .ok (.aload_n 1, 1) := by decide +kernel
theorem dX9_spendMinute_85 : decode cX9_spendMinute 85 = .ok (.getfield 263, 3) := by decide +kernel
theorem dX9_spendMinute_88 : decode cX9_spendMinute 88 = .ok (.iconst 5, 1) := by decide +kernel
theorem dX9_spendMinute_89 : decode cX9_spendMinute 89 = .ok (.iadd, 1) := by decide +kernel
theorem dX9_spendMinute_90 : decode cX9_spendMinute 90 = .ok (.invokestatic 387, 3) := by decide +kernel
theorem dX9_spendMinute_93 : decode cX9_spendMinute 93 = .ok (.putfield 263, 3) := by decide +kernel
theorem dX9_spendMinute_96 : decode cX9_spendMinute 96 = .ok (.return_, 1) := by decide +kernel
theorem dX9_makeDueStops_0 : decode cX9_makeDueStops 0 = .ok (.iconst 0, 1) := by decide +kernel
theorem dX9_makeDueStops_1 : decode cX9_makeDueStops 1 = .ok (.istore_n 2, 1) := by decide +kernel
theorem dX9_makeDueStops_2 : decode cX9_makeDueStops 2 = .ok (.aload_n 1, 1) := by decide +kernel
theorem dX9_makeDueStops_3 : decode cX9_makeDueStops 3 = .ok (.getfield 142, 3) := by decide +kernel
theorem dX9_makeDueStops_6 : decode cX9_makeDueStops 6 = .ok (.getfield 224, 3) := by decide +kernel
theorem dX9_makeDueStops_9 : decode cX9_makeDueStops 9 = .ok (.istore_n 3, 1) := by decide +kernel
theorem dX9_makeDueStops_10 : decode cX9_makeDueStops 10 = .ok (.iload_n 3, 1) := by decide +kernel
theorem dX9_makeDueStops_11 : decode cX9_makeDueStops 11 = .ok (.ifCond .le 61, 3) := by decide +kernel
theorem dX9_makeDueStops_14 : decode cX9_makeDueStops 14 = .ok (.aload_n 1, 1) := by decide +kernel
theorem dX9_makeDueStops_15 : decode cX9_makeDueStops 15 = .ok (.getfield 142, 3) := by decide +kernel
theorem dX9_makeDueStops_18 : decode cX9_makeDueStops 18 = .ok (.iconst 0, 1) := by decide +kernel
theorem dX9_makeDueStops_19 : decode cX9_makeDueStops 19 = .ok (.invokevirtual 229, 3) := by decide +kernel
theorem dX9_makeDueStops_22 : decode cX9_makeDueStops 22 = .ok (.istore 4, 2) := by decide +kernel
theorem dX9_makeDueStops_24 : decode cX9_makeDueStops 24 = .ok (.aload_n 0, 1) := by decide +kernel
theorem dX9_makeDueStops_25 : decode cX9_makeDueStops 25 = .ok (.getfield 19, 3) := by decide +kernel
theorem dX9_makeDueStops_28 : decode cX9_makeDueStops 28 = .ok (.iload 4, 2) := by decide +kernel
theorem dX9_makeDueStops_30 : decode cX9_makeDueStops 30 = .ok (.aload_n 1, 1) := by decide +kernel
theorem dX9_makeDueStops_31 : decode cX9_makeDueStops 31 = .ok (.getfield 257, 3) := by decide +kernel
theorem dX9_makeDueStops_34 : decode cX9_makeDueStops 34 = .ok (.aload_n 1, 1) := by decide +kernel
theorem dX9_makeDueStops_35 : decode cX9_makeDueStops 35 = .ok (.getfield 260, 3) := by decide +kernel
theorem dX9_makeDueStops_38 : decode cX9_makeDueStops 38 = .ok (.invokevirtual 390, 3) := by decide +kernel
theorem dX9_makeDueStops_41 : decode cX9_makeDueStops 41 = .ok (.ifCond .le 6, 3) := by decide +kernel
theorem dX9_makeDueStops_44 : decode cX9_makeDueStops 44 = .ok (.goto 28, 3) := by decide +kernel
theorem dX9_makeDueStops_47 : decode cX9_makeDueStops 47 = .ok (.aload_n 1, 1) := by decide +kernel
theorem dX9_makeDueStops_48 : decode cX9_makeDueStops 48 = .ok (.getfield 142, 3) := by decide +kernel
theorem dX9_makeDueStops_51 : decode cX9_makeDueStops 51 = .ok (.iload 4, 2) := by decide +kernel
theorem dX9_makeDueStops_53 : decode cX9_makeDueStops 53 = .ok (.invokevirtual 190, 3) := by decide +kernel
theorem dX9_makeDueStops_56 : decode cX9_makeDueStops 56 = .ok (.aload_n 0, 1) := by decide +kernel
theorem dX9_makeDueStops_57 : decode cX9_makeDueStops 57 = .ok (.aload_n 1, 1) := by decide +kernel
theorem dX9_makeDueStops_58 : decode cX9_makeDueStops 58 = .ok (.iload 4, 2) := by decide +kernel
theorem dX9_makeDueStops_60 : decode cX9_makeDueStops 60 = .ok (.invokevirtual 394, 3) := by decide +kernel
theorem dX9_makeDueStops_63 : decode cX9_makeDueStops 63 = .ok (.iinc 2 1, 3) := by decide +kernel
theorem dX9_makeDueStops_66 : decode cX9_makeDueStops 66 = .ok (.iinc 3 (-1), 3) := by decide +kernel
theorem dX9_makeDueStops_69 : decode cX9_makeDueStops 69 = .ok (.goto (-59), 3) := by decide +kernel
theorem dX9_makeDueStops_72 : decode cX9_makeDueStops 72 = .ok (.iload_n 2, 1) := by decide +kernel
theorem dX9_makeDueStops_73 : decode cX9_makeDueStops 73 = .ok (.ireturn, 1) := by decide +kernel
theorem dX9_makeStop_0 : decode cX9_makeStop 0 = .ok (.aload_n 0, 1) := by decide +kernel
theorem dX9_makeStop_1 : decode cX9_makeStop 1 = .ok (.getfield 19, 3) := by decide +kernel
theorem dX9_makeStop_4 : decode cX9_makeStop 4 = .ok (.iload_n 2, 1) := by decide +kernel
theorem dX9_makeStop_5 : decode cX9_makeStop 5 = .ok (.invokestatic 232, 3) := by decide +kernel
theorem dX9_makeStop_8 : decode cX9_makeStop 8 = .ok (.invokevirtual 303, 3) := by decide +kernel
theorem dX9_makeStop_11 : decode cX9_makeStop 11 = .ok (.astore_n 3, 1) := by decide +kernel
theorem dX9_makeStop_12 : decode cX9_makeStop 12 = .ok (.iload_n 2, 1) := by decide +kernel
theorem dX9_makeStop_13 : decode cX9_makeStop 13 = .ok (.invokestatic 235, 3) := by decide +kernel
theorem dX9_makeStop_16 : decode cX9_makeStop 16 = .ok (.ifCond .eq 33, 3) := by decide +kernel
theorem dX9_makeStop_19 : decode cX9_makeStop 19 = .ok (.aload_n 3, 1) := by decide +kernel
theorem dX9_makeStop_20 : decode cX9_makeStop 20 = .ok (.bipush 114, 2) := by decide +kernel
theorem dX9_makeStop_22 : decode cX9_makeStop 22 = .ok (.putfield 132, 3) := by decide +kernel
theorem dX9_makeStop_25 : decode cX9_makeStop 25 = .ok (.aload_n 3, 1) := by decide +kernel
theorem dX9_makeStop_26 : decode cX9_makeStop 26 = .ok (.aload_n 0, 1) := by decide +kernel
theorem dX9_makeStop_27 : decode cX9_makeStop 27 = .ok (.getfield 58, 3) := by decide +kernel
theorem dX9_makeStop_30 : decode cX9_makeStop 30 = .ok (.putfield 218, 3) := by decide +kernel
theorem dX9_makeStop_33 : decode cX9_makeStop 33 = .ok (.aload_n 1, 1) := by decide +kernel
theorem dX9_makeStop_34 : decode cX9_makeStop 34 = .ok (.dup, 1) := by decide +kernel
theorem dX9_makeStop_35 : decode cX9_makeStop 35 = .ok (.getfield 266, 3) := by decide +kernel
theorem dX9_makeStop_38 : decode cX9_makeStop 38 = .ok (.aload_n 3, 1) := by decide +kernel
theorem dX9_makeStop_39 : decode cX9_makeStop 39 = .ok (.getfield 353, 3) := by decide +kernel
theorem dX9_makeStop_42 : decode cX9_makeStop 42 = .ok (.iadd, 1) := by decide +kernel
theorem dX9_makeStop_43 : decode cX9_makeStop 43 = .ok (.putfield 266, 3) := by decide +kernel
theorem dX9_makeStop_46 : decode cX9_makeStop 46 = .ok (.goto 30, 3) := by decide +kernel
theorem dX9_makeStop_49 : decode cX9_makeStop 49 = .ok (.aload_n 3, 1) := by decide +kernel
theorem dX9_makeStop_50 : decode cX9_makeStop 50 = .ok (.bipush 100, 2) := by decide +kernel
theorem dX9_makeStop_52 : decode cX9_makeStop 52 = .ok (.putfield 132, 3) := by decide +kernel
theorem dX9_makeStop_55 : decode cX9_makeStop 55 = .ok (.aload_n 3, 1) := by decide +kernel
theorem dX9_makeStop_56 : decode cX9_makeStop 56 = .ok (.aload_n 0, 1) := by decide +kernel
theorem dX9_makeStop_57 : decode cX9_makeStop 57 = .ok (.getfield 58, 3) := by decide +kernel
theorem dX9_makeStop_60 : decode cX9_makeStop 60 = .ok (.putfield 221, 3) := by decide +kernel
theorem dX9_makeStop_63 : decode cX9_makeStop 63 = .ok (.aload_n 1, 1) := by decide +kernel
theorem dX9_makeStop_64 : decode cX9_makeStop 64 = .ok (.dup, 1) := by decide +kernel
theorem dX9_makeStop_65 : decode cX9_makeStop 65 = .ok (.getfield 266, 3) := by decide +kernel
theorem dX9_makeStop_68 : decode cX9_makeStop 68 = .ok (.aload_n 3, 1) := by decide +kernel
theorem dX9_makeStop_69 : decode cX9_makeStop 69 = .ok (.getfield 353, 3) := by decide +kernel
theorem dX9_makeStop_72 : decode cX9_makeStop 72 = .ok (.isub, 1) := by decide +kernel
theorem dX9_makeStop_73 : decode cX9_makeStop 73 = .ok (.putfield 266, 3) := by decide +kernel
theorem dX9_makeStop_76 : decode cX9_makeStop 76 = .ok (.aload_n 0, 1) := by decide +kernel
theorem dX9_makeStop_77 : decode cX9_makeStop 77 = .ok (.getfield 26, 3) := by decide +kernel
theorem dX9_makeStop_80 : decode cX9_makeStop 80 = .ok (.aload_n 1, 1) := by decide +kernel
theorem dX9_makeStop_81 : decode cX9_makeStop 81 = .ok (.getfield 138, 3) := by decide +kernel
theorem dX9_makeStop_84 : decode cX9_makeStop 84 = .ok (.iload_n 2, 1) := by decide +kernel
theorem dX9_makeStop_85 : decode cX9_makeStop 85 = .ok (.invokestatic 232, 3) := by decide +kernel
theorem dX9_makeStop_88 : decode cX9_makeStop 88 = .ok (.aload_n 0, 1) := by decide +kernel
theorem dX9_makeStop_89 : decode cX9_makeStop 89 = .ok (.getfield 58, 3) := by decide +kernel
theorem dX9_makeStop_92 : decode cX9_makeStop 92 = .ok (.aload_n 1, 1) := by decide +kernel
theorem dX9_makeStop_93 : decode cX9_makeStop 93 = .ok (.getfield 269, 3) := by decide +kernel
theorem dX9_makeStop_96 : decode cX9_makeStop 96 = .ok (.invokevirtual 397, 3) := by decide +kernel
theorem dX9_makeStop_99 : decode cX9_makeStop 99 = .ok (.return_, 1) := by decide +kernel
theorem dX9_isBetween_0 : decode cX9_isBetween 0 = .ok (.iload_n 0, 1) := by decide +kernel
theorem dX9_isBetween_1 : decode cX9_isBetween 1 = .ok (.iload_n 1, 1) := by decide +kernel
theorem dX9_isBetween_2 : decode cX9_isBetween 2 = .ok (.if_icmp .lt 12, 3) := by decide +kernel
theorem dX9_isBetween_5 : decode cX9_isBetween 5 = .ok (.iload_n 0, 1) := by decide +kernel
theorem dX9_isBetween_6 : decode cX9_isBetween 6 = .ok (.iload_n 2, 1) := by decide +kernel
theorem dX9_isBetween_7 : decode cX9_isBetween 7 = .ok (.if_icmp .gt 7, 3) := by decide +kernel
theorem dX9_isBetween_10 : decode cX9_isBetween 10 = .ok (.iconst 1, 1) := by decide +kernel
theorem dX9_isBetween_11 : decode cX9_isBetween 11 = .ok (.goto 4, 3) := by decide +kernel
theorem dX9_isBetween_14 : decode cX9_isBetween 14 = .ok (.iconst 0, 1) := by decide +kernel
theorem dX9_isBetween_15 : decode cX9_isBetween 15 = .ok (.ireturn, 1) := by decide +kernel
theorem dX9_isInTown_0 : decode cX9_isInTown 0 = .ok (.iload_n 0, 1) := by decide +kernel
theorem dX9_isInTown_1 : decode cX9_isInTown 1 = .ok (.iconst 0, 1) := by decide +kernel
theorem dX9_isInTown_2 : decode cX9_isInTown 2 = .ok (.bipush 20, 2) := by decide +kernel
theorem dX9_isInTown_4 : decode cX9_isInTown 4 = .ok (.invokestatic 68, 3) := by decide +kernel
theorem dX9_isInTown_7 : decode cX9_isInTown 7 = .ok (.ifCond .eq 17, 3) := by decide +kernel
theorem dX9_isInTown_10 : decode cX9_isInTown 10 = .ok (.iload_n 1, 1) := by decide +kernel
theorem dX9_isInTown_11 : decode cX9_isInTown 11 = .ok (.iconst 0, 1) := by decide +kernel
theorem dX9_isInTown_12 : decode cX9_isInTown 12 = .ok (.bipush 20, 2) := by decide +kernel
theorem dX9_isInTown_14 : decode cX9_isInTown 14 = .ok (.invokestatic 68, 3) := by decide +kernel
theorem dX9_isInTown_17 : decode cX9_isInTown 17 = .ok (.ifCond .eq 7, 3) := by decide +kernel
theorem dX9_isInTown_20 : decode cX9_isInTown 20 = .ok (.iconst 1, 1) := by decide +kernel
theorem dX9_isInTown_21 : decode cX9_isInTown 21 = .ok (.goto 4, 3) := by decide +kernel
theorem dX9_isInTown_24 : decode cX9_isInTown 24 = .ok (.iconst 0, 1) := by decide +kernel
theorem dX9_isInTown_25 : decode cX9_isInTown 25 = .ok (.ireturn, 1) := by decide +kernel
theorem dX9_distance_0 : decode cX9_distance 0 = .ok (.iload_n 0, 1) := by decide +kernel
theorem dX9_distance_1 : decode cX9_distance 1 = .ok (.iload_n 2, 1) := by decide +kernel
theorem dX9_distance_2 : decode cX9_distance 2 = .ok (.isub, 1) := by decide +kernel
theorem dX9_distance_3 : decode cX9_distance 3 = .ok (.invokestatic 401, 3) := by decide +kernel
theorem dX9_distance_6 : decode cX9_distance 6 = .ok (.iload_n 1, 1) := by decide +kernel
theorem dX9_distance_7 : decode cX9_distance 7 = .ok (.iload_n 3, 1) := by decide +kernel
theorem dX9_distance_8 : decode cX9_distance 8 = .ok (.isub, 1) := by decide +kernel
theorem dX9_distance_9 : decode cX9_distance 9 = .ok (.invokestatic 401, 3) := by decide +kernel
theorem dX9_distance_12 : decode cX9_distance 12 = .ok (.iadd, 1) := by decide +kernel
theorem dX9_distance_13 : decode cX9_distance 13 = .ok (.ireturn, 1) := by decide +kernel
theorem dX9_signOf_0 : decode cX9_signOf 0 = .ok (.iload_n 0, 1) := by decide +kernel
theorem dX9_signOf_1 : decode cX9_signOf 1 = .ok (.tableswitch 36 2 4 #[27, 30, 33], 27) := by decide +kernel
theorem dX9_signOf_28 : decode cX9_signOf 28 = .ok (.bipush 119, 2) := by decide +kernel
theorem dX9_signOf_30 : decode cX9_signOf 30 = .ok (.ireturn, 1) := by decide +kernel
theorem dX9_signOf_31 : decode cX9_signOf 31 = .ok (.bipush 100, 2) := by decide +kernel
theorem dX9_signOf_33 : decode cX9_signOf 33 = .ok (.ireturn, 1) := by decide +kernel
theorem dX9_signOf_34 : decode cX9_signOf 34 = .ok (.bipush 98, 2) := by decide +kernel
theorem dX9_signOf_36 : decode cX9_signOf 36 = .ok (.ireturn, 1) := by decide +kernel
theorem dX9_signOf_37 : decode cX9_signOf 37 = .ok (.bipush 115, 2) := by decide +kernel
theorem dX9_signOf_39 : decode cX9_signOf 39 = .ok (.ireturn, 1) := by decide +kernel
theorem dX9_pickupOf_0 : decode cX9_pickupOf 0 = .ok (.iconst 2, 1) := by decide +kernel
theorem dX9_pickupOf_1 : decode cX9_pickupOf 1 = .ok (.iload_n 0, 1) := by decide +kernel
theorem dX9_pickupOf_2 : decode cX9_pickupOf 2 = .ok (.imul, 1) := by decide +kernel
theorem dX9_pickupOf_3 : decode cX9_pickupOf 3 = .ok (.ireturn, 1) := by decide +kernel
theorem dX9_dropOf_0 : decode cX9_dropOf 0 = .ok (.iconst 2, 1) := by decide +kernel
theorem dX9_dropOf_1 : decode cX9_dropOf 1 = .ok (.iload_n 0, 1) := by decide +kernel
theorem dX9_dropOf_2 : decode cX9_dropOf 2 = .ok (.imul, 1) := by decide +kernel
theorem dX9_dropOf_3 : decode cX9_dropOf 3 = .ok (.iconst 1, 1) := by decide +kernel
theorem dX9_dropOf_4 : decode cX9_dropOf 4 = .ok (.iadd, 1) := by decide +kernel
theorem dX9_dropOf_5 : decode cX9_dropOf 5 = .ok (.ireturn, 1) := by decide +kernel
theorem dX9_requestOf_0 : decode cX9_requestOf 0 = .ok (.iload_n 0, 1) := by decide +kernel
theorem dX9_requestOf_1 : decode cX9_requestOf 1 = .ok (.iconst 1, 1) := by decide +kernel
theorem dX9_requestOf_2 : decode cX9_requestOf 2 = .ok (.ishr, 1) := by decide +kernel
theorem dX9_requestOf_3 : decode cX9_requestOf 3 = .ok (.ireturn, 1) := by decide +kernel
theorem dX9_picksUp_0 : decode cX9_picksUp 0 = .ok (.iload_n 0, 1) := by decide +kernel
theorem dX9_picksUp_1 : decode cX9_picksUp 1 = .ok (.iconst 1, 1) := by decide +kernel
theorem dX9_picksUp_2 : decode cX9_picksUp 2 = .ok (.iand, 1) := by decide +kernel
theorem dX9_picksUp_3 : decode cX9_picksUp 3 = .ok (.ifCond .ne 7, 3) := by decide +kernel
theorem dX9_picksUp_6 : decode cX9_picksUp 6 = .ok (.iconst 1, 1) := by decide +kernel
theorem dX9_picksUp_7 : decode cX9_picksUp 7 = .ok (.goto 4, 3) := by decide +kernel
theorem dX9_picksUp_10 : decode cX9_picksUp 10 = .ok (.iconst 0, 1) := by decide +kernel
theorem dX9_picksUp_11 : decode cX9_picksUp 11 = .ok (.ireturn, 1) := by decide +kernel
theorem dX10_init_0 : decode cX10_init 0 = .ok (.aload_n 0, 1) := by decide +kernel
theorem dX10_init_1 : decode cX10_init 1 = .ok (.invokespecial 1, 3) := by decide +kernel
theorem dX10_init_4 : decode cX10_init 4 = .ok (.aload_n 0, 1) := by decide +kernel
theorem dX10_init_5 : decode cX10_init 5 = .ok (.iconst 4, 1) := by decide +kernel
theorem dX10_init_6 : decode cX10_init 6 = .ok (.newarray .int, 2) := by decide +kernel
theorem dX10_init_8 : decode cX10_init 8 = .ok (.putfield 9, 3) := by decide +kernel
theorem dX10_init_11 : decode cX10_init 11 = .ok (.aload_n 0, 1) := by decide +kernel
theorem dX10_init_12 : decode cX10_init 12 = .ok (.iconst 4, 1) := by decide +kernel
theorem dX10_init_13 : decode cX10_init 13 = .ok (.newarray .int, 2) := by decide +kernel
theorem dX10_init_15 : decode cX10_init 15 = .ok (.putfield 13, 3) := by decide +kernel
theorem dX10_init_18 : decode cX10_init 18 = .ok (.aload_n 0, 1) := by decide +kernel
theorem dX10_init_19 : decode cX10_init 19 = .ok (.iconst 4, 1) := by decide +kernel
theorem dX10_init_20 : decode cX10_init 20 = .ok (.newarray .int, 2) := by decide +kernel
theorem dX10_init_22 : decode cX10_init 22 = .ok (.putfield 16, 3) := by decide +kernel
theorem dX10_init_25 : decode cX10_init 25 = .ok (.aload_n 0, 1) := by decide +kernel
theorem dX10_init_26 : decode cX10_init 26 = .ok (.iconst 4, 1) := by decide +kernel
theorem dX10_init_27 : decode cX10_init 27 = .ok (.newarray .int, 2) := by decide +kernel
theorem dX10_init_29 : decode cX10_init 29 = .ok (.putfield 19, 3) := by decide +kernel
theorem dX10_init_32 : decode cX10_init 32 = .ok (.aload_n 0, 1) := by decide +kernel
theorem dX10_init_33 : decode cX10_init 33 = .ok (.iconst 4, 1) := by decide +kernel
theorem dX10_init_34 : decode cX10_init 34 = .ok (.newarray .int, 2) := by decide +kernel
theorem dX10_init_36 : decode cX10_init 36 = .ok (.putfield 22, 3) := by decide +kernel
theorem dX10_init_39 : decode cX10_init 39 = .ok (.aload_n 0, 1) := by decide +kernel
theorem dX10_init_40 : decode cX10_init 40 = .ok (.iconst 4, 1) := by decide +kernel
theorem dX10_init_41 : decode cX10_init 41 = .ok (.newarray .int, 2) := by decide +kernel
theorem dX10_init_43 : decode cX10_init 43 = .ok (.putfield 25, 3) := by decide +kernel
theorem dX10_init_46 : decode cX10_init 46 = .ok (.aload_n 0, 1) := by decide +kernel
theorem dX10_init_47 : decode cX10_init 47 = .ok (.iconst 4, 1) := by decide +kernel
theorem dX10_init_48 : decode cX10_init 48 = .ok (.newarray .int, 2) := by decide +kernel
theorem dX10_init_50 : decode cX10_init 50 = .ok (.putfield 28, 3) := by decide +kernel
theorem dX10_init_53 : decode cX10_init 53 = .ok (.aload_n 0, 1) := by decide +kernel
theorem dX10_init_54 : decode cX10_init 54 = .ok (.iconst 4, 1) := by decide +kernel
theorem dX10_init_55 : decode cX10_init 55 = .ok (.newarray .int, 2) := by decide +kernel
theorem dX10_init_57 : decode cX10_init 57 = .ok (.putfield 31, 3) := by decide +kernel
theorem dX10_init_60 : decode cX10_init 60 = .ok (.aload_n 0, 1) := by decide +kernel
theorem dX10_init_61 : decode cX10_init 61 = .ok (.iconst 4, 1) := by decide +kernel
theorem dX10_init_62 : decode cX10_init 62 = .ok (.newarray .int, 2) := by decide +kernel
theorem dX10_init_64 : decode cX10_init 64 = .ok (.putfield 34, 3) := by decide +kernel
theorem dX10_init_67 : decode cX10_init 67 = .ok (.aload_n 0, 1) := by decide +kernel
theorem dX10_init_68 : decode cX10_init 68 = .ok (.iconst 4, 1) := by decide +kernel
theorem dX10_init_69 : decode cX10_init 69 = .ok (.newarray .int, 2) := by decide +kernel
theorem dX10_init_71 : decode cX10_init 71 = .ok (.putfield 37, 3) := by decide +kernel
theorem dX10_init_74 : decode cX10_init 74 = .ok (.aload_n 0, 1) := by decide +kernel
theorem dX10_init_75 : decode cX10_init 75 = .ok (.iconst 4, 1) := by decide +kernel
theorem dX10_init_76 : decode cX10_init 76 = .ok (.newarray .int, 2) := by decide +kernel
theorem dX10_init_78 : decode cX10_init 78 = .ok (.putfield 40, 3) := by decide +kernel
theorem dX10_init_81 : decode cX10_init 81 = .ok (.aload_n 0, 1) := by decide +kernel
theorem dX10_init_82 : decode cX10_init 82 = .ok (.bipush 32, 2) := by decide +kernel
theorem dX10_init_84 : decode cX10_init 84 = .ok (.newarray .int, 2) := by decide +kernel
theorem dX10_init_86 : decode cX10_init 86 = .ok (.putfield 43, 3) := by decide +kernel
theorem dX10_init_89 : decode cX10_init 89 = .ok (.aload_n 0, 1) := by decide +kernel
theorem dX10_init_90 : decode cX10_init 90 = .ok (.bipush 31, 2) := by decide +kernel
theorem dX10_init_92 : decode cX10_init 92 = .ok (.newarray .int, 2) := by decide +kernel
theorem dX10_init_94 : decode cX10_init 94 = .ok (.putfield 46, 3) := by decide +kernel
theorem dX10_init_97 : decode cX10_init 97 = .ok (.aload_n 0, 1) := by decide +kernel
theorem dX10_init_98 : decode cX10_init 98 = .ok (.bipush 31, 2) := by decide +kernel
theorem dX10_init_100 : decode cX10_init 100 = .ok (.newarray .int, 2) := by decide +kernel
theorem dX10_init_102 : decode cX10_init 102 = .ok (.putfield 49, 3) := by decide +kernel
theorem dX10_init_105 : decode cX10_init 105 = .ok (.aload_n 0, 1) := by decide +kernel
theorem dX10_init_106 : decode cX10_init 106 = .ok (.bipush 31, 2) := by decide +kernel
theorem dX10_init_108 : decode cX10_init 108 = .ok (.newarray .int, 2) := by decide +kernel
theorem dX10_init_110 : decode cX10_init 110 = .ok (.putfield 52, 3) := by decide +kernel
theorem dX10_init_113 : decode cX10_init 113 = .ok (.aload_n 0, 1) := by decide +kernel
theorem dX10_init_114 : decode cX10_init 114 = .ok (.bipush 31, 2) := by decide +kernel
theorem dX10_init_116 : decode cX10_init 116 = .ok (.newarray .int, 2) := by decide +kernel
theorem dX10_init_118 : decode cX10_init 118 = .ok (.putfield 55, 3) := by decide +kernel
theorem dX10_init_121 : decode cX10_init 121 = .ok (.aload_n 0, 1) := by decide +kernel
theorem dX10_init_122 : decode cX10_init 122 = .ok (.bipush 31, 2) := by decide +kernel
theorem dX10_init_124 : decode cX10_init 124 = .ok (.newarray .int, 2) := by decide +kernel
theorem dX10_init_126 : decode cX10_init 126 = .ok (.putfield 58, 3) := by decide +kernel
theorem dX10_init_129 : decode cX10_init 129 = .ok (.aload_n 0, 1) := by decide +kernel
theorem dX10_init_130 : decode cX10_init 130 = .ok (.bipush 31, 2) := by decide +kernel
theorem dX10_init_132 : decode cX10_init 132 = .ok (.newarray .int, 2) := by decide +kernel
theorem dX10_init_134 : decode cX10_init 134 = .ok (.putfield 61, 3) := by decide +kernel
theorem dX10_init_137 : decode cX10_init 137 = .ok (.aload_n 0, 1) := by decide +kernel
theorem dX10_init_138 : decode cX10_init 138 = .ok (.bipush 31, 2) := by decide +kernel
theorem dX10_init_140 : decode cX10_init 140 = .ok (.newarray .int, 2) := by decide +kernel
theorem dX10_init_142 : decode cX10_init 142 = .ok (.putfield 64, 3) := by decide +kernel
theorem dX10_init_145 : decode cX10_init 145 = .ok (.aload_n 0, 1) := by decide +kernel
theorem dX10_init_146 : decode cX10_init 146 = .ok (.bipush 31, 2) := by decide +kernel
theorem dX10_init_148 : decode cX10_init 148 = .ok (.newarray .int, 2) := by decide +kernel
theorem dX10_init_150 : decode cX10_init 150 = .ok (.putfield 67, 3) := by decide +kernel
theorem dX10_init_153 : decode cX10_init 153 = .ok (.aload_n 0, 1) := by decide +kernel
theorem dX10_init_154 : decode cX10_init 154 = .ok (.bipush 31, 2) := by decide +kernel
theorem dX10_init_156 : decode cX10_init 156 = .ok (.newarray .int, 2) := by decide +kernel
theorem dX10_init_158 : decode cX10_init 158 = .ok (.putfield 70, 3) := by decide +kernel
theorem dX10_init_161 : decode cX10_init 161 = .ok (.aload_n 0, 1) := by decide +kernel
theorem dX10_init_162 : decode cX10_init 162 = .ok (.bipush 31, 2) := by decide +kernel
theorem dX10_init_164 : decode cX10_init 164 = .ok (.newarray .int, 2) := by decide +kernel
theorem dX10_init_166 : decode cX10_init 166 = .ok (.putfield 73, 3) := by decide +kernel
theorem dX10_init_169 : decode cX10_init 169 = .ok (.aload_n 0, 1) := by decide +kernel
theorem dX10_init_170 : decode cX10_init 170 = .ok (.bipush 31, 2) := by decide +kernel
theorem dX10_init_172 : decode cX10_init 172 = .ok (.newarray .char, 2) := by decide +kernel
theorem dX10_init_174 : decode cX10_init 174 = .ok (.putfield 76, 3) := by decide +kernel
theorem dX10_init_177 : decode cX10_init 177 = .ok (.aload_n 0, 1) := by decide +kernel
theorem dX10_init_178 : decode cX10_init 178 = .ok (.bipush 31, 2) := by decide +kernel
theorem dX10_init_180 : decode cX10_init 180 = .ok (.newarray .char, 2) := by decide +kernel
theorem dX10_init_182 : decode cX10_init 182 = .ok (.putfield 80, 3) := by decide +kernel
theorem dX10_init_185 : decode cX10_init 185 = .ok (.aload_n 0, 1) := by decide +kernel
theorem dX10_init_186 : decode cX10_init 186 = .ok (.bipush 60, 2) := by decide +kernel
theorem dX10_init_188 : decode cX10_init 188 = .ok (.newarray .int, 2) := by decide +kernel
theorem dX10_init_190 : decode cX10_init 190 = .ok (.putfield 83, 3) := by decide +kernel
theorem dX10_init_193 : decode cX10_init 193 = .ok (.aload_n 0, 1) := by decide +kernel
theorem dX10_init_194 : decode cX10_init 194 = .ok (.bipush 60, 2) := by decide +kernel
theorem dX10_init_196 : decode cX10_init 196 = .ok (.newarray .int, 2) := by decide +kernel
theorem dX10_init_198 : decode cX10_init 198 = .ok (.putfield 86, 3) := by decide +kernel
theorem dX10_init_201 : decode cX10_init 201 = .ok (.aload_n 0, 1) := by decide +kernel
theorem dX10_init_202 : decode cX10_init 202 = .ok (.bipush 60, 2) := by decide +kernel
theorem dX10_init_204 : decode cX10_init 204 = .ok (.newarray .int, 2) := by decide +kernel
theorem dX10_init_206 : decode cX10_init 206 = .ok (.putfield 89, 3) := by decide +kernel
theorem dX10_init_209 : decode cX10_init 209 = .ok (.aload_n 0, 1) := by decide +kernel
theorem dX10_init_210 : decode cX10_init 210 = .ok (.bipush 60, 2) := by decide +kernel
theorem dX10_init_212 : decode cX10_init 212 = .ok (.newarray .int, 2) := by decide +kernel
theorem dX10_init_214 : decode cX10_init 214 = .ok (.putfield 92, 3) := by decide +kernel
theorem dX10_init_217 : decode cX10_init 217 = .ok (.aload_n 0, 1) := by decide +kernel
theorem dX10_init_218 : decode cX10_init 218 = .ok (.bipush 50, 2) := by decide +kernel
theorem dX10_init_220 : decode cX10_init 220 = .ok (.putfield 95, 3) := by decide +kernel
theorem dX10_init_223 : decode cX10_init 223 = .ok (.aload_n 0, 1) := by decide +kernel
theorem dX10_init_224 : decode cX10_init 224 = .ok (.bipush 15, 2) := by decide +kernel
theorem dX10_init_226 : decode cX10_init 226 = .ok (.putfield 99, 3) := by decide +kernel
theorem dX10_init_229 : decode cX10_init 229 = .ok (.aload_n 0, 1) := by decide +kernel
theorem dX10_init_230 : decode cX10_init 230 = .ok (.bipush 8, 2) := by decide +kernel
theorem dX10_init_232 : decode cX10_init 232 = .ok (.newarray .int, 2) := by decide +kernel
theorem dX10_init_234 : decode cX10_init 234 = .ok (.putfield 102, 3) := by decide +kernel
theorem dX10_init_237 : decode cX10_init 237 = .ok (.aload_n 0, 1) := by decide +kernel
theorem dX10_init_238 : decode cX10_init 238 = .ok (.bipush 8, 2) := by decide +kernel
theorem dX10_init_240 : decode cX10_init 240 = .ok (.newarray .int, 2) := by decide +kernel
theorem dX10_init_242 : decode cX10_init 242 = .ok (.putfield 105, 3) := by decide +kernel
theorem dX10_init_245 : decode cX10_init 245 = .ok (.aload_n 0, 1) := by decide +kernel
theorem dX10_init_246 : decode cX10_init 246 = .ok (.bipush 8, 2) := by decide +kernel
theorem dX10_init_248 : decode cX10_init 248 = .ok (.newarray .int, 2) := by decide +kernel
theorem dX10_init_250 : decode cX10_init 250 = .ok (.putfield 108, 3) := by decide +kernel
theorem dX10_init_253 : decode cX10_init 253 = .ok (.aload_n 0, 1) := by decide +kernel
theorem dX10_init_254 : decode cX10_init 254 = .ok (.bipush 8, 2) := by decide +kernel
theorem dX10_init_256 : decode cX10_init 256 = .ok (.newarray .int, 2) := by decide +kernel
theorem dX10_init_258 : decode cX10_init 258 = .ok (.putfield 111, 3) := by decide +kernel
theorem dX10_init_261 : decode cX10_init 261 = .ok (.return_, 1) := by decide +kernel
theorem dX10_thrown_0 : decode cX10_thrown 0 = .ok (.aload_n 0, 1) := by decide +kernel
theorem dX10_thrown_1 : decode cX10_thrown 1 = .ok (.getfield 114, 3) := by decide +kernel
theorem dX10_thrown_4 : decode cX10_thrown 4 = .ok (.ireturn, 1) := by decide +kernel
theorem dX10_fails_0 : decode cX10_fails 0 = .ok (.aload_n 0, 1) := by decide +kernel
theorem dX10_fails_1 : decode cX10_fails 1 = .ok (.iload_n 1, 1) := by decide +kernel
theorem dX10_fails_2 : decode cX10_fails 2 = .ok (.putfield 114, 3) := by decide +kernel
theorem dX10_fails_5 : decode cX10_fails 5 = .ok (.iconst 0, 1) := by decide +kernel
theorem dX10_fails_6 : decode cX10_fails 6 = .ok (.ireturn, 1) := by decide +kernel
theorem dX10_isBetween_0 : decode cX10_isBetween 0 = .ok (.iload_n 1, 1) := by decide +kernel
theorem dX10_isBetween_1 : decode cX10_isBetween 1 = .ok (.iload_n 0, 1) := by decide +kernel
theorem dX10_isBetween_2 : decode cX10_isBetween 2 = .ok (.if_icmp .gt 12, 3) := by decide +kernel
theorem dX10_isBetween_5 : decode cX10_isBetween 5 = .ok (.iload_n 0, 1) := by decide +kernel
theorem dX10_isBetween_6 : decode cX10_isBetween 6 = .ok (.iload_n 2, 1) := by decide +kernel
theorem dX10_isBetween_7 : decode cX10_isBetween 7 = .ok (.if_icmp .gt 7, 3) := by decide +kernel
theorem dX10_isBetween_10 : decode cX10_isBetween 10 = .ok (.iconst 1, 1) := by decide +kernel
theorem dX10_isBetween_11 : decode cX10_isBetween 11 = .ok (.goto 4, 3) := by decide +kernel
theorem dX10_isBetween_14 : decode cX10_isBetween 14 = .ok (.iconst 0, 1) := by decide +kernel
theorem dX10_isBetween_15 : decode cX10_isBetween 15 = .ok (.ireturn, 1) := by decide +kernel
theorem dX10_isBus_0 : decode cX10_isBus 0 = .ok (.iload_n 1, 1) := by decide +kernel
theorem dX10_isBus_1 : decode cX10_isBus 1 = .ok (.iconst 0, 1) := by decide +kernel
theorem dX10_isBus_2 : decode cX10_isBus 2 = .ok (.aload_n 0, 1) := by decide +kernel
theorem dX10_isBus_3 : decode cX10_isBus 3 = .ok (.getfield 117, 3) := by decide +kernel
theorem dX10_isBus_6 : decode cX10_isBus 6 = .ok (.iconst 1, 1) := by decide +kernel
theorem dX10_isBus_7 : decode cX10_isBus 7 = .ok (.isub, 1) := by decide +kernel
theorem dX10_isBus_8 : decode cX10_isBus 8 = .ok (.invokestatic 120, 3) := by decide +kernel
theorem dX10_isBus_11 : decode cX10_isBus 11 = .ok (.ireturn, 1) := by decide +kernel
theorem dX10_isRequest_0 : decode cX10_isRequest 0 = .ok (.iload_n 1, 1) := by decide +kernel
theorem dX10_isRequest_1 : decode cX10_isRequest 1 = .ok (.iconst 0, 1) := by decide +kernel
theorem dX10_isRequest_2 : decode cX10_isRequest 2 = .ok (.aload_n 0, 1) := by decide +kernel
theorem dX10_isRequest_3 : decode cX10_isRequest 3 = .ok (.getfield 124, 3) := by decide +kernel
theorem dX10_isRequest_6 : decode cX10_isRequest 6 = .ok (.iconst 1, 1) := by decide +kernel
theorem dX10_isRequest_7 : decode cX10_isRequest 7 = .ok (.isub, 1) := by decide +kernel
theorem dX10_isRequest_8 : decode cX10_isRequest 8 = .ok (.invokestatic 120, 3) := by decide +kernel
theorem dX10_isRequest_11 : decode cX10_isRequest 11 = .ok (.ireturn, 1) := by decide +kernel
theorem dX10_setDetour_0 : decode cX10_setDetour 0 = .ok (.aload_n 0, 1) := by decide +kernel
theorem dX10_setDetour_1 : decode cX10_setDetour 1 = .ok (.iconst 0, 1) := by decide +kernel
theorem dX10_setDetour_2 : decode cX10_setDetour 2 = .ok (.putfield 114, 3) := by decide +kernel
theorem dX10_setDetour_5 : decode cX10_setDetour 5 = .ok (.iload_n 1, 1) := by decide +kernel
theorem dX10_setDetour_6 : decode cX10_setDetour 6 = .ok (.iconst 0, 1) := by decide +kernel
theorem dX10_setDetour_7 : decode cX10_setDetour 7 = .ok (.sipush 200, 3) := by decide +kernel
theorem dX10_setDetour_10 : decode cX10_setDetour 10 = .ok (.invokestatic 120, 3) := by decide +kernel
theorem dX10_setDetour_13 : decode cX10_setDetour 13 = .ok (.ifCond .ne 9, 3) := by decide +kernel
theorem dX10_setDetour_16 : decode cX10_setDetour 16 = .ok (.aload_n 0, 1) := by decide +kernel
theorem dX10_setDetour_17 : decode cX10_setDetour 17 = .ok (.iconst 1, 1) := by decide +kernel
theorem dX10_setDetour_18 : decode cX10_setDetour 18 = .ok (.invokevirtual 127, 3) := by decide +kernel
theorem dX10_setDetour_21 : decode cX10_setDetour 21 = .ok (.ireturn, 1) := by decide +kernel
theorem dX10_setDetour_22 : decode cX10_setDetour 22 = .ok (.aload_n 0, 1) := by decide +kernel
theorem dX10_setDetour_23 : decode cX10_setDetour 23 = .ok (.getfield 95, 3) := by decide +kernel
theorem dX10_setDetour_26 : decode cX10_setDetour 26 = .ok (.istore_n 2, 1) := by decide +kernel
theorem dX10_setDetour_27 : decode cX10_setDetour 27 = .ok (.aload_n 0, 1) := by decide +kernel
theorem dX10_setDetour_28 : decode cX10_setDetour 28 = .ok (.iload_n 1, 1) := by decide +kernel
theorem dX10_setDetour_29 : decode cX10_setDetour 29 = .ok (.putfield 95, 3) := by decide +kernel
theorem dX10_setDetour_32 : decode cX10_setDetour 32 = .ok (.iload_n 2, 1) := by decide +kernel
theorem dX10_setDetour_33 : decode cX10_setDetour 33 = .ok (.ireturn, 1) := by decide +kernel
theorem dX10_setWait_0 : decode cX10_setWait 0 = .ok (.aload_n 0, 1) := by decide +kernel
theorem dX10_setWait_1 : decode cX10_setWait 1 = .ok (.iconst 0, 1) := by decide +kernel
theorem dX10_setWait_2 : decode cX10_setWait 2 = .ok (.putfield 114, 3) := by decide +kernel
theorem dX10_setWait_5 : decode cX10_setWait 5 = .ok (.iload_n 1, 1) := by decide +kernel
theorem dX10_setWait_6 : decode cX10_setWait 6 = .ok (.iconst 0, 1) := by decide +kernel
theorem dX10_setWait_7 : decode cX10_setWait 7 = .ok (.bipush 60, 2) := by decide +kernel
theorem dX10_setWait_9 : decode cX10_setWait 9 = .ok (.invokestatic 120, 3) := by decide +kernel
theorem dX10_setWait_12 : decode cX10_setWait 12 = .ok (.ifCond .ne 9, 3) := by decide +kernel
theorem dX10_setWait_15 : decode cX10_setWait 15 = .ok (.aload_n 0, 1) := by decide +kernel
theorem dX10_setWait_16 : decode cX10_setWait 16 = .ok (.iconst 1, 1) := by decide +kernel
theorem dX10_setWait_17 : decode cX10_setWait 17 = .ok (.invokevirtual 127, 3) := by decide +kernel
theorem dX10_setWait_20 : decode cX10_setWait 20 = .ok (.ireturn, 1) := by decide +kernel
theorem dX10_setWait_21 : decode cX10_setWait 21 = .ok (.aload_n 0, 1) := by decide +kernel
theorem dX10_setWait_22 : decode cX10_setWait 22 = .ok (.getfield 99, 3) := by decide +kernel
theorem dX10_setWait_25 : decode cX10_setWait 25 = .ok (.istore_n 2, 1) := by decide +kernel
theorem dX10_setWait_26 : decode cX10_setWait 26 = .ok (.aload_n 0, 1) := by decide +kernel
theorem dX10_setWait_27 : decode cX10_setWait 27 = .ok (.iload_n 1, 1) := by decide +kernel
theorem dX10_setWait_28 : decode cX10_setWait 28 = .ok (.putfield 99, 3) := by decide +kernel
theorem dX10_setWait_31 : decode cX10_setWait 31 = .ok (.iload_n 2, 1) := by decide +kernel
theorem dX10_setWait_32 : decode cX10_setWait 32 = .ok (.ireturn, 1) := by decide +kernel
theorem dX10_isPlace_0 : decode cX10_isPlace 0 = .ok (.iload_n 0, 1) := by decide +kernel
theorem dX10_isPlace_1 : decode cX10_isPlace 1 = .ok (.iconst 0, 1) := by decide +kernel
theorem dX10_isPlace_2 : decode cX10_isPlace 2 = .ok (.bipush 20, 2) := by decide +kernel
theorem dX10_isPlace_4 : decode cX10_isPlace 4 = .ok (.invokestatic 120, 3) := by decide +kernel
theorem dX10_isPlace_7 : decode cX10_isPlace 7 = .ok (.ifCond .eq 17, 3) := by decide +kernel
theorem dX10_isPlace_10 : decode cX10_isPlace 10 = .ok (.iload_n 1, 1) := by decide +kernel
theorem dX10_isPlace_11 : decode cX10_isPlace 11 = .ok (.iconst 0, 1) := by decide +kernel
theorem dX10_isPlace_12 : decode cX10_isPlace 12 = .ok (.bipush 20, 2) := by decide +kernel
theorem dX10_isPlace_14 : decode cX10_isPlace 14 = .ok (.invokestatic 120, 3) := by decide +kernel
theorem dX10_isPlace_17 : decode cX10_isPlace 17 = .ok (.ifCond .eq 7, 3) := by decide +kernel
theorem dX10_isPlace_20 : decode cX10_isPlace 20 = .ok (.iconst 1, 1) := by decide +kernel
theorem dX10_isPlace_21 : decode cX10_isPlace 21 = .ok (.goto 4, 3) := by decide +kernel
theorem dX10_isPlace_24 : decode cX10_isPlace 24 = .ok (.iconst 0, 1) := by decide +kernel
theorem dX10_isPlace_25 : decode cX10_isPlace 25 = .ok (.ireturn, 1) := by decide +kernel
theorem dX10_addBus_0 : decode cX10_addBus 0 = .ok (.aload_n 0, 1) := by decide +kernel
theorem dX10_addBus_1 : decode cX10_addBus 1 = .ok (.iconst 0, 1) := by decide +kernel
theorem dX10_addBus_2 : decode cX10_addBus 2 = .ok (.putfield 114, 3) := by decide +kernel
theorem dX10_addBus_5 : decode cX10_addBus 5 = .ok (.iload_n 1, 1) := by decide +kernel
theorem dX10_addBus_6 : decode cX10_addBus 6 = .ok (.iconst 1, 1) := by decide +kernel
theorem dX10_addBus_7 : decode cX10_addBus 7 = .ok (.bipush 6, 2) := by decide +kernel
theorem dX10_addBus_9 : decode cX10_addBus 9 = .ok (.invokestatic 120, 3) := by decide +kernel
theorem dX10_addBus_12 : decode cX10_addBus 12 = .ok (.ifCond .eq 24, 3) := by decide +kernel
theorem dX10_addBus_15 : decode cX10_addBus 15 = .ok (.iload_n 2, 1) := by decide +kernel
theorem dX10_addBus_16 : decode cX10_addBus 16 = .ok (.bipush 20, 2) := by decide +kernel
theorem dX10_addBus_18 : decode cX10_addBus 18 = .ok (.sipush 200, 3) := by decide +kernel
theorem dX10_addBus_21 : decode cX10_addBus 21 = .ok (.invokestatic 120, 3) := by decide +kernel
theorem dX10_addBus_24 : decode cX10_addBus 24 = .ok (.ifCond .eq 12, 3) := by decide +kernel
theorem dX10_addBus_27 : decode cX10_addBus 27 = .ok (.iload_n 3, 1) := by decide +kernel
theorem dX10_addBus_28 : decode cX10_addBus 28 = .ok (.iload 4, 2) := by decide +kernel
theorem dX10_addBus_30 : decode cX10_addBus 30 = .ok (.invokestatic 131, 3) := by decide +kernel
theorem dX10_addBus_33 : decode cX10_addBus 33 = .ok (.ifCond .ne 9, 3) := by decide +kernel
theorem dX10_addBus_36 : decode cX10_addBus 36 = .ok (.aload_n 0, 1) := by decide +kernel
theorem dX10_addBus_37 : decode cX10_addBus 37 = .ok (.iconst 1, 1) := by decide +kernel
theorem dX10_addBus_38 : decode cX10_addBus 38 = .ok (.invokevirtual 127, 3) := by decide +kernel
theorem dX10_addBus_41 : decode cX10_addBus 41 = .ok (.ireturn, 1) := by decide +kernel
theorem dX10_addBus_42 : decode cX10_addBus 42 = .ok (.aload_n 0, 1) := by decide +kernel
theorem dX10_addBus_43 : decode cX10_addBus 43 = .ok (.getfield 117, 3) := by decide +kernel
theorem dX10_addBus_46 : decode cX10_addBus 46 = .ok (.iconst 4, 1) := by decide +kernel
theorem dX10_addBus_47 : decode cX10_addBus 47 = .ok (.if_icmp .ne 9, 3) := by decide +kernel
theorem dX10_addBus_50 : decode cX10_addBus 50 = .ok (.aload_n 0, 1) := by decide +kernel
theorem dX10_addBus_51 : decode cX10_addBus 51 = .ok (.iconst 2, 1) := by decide +kernel
theorem dX10_addBus_52 : decode cX10_addBus 52 = .ok (.invokevirtual 127, 3) := by decide +kernel
theorem dX10_addBus_55 : decode cX10_addBus 55 = .ok (.ireturn, 1) := by decide +kernel
theorem dX10_addBus_56 : decode cX10_addBus 56 = .ok (.aload_n 0, 1) := by decide +kernel
theorem dX10_addBus_57 : decode cX10_addBus 57 = .ok (.getfield 9, 3) := by decide +kernel
theorem dX10_addBus_60 : decode cX10_addBus 60 = .ok (.aload_n 0, 1) := by decide +kernel
theorem dX10_addBus_61 : decode cX10_addBus 61 = .ok (.getfield 117, 3) := by decide +kernel
theorem dX10_addBus_64 : decode cX10_addBus 64 = .ok (.iload_n 1, 1) := by decide +kernel
theorem dX10_addBus_65 : decode cX10_addBus 65 = .ok (.iastore, 1) := by decide +kernel
theorem dX10_addBus_66 : decode cX10_addBus 66 = .ok (.aload_n 0, 1) := by decide +kernel
theorem dX10_addBus_67 : decode cX10_addBus 67 = .ok (.getfield 13, 3) := by decide +kernel
theorem dX10_addBus_70 : decode cX10_addBus 70 = .ok (.aload_n 0, 1) := by decide +kernel
theorem dX10_addBus_71 : decode cX10_addBus 71 = .ok (.getfield 117, 3) := by decide +kernel
theorem dX10_addBus_74 : decode cX10_addBus 74 = .ok (.iload_n 2, 1) := by decide +kernel
theorem dX10_addBus_75 : decode cX10_addBus 75 = .ok (.iastore, 1) := by decide +kernel
theorem dX10_addBus_76 : decode cX10_addBus 76 = .ok (.aload_n 0, 1) := by decide +kernel
theorem dX10_addBus_77 : decode cX10_addBus 77 = .ok (.getfield 16, 3) := by decide +kernel
theorem dX10_addBus_80 : decode cX10_addBus 80 = .ok (.aload_n 0, 1) := by decide +kernel
theorem dX10_addBus_81 : decode cX10_addBus 81 = .ok (.getfield 117, 3) := by decide +kernel
theorem dX10_addBus_84 : decode cX10_addBus 84 = .ok (.iload_n 2, 1) := by decide +kernel
theorem dX10_addBus_85 : decode cX10_addBus 85 = .ok (.iastore, 1) := by decide +kernel
theorem dX10_addBus_86 : decode cX10_addBus 86 = .ok (.aload_n 0, 1) := by decide +kernel
theorem dX10_addBus_87 : decode cX10_addBus 87 = .ok (.getfield 19, 3) := by decide +kernel
theorem dX10_addBus_90 : decode cX10_addBus 90 = .ok (.aload_n 0, 1) := by decide +kernel
theorem dX10_addBus_91 : decode cX10_addBus 91 = .ok (.getfield 117, 3) := by decide +kernel
theorem dX10_addBus_94 : decode cX10_addBus 94 = .ok (.iload_n 3, 1) := by decide +kernel
theorem dX10_addBus_95 : decode cX10_addBus 95 = .ok (.iastore, 1) := by decide +kernel
theorem dX10_addBus_96 : decode cX10_addBus 96 = .ok (.aload_n 0, 1) := by decide +kernel
theorem dX10_addBus_97 : decode cX10_addBus 97 = .ok (.getfield 22, 3) := by decide +kernel
theorem dX10_addBus_100 : decode cX10_addBus 100 = .ok (.aload_n 0, 1) := by decide +kernel
theorem dX10_addBus_101 : decode cX10_addBus 101 = .ok (.getfield 117, 3) := by decide +kernel
theorem dX10_addBus_104 : decode cX10_addBus 104 = .ok (.iload 4, 2) := by decide +kernel
theorem dX10_addBus_106 : decode cX10_addBus 106 = .ok (.iastore, 1) := by decide +kernel
theorem dX10_addBus_107 : decode cX10_addBus 107 = .ok (.aload_n 0, 1) := by decide +kernel
theorem dX10_addBus_108 : decode cX10_addBus 108 = .ok (.getfield 25, 3) := by decide +kernel
theorem dX10_addBus_111 : decode cX10_addBus 111 = .ok (.aload_n 0, 1) := by decide +kernel
theorem dX10_addBus_112 : decode cX10_addBus 112 = .ok (.getfield 117, 3) := by decide +kernel
theorem dX10_addBus_115 : decode cX10_addBus 115 = .ok (.iload_n 3, 1) := by decide +kernel
theorem dX10_addBus_116 : decode cX10_addBus 116 = .ok (.iastore, 1) := by decide +kernel
theorem dX10_addBus_117 : decode cX10_addBus 117 = .ok (.aload_n 0, 1) := by decide +kernel
theorem dX10_addBus_118 : decode cX10_addBus 118 = .ok (.getfield 28, 3) := by decide +kernel
theorem dX10_addBus_121 : decode cX10_addBus 121 = .ok (.aload_n 0, 1) := by decide +kernel
theorem dX10_addBus_122 : decode cX10_addBus 122 = .ok (.getfield 117, 3) := by decide +kernel
theorem dX10_addBus_125 : decode cX10_addBus 125 = .ok (.iload 4, 2) := by decide +kernel
theorem dX10_addBus_127 : decode cX10_addBus 127 = .ok (.iastore, 1) := by decide +kernel
theorem dX10_addBus_128 : decode cX10_addBus 128 = .ok (.aload_n 0, 1) := by decide +kernel
theorem dX10_addBus_129 : decode cX10_addBus 129 = .ok (.dup, 1) := by decide +kernel
theorem dX10_addBus_130 : decode cX10_addBus 130 = .ok (.getfield 117, 3) := by decide +kernel
theorem dX10_addBus_133 : decode cX10_addBus 133 = .ok (.iconst 1, 1) := by decide +kernel
theorem dX10_addBus_134 : decode cX10_addBus 134 = .ok (.iadd, 1) := by decide +kernel
theorem dX10_addBus_135 : decode cX10_addBus 135 = .ok (.putfield 117, 3) := by decide +kernel
theorem dX10_addBus_138 : decode cX10_addBus 138 = .ok (.aload_n 0, 1) := by decide +kernel
theorem dX10_addBus_139 : decode cX10_addBus 139 = .ok (.getfield 117, 3) := by decide +kernel
theorem dX10_addBus_142 : decode cX10_addBus 142 = .ok (.iconst 1, 1) := by decide +kernel
theorem dX10_addBus_143 : decode cX10_addBus 143 = .ok (.isub, 1) := by decide +kernel
theorem dX10_addBus_144 : decode cX10_addBus 144 = .ok (.ireturn, 1) := by decide +kernel
theorem dX10_isDrop_0 : decode cX10_isDrop 0 = .ok (.iload_n 0, 1) := by decide +kernel
theorem dX10_isDrop_1 : decode cX10_isDrop 1 = .ok (.iconst 2, 1) := by decide +kernel
theorem dX10_isDrop_2 : decode cX10_isDrop 2 = .ok (.irem, 1) := by decide +kernel
theorem dX10_isDrop_3 : decode cX10_isDrop 3 = .ok (.iconst 1, 1) := by decide +kernel
theorem dX10_isDrop_4 : decode cX10_isDrop 4 = .ok (.if_icmp .ne 7, 3) := by decide +kernel
theorem dX10_isDrop_7 : decode cX10_isDrop 7 = .ok (.iconst 1, 1) := by decide +kernel
theorem dX10_isDrop_8 : decode cX10_isDrop 8 = .ok (.goto 4, 3) := by decide +kernel
theorem dX10_isDrop_11 : decode cX10_isDrop 11 = .ok (.iconst 0, 1) := by decide +kernel
theorem dX10_isDrop_12 : decode cX10_isDrop 12 = .ok (.ireturn, 1) := by decide +kernel
theorem dX10_stopX_0 : decode cX10_stopX 0 = .ok (.iload_n 1, 1) := by decide +kernel
theorem dX10_stopX_1 : decode cX10_stopX 1 = .ok (.invokestatic 135, 3) := by decide +kernel
theorem dX10_stopX_4 : decode cX10_stopX 4 = .ok (.ifCond .eq 14, 3) := by decide +kernel
theorem dX10_stopX_7 : decode cX10_stopX 7 = .ok (.aload_n 0, 1) := by decide +kernel
theorem dX10_stopX_8 : decode cX10_stopX 8 = .ok (.getfield 52, 3) := by decide +kernel
theorem dX10_stopX_11 : decode cX10_stopX 11 = .ok (.iload_n 1, 1) := by decide +kernel
theorem dX10_stopX_12 : decode cX10_stopX 12 = .ok (.iconst 2, 1) := by decide +kernel
theorem dX10_stopX_13 : decode cX10_stopX 13 = .ok (.idiv, 1) := by decide +kernel
theorem dX10_stopX_14 : decode cX10_stopX 14 = .ok (.iaload, 1) := by decide +kernel
theorem dX10_stopX_15 : decode cX10_stopX 15 = .ok (.goto 11, 3) := by decide +kernel
theorem dX10_stopX_18 : decode cX10_stopX 18 = .ok (.aload_n 0, 1) := by decide +kernel
theorem dX10_stopX_19 : decode cX10_stopX 19 = .ok (.getfield 46, 3) := by decide +kernel
theorem dX10_stopX_22 : decode cX10_stopX 22 = .ok (.iload_n 1, 1) := by decide +kernel
theorem dX10_stopX_23 : decode cX10_stopX 23 = .ok (.iconst 2, 1) := by decide +kernel
theorem dX10_stopX_24 : decode cX10_stopX 24 = .ok (.idiv, 1) := by decide +kernel
theorem dX10_stopX_25 : decode cX10_stopX 25 = .ok (.iaload, 1) := by decide +kernel
theorem dX10_stopX_26 : decode cX10_stopX 26 = .ok (.ireturn, 1) := by decide +kernel
theorem dX10_stopY_0 : decode cX10_stopY 0 = .ok (.iload_n 1, 1) := by decide +kernel
theorem dX10_stopY_1 : decode cX10_stopY 1 = .ok (.invokestatic 135, 3) := by decide +kernel
theorem dX10_stopY_4 : decode cX10_stopY 4 = .ok (.ifCond .eq 14, 3) := by decide +kernel
theorem dX10_stopY_7 : decode cX10_stopY 7 = .ok (.aload_n 0, 1) := by decide +kernel
theorem dX10_stopY_8 : decode cX10_stopY 8 = .ok (.getfield 55, 3) := by decide +kernel
theorem dX10_stopY_11 : decode cX10_stopY 11 = .ok (.iload_n 1, 1) := by decide +kernel
theorem dX10_stopY_12 : decode cX10_stopY 12 = .ok (.iconst 2, 1) := by decide +kernel
theorem dX10_stopY_13 : decode cX10_stopY 13 = .ok (.idiv, 1) := by decide +kernel
theorem dX10_stopY_14 : decode cX10_stopY 14 = .ok (.iaload, 1) := by decide +kernel
theorem dX10_stopY_15 : decode cX10_stopY 15 = .ok (.goto 11, 3) := by decide +kernel
theorem dX10_stopY_18 : decode cX10_stopY 18 = .ok (.aload_n 0, 1) := by decide +kernel
theorem dX10_stopY_19 : decode cX10_stopY 19 = .ok (.getfield 49, 3) := by decide +kernel
theorem dX10_stopY_22 : decode cX10_stopY 22 = .ok (.iload_n 1, 1) := by decide +kernel
theorem dX10_stopY_23 : decode cX10_stopY 23 = .ok (.iconst 2, 1) := by decide +kernel
theorem dX10_stopY_24 : decode cX10_stopY 24 = .ok (.idiv, 1) := by decide +kernel
theorem dX10_stopY_25 : decode cX10_stopY 25 = .ok (.iaload, 1) := by decide +kernel
theorem dX10_stopY_26 : decode cX10_stopY 26 = .ok (.ireturn, 1) := by decide +kernel
theorem dX10_distance_0 : decode cX10_distance 0 = .ok (.iload_n 0, 1) := by decide +kernel
theorem dX10_distance_1 : decode cX10_distance 1 = .ok (.iload_n 2, 1) := by decide +kernel
theorem dX10_distance_2 : decode cX10_distance 2 = .ok (.isub, 1) := by decide +kernel
theorem dX10_distance_3 : decode cX10_distance 3 = .ok (.invokestatic 139, 3) := by decide +kernel
theorem dX10_distance_6 : decode cX10_distance 6 = .ok (.iload_n 1, 1) := by decide +kernel
theorem dX10_distance_7 : decode cX10_distance 7 = .ok (.iload_n 3, 1) := by decide +kernel
theorem dX10_distance_8 : decode cX10_distance 8 = .ok (.isub, 1) := by decide +kernel
theorem dX10_distance_9 : decode cX10_distance 9 = .ok (.invokestatic 139, 3) := by decide +kernel
theorem dX10_distance_12 : decode cX10_distance 12 = .ok (.iadd, 1) := by decide +kernel
theorem dX10_distance_13 : decode cX10_distance 13 = .ok (.ireturn, 1) := by decide +kernel
theorem dX10_aboard_0 : decode cX10_aboard 0 = .ok (.iconst 0, 1) := by decide +kernel
theorem dX10_aboard_1 : decode cX10_aboard 1 = .ok (.istore_n 2, 1) := by decide +kernel
theorem dX10_aboard_2 : decode cX10_aboard 2 = .ok (.iconst 0, 1) := by decide +kernel
theorem dX10_aboard_3 : decode cX10_aboard 3 = .ok (.istore_n 3, 1) := by decide +kernel
theorem dX10_aboard_4 : decode cX10_aboard 4 = .ok (.iload_n 3, 1) := by decide +kernel
theorem dX10_aboard_5 : decode cX10_aboard 5 = .ok (.aload_n 0, 1) := by decide +kernel
theorem dX10_aboard_6 : decode cX10_aboard 6 = .ok (.getfield 124, 3) := by decide +kernel
theorem dX10_aboard_9 : decode cX10_aboard 9 = .ok (.if_icmp .ge 43, 3) := by decide +kernel
theorem dX10_aboard_12 : decode cX10_aboard 12 = .ok (.iload_n 2, 1) := by decide +kernel
theorem dX10_aboard_13 : decode cX10_aboard 13 = .ok (.aload_n 0, 1) := by decide +kernel
theorem dX10_aboard_14 : decode cX10_aboard 14 = .ok (.getfield 76, 3) := by decide +kernel
theorem dX10_aboard_17 : decode cX10_aboard 17 = .ok (.iload_n 3, 1) := by decide +kernel
theorem dX10_aboard_18 : decode cX10_aboard 18 = .ok (.caload, 1) := by decide +kernel
theorem dX10_aboard_19 : decode cX10_aboard 19 = .ok (.bipush 114, 2) := by decide +kernel
theorem dX10_aboard_21 : decode cX10_aboard 21 = .ok (.if_icmp .ne 22, 3) := by decide +kernel
theorem dX10_aboard_24 : decode cX10_aboard 24 = .ok (.aload_n 0, 1) := by decide +kernel
theorem dX10_aboard_25 : decode cX10_aboard 25 = .ok (.getfield 67, 3) := by decide +kernel
theorem dX10_aboard_28 : decode cX10_aboard 28 = .ok (.iload_n 3, 1) := by decide +kernel
theorem dX10_aboard_29 : decode cX10_aboard 29 = .ok (.iaload, 1) := by decide +kernel
theorem dX10_aboard_30 : decode cX10_aboard 30 = .ok (.iload_n 1, 1) := by decide +kernel
theorem dX10_aboard_31 : decode cX10_aboard 31 = .ok (.if_icmp .ne 12, 3) := by decide +kernel
theorem dX10_aboard_34 : decode cX10_aboard 34 = .ok (.aload_n 0, 1) := by decide +kernel
theorem dX10_aboard_35 : decode cX10_aboard 35 = .ok (.getfield 58, 3) := by decide +kernel
theorem dX10_aboard_38 : decode cX10_aboard 38 = .ok (.iload_n 3, 1) := by decide +kernel
theorem dX10_aboard_39 : decode cX10_aboard 39 = .ok (.iaload, 1) := by decide +kernel
theorem dX10_aboard_40 : decode cX10_aboard 40 = .ok (.goto 4, 3) := by decide +kernel
theorem dX10_aboard_43 : decode cX10_aboard 43 = .ok (.iconst 0, 1) := by decide +kernel
theorem dX10_aboard_44 : decode cX10_aboard 44 = .ok (.iadd, 1) := by decide +kernel
theorem dX10_aboard_45 : decode cX10_aboard 45 = .ok (.istore_n 2, 1) := by decide +kernel
theorem dX10_aboard_46 : decode cX10_aboard 46 = .ok (.iinc 3 1, 3) := by decide +kernel
theorem dX10_aboard_49 : decode cX10_aboard 49 = .ok (.goto (-45), 3) := by decide +kernel
theorem dX10_aboard_52 : decode cX10_aboard 52 = .ok (.iload_n 2, 1) := by decide +kernel
theorem dX10_aboard_53 : decode cX10_aboard 53 = .ok (.ireturn, 1) := by decide +kernel
theorem dX10_runs_0 : decode cX10_runs 0 = .ok (.aload_n 0, 1) := by decide +kernel
theorem dX10_runs_1 : decode cX10_runs 1 = .ok (.getfield 19, 3) := by decide +kernel
theorem dX10_runs_4 : decode cX10_runs 4 = .ok (.iload_n 1, 1) := by decide +kernel
theorem dX10_runs_5 : decode cX10_runs 5 = .ok (.iaload, 1) := by decide +kernel
theorem dX10_runs_6 : decode cX10_runs 6 = .ok (.istore_n 2, 1) := by decide +kernel
theorem dX10_runs_7 : decode cX10_runs 7 = .ok (.aload_n 0, 1) := by decide +kernel
theorem dX10_runs_8 : decode cX10_runs 8 = .ok (.getfield 22, 3) := by decide +kernel
theorem dX10_runs_11 : decode cX10_runs 11 = .ok (.iload_n 1, 1) := by decide +kernel
theorem dX10_runs_12 : decode cX10_runs 12 = .ok (.iaload, 1) := by decide +kernel
theorem dX10_runs_13 : decode cX10_runs 13 = .ok (.istore_n 3, 1) := by decide +kernel
theorem dX10_runs_14 : decode cX10_runs 14 = .ok (.iconst 0, 1) := by decide +kernel
theorem dX10_runs_15 : decode cX10_runs 15 = .ok (.istore 4, 2) := by decide +kernel
theorem dX10_runs_17 : decode cX10_runs 17 = .ok (.iconst 0, 1) := by decide +kernel
theorem dX10_runs_18 : decode cX10_runs 18 = .ok (.istore 5, 2) := by decide +kernel
theorem dX10_runs_20 : decode cX10_runs 20 = .ok (.iload 5, 2) := by decide +kernel
theorem dX10_runs_22 : decode cX10_runs 22 = .ok (.aload_n 0, 1) := by decide +kernel
theorem dX10_runs_23 : decode cX10_runs 23 = .ok (.getfield 144, 3) := by decide +kernel
theorem dX10_runs_26 : decode cX10_runs 26 = .ok (.if_icmp .ge 79, 3) := by decide +kernel
theorem dX10_runs_29 : decode cX10_runs 29 = .ok (.iload 4, 2) := by decide +kernel
theorem dX10_runs_31 : decode cX10_runs 31 = .ok (.iload_n 2, 1) := by decide +kernel
theorem dX10_runs_32 : decode cX10_runs 32 = .ok (.iload_n 3, 1) := by decide +kernel
theorem dX10_runs_33 : decode cX10_runs 33 = .ok (.aload_n 0, 1) := by decide +kernel
theorem dX10_runs_34 : decode cX10_runs 34 = .ok (.aload_n 0, 1) := by decide +kernel
theorem dX10_runs_35 : decode cX10_runs 35 = .ok (.getfield 102, 3) := by decide +kernel
theorem dX10_runs_38 : decode cX10_runs 38 = .ok (.iload 5, 2) := by decide +kernel
theorem dX10_runs_40 : decode cX10_runs 40 = .ok (.iaload, 1) := by decide +kernel
theorem dX10_runs_41 : decode cX10_runs 41 = .ok (.invokevirtual 147, 3) := by decide +kernel
theorem dX10_runs_44 : decode cX10_runs 44 = .ok (.aload_n 0, 1) := by decide +kernel
theorem dX10_runs_45 : decode cX10_runs 45 = .ok (.aload_n 0, 1) := by decide +kernel
theorem dX10_runs_46 : decode cX10_runs 46 = .ok (.getfield 102, 3) := by decide +kernel
theorem dX10_runs_49 : decode cX10_runs 49 = .ok (.iload 5, 2) := by decide +kernel
theorem dX10_runs_51 : decode cX10_runs 51 = .ok (.iaload, 1) := by decide +kernel
theorem dX10_runs_52 : decode cX10_runs 52 = .ok (.invokevirtual 150, 3) := by decide +kernel
theorem dX10_runs_55 : decode cX10_runs 55 = .ok (.invokestatic 153, 3) := by decide +kernel
theorem dX10_runs_58 : decode cX10_runs 58 = .ok (.iadd, 1) := by decide +kernel
theorem dX10_runs_59 : decode cX10_runs 59 = .ok (.istore 4, 2) := by decide +kernel
theorem dX10_runs_61 : decode cX10_runs 61 = .ok (.aload_n 0, 1) := by decide +kernel
theorem dX10_runs_62 : decode cX10_runs 62 = .ok (.aload_n 0, 1) := by decide +kernel
theorem dX10_runs_63 : decode cX10_runs 63 = .ok (.getfield 102, 3) := by decide +kernel
theorem dX10_runs_66 : decode cX10_runs 66 = .ok (.iload 5, 2) := by decide +kernel
theorem dX10_runs_68 : decode cX10_runs 68 = .ok (.iaload, 1) := by decide +kernel
theorem dX10_runs_69 : decode cX10_runs 69 = .ok (.invokevirtual 147, 3) := by decide +kernel
theorem dX10_runs_72 : decode cX10_runs 72 = .ok (.istore_n 2, 1) := by decide +kernel
theorem dX10_runs_73 : decode cX10_runs 73 = .ok (.aload_n 0, 1) := by decide +kernel
theorem dX10_runs_74 : decode cX10_runs 74 = .ok (.aload_n 0, 1) := by decide +kernel
theorem dX10_runs_75 : decode cX10_runs 75 = .ok (.getfield 102, 3) := by decide +kernel
theorem dX10_runs_78 : decode cX10_runs 78 = .ok (.iload 5, 2) := by decide +kernel
theorem dX10_runs_80 : decode cX10_runs 80 = .ok (.iaload, 1) := by decide +kernel
theorem dX10_runs_81 : decode cX10_runs 81 = .ok (.invokevirtual 150, 3) := by decide +kernel
theorem dX10_runs_84 : decode cX10_runs 84 = .ok (.istore_n 3, 1) := by decide +kernel
theorem dX10_runs_85 : decode cX10_runs 85 = .ok (.aload_n 0, 1) := by decide +kernel
theorem dX10_runs_86 : decode cX10_runs 86 = .ok (.getfield 105, 3) := by decide +kernel
theorem dX10_runs_89 : decode cX10_runs 89 = .ok (.iload 5, 2) := by decide +kernel
theorem dX10_runs_91 : decode cX10_runs 91 = .ok (.aload_n 0, 1) := by decide +kernel
theorem dX10_runs_92 : decode cX10_runs 92 = .ok (.getfield 157, 3) := by decide +kernel
theorem dX10_runs_95 : decode cX10_runs 95 = .ok (.iload 4, 2) := by decide +kernel
theorem dX10_runs_97 : decode cX10_runs 97 = .ok (.iadd, 1) := by decide +kernel
theorem dX10_runs_98 : decode cX10_runs 98 = .ok (.iastore, 1) := by decide +kernel
theorem dX10_runs_99 : decode cX10_runs 99 = .ok (.iinc 5 1, 3) := by decide +kernel
theorem dX10_runs_102 : decode cX10_runs 102 = .ok (.goto (-82), 3) := by decide +kernel
theorem dX10_runs_105 : decode cX10_runs 105 = .ok (.iload 4, 2) := by decide +kernel
theorem dX10_runs_107 : decode cX10_runs 107 = .ok (.iload_n 2, 1) := by decide +kernel
theorem dX10_runs_108 : decode cX10_runs 108 = .ok (.iload_n 3, 1) := by decide +kernel
theorem dX10_runs_109 : decode cX10_runs 109 = .ok (.aload_n 0, 1) := by decide +kernel
theorem dX10_runs_110 : decode cX10_runs 110 = .ok (.getfield 25, 3) := by decide +kernel
theorem dX10_runs_113 : decode cX10_runs 113 = .ok (.iload_n 1, 1) := by decide +kernel
theorem dX10_runs_114 : decode cX10_runs 114 = .ok (.iaload, 1) := by decide +kernel
theorem dX10_runs_115 : decode cX10_runs 115 = .ok (.aload_n 0, 1) := by decide +kernel
theorem dX10_runs_116 : decode cX10_runs 116 = .ok (.getfield 28, 3) := by decide +kernel
theorem dX10_runs_119 : decode cX10_runs 119 = .ok (.iload_n 1, 1) := by decide +kernel
theorem dX10_runs_120 : decode cX10_runs 120 = .ok (.iaload, 1) := by decide +kernel
theorem dX10_runs_121 : decode cX10_runs 121 = .ok (.invokestatic 153, 3) := by decide +kernel
theorem dX10_runs_124 : decode cX10_runs 124 = .ok (.iadd, 1) := by decide +kernel
theorem dX10_runs_125 : decode cX10_runs 125 = .ok (.ireturn, 1) := by decide +kernel
theorem dX10_pickupOf_0 : decode cX10_pickupOf 0 = .ok (.iconst 0, 1) := by decide +kernel
theorem dX10_pickupOf_1 : decode cX10_pickupOf 1 = .ok (.istore_n 2, 1) := by decide +kernel
theorem dX10_pickupOf_2 : decode cX10_pickupOf 2 = .ok (.iload_n 2, 1) := by decide +kernel
theorem dX10_pickupOf_3 : decode cX10_pickupOf 3 = .ok (.aload_n 0, 1) := by decide +kernel
theorem dX10_pickupOf_4 : decode cX10_pickupOf 4 = .ok (.getfield 144, 3) := by decide +kernel
theorem dX10_pickupOf_7 : decode cX10_pickupOf 7 = .ok (.if_icmp .ge 28, 3) := by decide +kernel
theorem dX10_pickupOf_10 : decode cX10_pickupOf 10 = .ok (.aload_n 0, 1) := by decide +kernel
theorem dX10_pickupOf_11 : decode cX10_pickupOf 11 = .ok (.getfield 102, 3) := by decide +kernel
theorem dX10_pickupOf_14 : decode cX10_pickupOf 14 = .ok (.iload_n 2, 1) := by decide +kernel
theorem dX10_pickupOf_15 : decode cX10_pickupOf 15 = .ok (.iaload, 1) := by decide +kernel
theorem dX10_pickupOf_16 : decode cX10_pickupOf 16 = .ok (.iload_n 1, 1) := by decide +kernel
theorem dX10_pickupOf_17 : decode cX10_pickupOf 17 = .ok (.iconst 1, 1) := by decide +kernel
theorem dX10_pickupOf_18 : decode cX10_pickupOf 18 = .ok (.isub, 1) := by decide +kernel
theorem dX10_pickupOf_19 : decode cX10_pickupOf 19 = .ok (.if_icmp .ne 10, 3) := by decide +kernel
theorem dX10_pickupOf_22 : decode cX10_pickupOf 22 = .ok (.aload_n 0, 1) := by decide +kernel
theorem dX10_pickupOf_23 : decode cX10_pickupOf 23 = .ok (.getfield 105, 3) := by decide +kernel
theorem dX10_pickupOf_26 : decode cX10_pickupOf 26 = .ok (.iload_n 2, 1) := by decide +kernel
theorem dX10_pickupOf_27 : decode cX10_pickupOf 27 = .ok (.iaload, 1) := by decide +kernel
theorem dX10_pickupOf_28 : decode cX10_pickupOf 28 = .ok (.ireturn, 1) := by decide +kernel
theorem dX10_pickupOf_29 : decode cX10_pickupOf 29 = .ok (.iinc 2 1, 3) := by decide +kernel
theorem dX10_pickupOf_32 : decode cX10_pickupOf 32 = .ok (.goto (-30), 3) := by decide +kernel
theorem dX10_pickupOf_35 : decode cX10_pickupOf 35 = .ok (.aload_n 0, 1) := by decide +kernel
theorem dX10_pickupOf_36 : decode cX10_pickupOf 36 = .ok (.getfield 70, 3) := by decide +kernel
theorem dX10_pickupOf_39 : decode cX10_pickupOf 39 = .ok (.iload_n 1, 1) := by decide +kernel
theorem dX10_pickupOf_40 : decode cX10_pickupOf 40 = .ok (.iconst 2, 1) := by decide +kernel
theorem dX10_pickupOf_41 : decode cX10_pickupOf 41 = .ok (.idiv, 1) := by decide +kernel
theorem dX10_pickupOf_42 : decode cX10_pickupOf 42 = .ok (.iaload, 1) := by decide +kernel
theorem dX10_pickupOf_43 : decode cX10_pickupOf 43 = .ok (.ireturn, 1) := by decide +kernel
theorem dX10_fault_0 : decode cX10_fault 0 = .ok (.aload_n 0, 1) := by decide +kernel
theorem dX10_fault_1 : decode cX10_fault 1 = .ok (.iload_n 1, 1) := by decide +kernel
theorem dX10_fault_2 : decode cX10_fault 2 = .ok (.invokevirtual 160, 3) := by decide +kernel
theorem dX10_fault_5 : decode cX10_fault 5 = .ok (.istore_n 2, 1) := by decide +kernel
theorem dX10_fault_6 : decode cX10_fault 6 = .ok (.aload_n 0, 1) := by decide +kernel
theorem dX10_fault_7 : decode cX10_fault 7 = .ok (.iload_n 1, 1) := by decide +kernel
theorem dX10_fault_8 : decode cX10_fault 8 = .ok (.invokevirtual 163, 3) := by decide +kernel
theorem dX10_fault_11 : decode cX10_fault 11 = .ok (.istore_n 3, 1) := by decide +kernel
theorem dX10_fault_12 : decode cX10_fault 12 = .ok (.aload_n 0, 1) := by decide +kernel
theorem dX10_fault_13 : decode cX10_fault 13 = .ok (.getfield 144, 3) := by decide +kernel
theorem dX10_fault_16 : decode cX10_fault 16 = .ok (.bipush 6, 2) := by decide +kernel
theorem dX10_fault_18 : decode cX10_fault 18 = .ok (.if_icmp .le 7, 3) := by decide +kernel
theorem dX10_fault_21 : decode cX10_fault 21 = .ok (.iconst 1, 1) := by decide +kernel
theorem dX10_fault_22 : decode cX10_fault 22 = .ok (.goto 4, 3) := by decide +kernel
theorem dX10_fault_25 : decode cX10_fault 25 = .ok (.iconst 0, 1) := by decide +kernel
theorem dX10_fault_26 : decode cX10_fault 26 = .ok (.istore 4, 2) := by decide +kernel
theorem dX10_fault_28 : decode cX10_fault 28 = .ok (.iconst 0, 1) := by decide +kernel
theorem dX10_fault_29 : decode cX10_fault 29 = .ok (.istore 5, 2) := by decide +kernel
theorem dX10_fault_31 : decode cX10_fault 31 = .ok (.iconst 0, 1) := by decide +kernel
theorem dX10_fault_32 : decode cX10_fault 32 = .ok (.istore 6, 2) := by decide +kernel
theorem dX10_fault_34 : decode cX10_fault 34 = .ok (.iconst 0, 1) := by decide +kernel
theorem dX10_fault_35 : decode cX10_fault 35 = .ok (.istore 7, 2) := by decide +kernel
theorem dX10_fault_37 : decode cX10_fault 37 = .ok (.iload 7, 2) := by decide +kernel
theorem dX10_fault_39 : decode cX10_fault 39 = .ok (.aload_n 0, 1) := by decide +kernel
theorem dX10_fault_40 : decode cX10_fault 40 = .ok (.getfield 144, 3) := by decide +kernel
theorem dX10_fault_43 : decode cX10_fault 43 = .ok (.if_icmp .ge 166, 3) := by decide +kernel
theorem dX10_fault_46 : decode cX10_fault 46 = .ok (.aload_n 0, 1) := by decide +kernel
theorem dX10_fault_47 : decode cX10_fault 47 = .ok (.getfield 102, 3) := by decide +kernel
theorem dX10_fault_50 : decode cX10_fault 50 = .ok (.iload 7, 2) := by decide +kernel
theorem dX10_fault_52 : decode cX10_fault 52 = .ok (.iaload, 1) := by decide +kernel
theorem dX10_fault_53 : decode cX10_fault 53 = .ok (.iconst 2, 1) := by decide +kernel
theorem dX10_fault_54 : decode cX10_fault 54 = .ok (.idiv, 1) := by decide +kernel
theorem dX10_fault_55 : decode cX10_fault 55 = .ok (.istore 8, 2) := by decide +kernel
theorem dX10_fault_57 : decode cX10_fault 57 = .ok (.iload_n 3, 1) := by decide +kernel
theorem dX10_fault_58 : decode cX10_fault 58 = .ok (.aload_n 0, 1) := by decide +kernel
theorem dX10_fault_59 : decode cX10_fault 59 = .ok (.getfield 102, 3) := by decide +kernel
theorem dX10_fault_62 : decode cX10_fault 62 = .ok (.iload 7, 2) := by decide +kernel
theorem dX10_fault_64 : decode cX10_fault 64 = .ok (.iaload, 1) := by decide +kernel
theorem dX10_fault_65 : decode cX10_fault 65 = .ok (.invokestatic 135, 3) := by decide +kernel
theorem dX10_fault_68 : decode cX10_fault 68 = .ok (.ifCond .eq 14, 3) := by decide +kernel
theorem dX10_fault_71 : decode cX10_fault 71 = .ok (.aload_n 0, 1) := by decide +kernel
theorem dX10_fault_72 : decode cX10_fault 72 = .ok (.getfield 58, 3) := by decide +kernel
theorem dX10_fault_75 : decode cX10_fault 75 = .ok (.iload 8, 2) := by decide +kernel
theorem dX10_fault_77 : decode cX10_fault 77 = .ok (.iaload, 1) := by decide +kernel
theorem dX10_fault_78 : decode cX10_fault 78 = .ok (.ineg, 1) := by decide +kernel
theorem dX10_fault_79 : decode cX10_fault 79 = .ok (.goto 10, 3) := by decide +kernel
theorem dX10_fault_82 : decode cX10_fault 82 = .ok (.aload_n 0, 1) := by decide +kernel
theorem dX10_fault_83 : decode cX10_fault 83 = .ok (.getfield 58, 3) := by decide +kernel
theorem dX10_fault_86 : decode cX10_fault 86 = .ok (.iload 8, 2) := by decide +kernel
theorem dX10_fault_88 : decode cX10_fault 88 = .ok (.iaload, 1) := by decide +kernel
theorem dX10_fault_89 : decode cX10_fault 89 = .ok (.iadd, 1) := by decide +kernel
theorem dX10_fault_90 : decode cX10_fault 90 = .ok (.istore_n 3, 1) := by decide +kernel
theorem dX10_fault_91 : decode cX10_fault 91 = .ok (.iload 4, 2) := by decide +kernel
theorem dX10_fault_93 : decode cX10_fault 93 = .ok (.iload_n 3, 1) := by decide +kernel
theorem dX10_fault_94 : decode cX10_fault 94 = .ok (.aload_n 0, 1) := by decide +kernel
theorem dX10_fault_95 : decode cX10_fault 95 = .ok (.getfield 9, 3) := by decide +kernel
theorem dX10_fault_98 : decode cX10_fault 98 = .ok (.iload_n 1, 1) := by decide +kernel
theorem dX10_fault_99 : decode cX10_fault 99 = .ok (.iaload, 1) := by decide +kernel
theorem dX10_fault_100 : decode cX10_fault 100 = .ok (.if_icmp .le 7, 3) := by decide +kernel
theorem dX10_fault_103 : decode cX10_fault 103 = .ok (.iconst 1, 1) := by decide +kernel
theorem dX10_fault_104 : decode cX10_fault 104 = .ok (.goto 4, 3) := by decide +kernel
theorem dX10_fault_107 : decode cX10_fault 107 = .ok (.iconst 0, 1) := by decide +kernel
theorem dX10_fault_108 : decode cX10_fault 108 = .ok (.ior, 1) := by decide +kernel
theorem dX10_fault_109 : decode cX10_fault 109 = .ok (.istore 4, 2) := by decide +kernel
theorem dX10_fault_111 : decode cX10_fault 111 = .ok (.iload 5, 2) := by decide +kernel
theorem dX10_fault_113 : decode cX10_fault 113 = .ok (.aload_n 0, 1) := by decide +kernel
theorem dX10_fault_114 : decode cX10_fault 114 = .ok (.getfield 102, 3) := by decide +kernel
theorem dX10_fault_117 : decode cX10_fault 117 = .ok (.iload 7, 2) := by decide +kernel
theorem dX10_fault_119 : decode cX10_fault 119 = .ok (.iaload, 1) := by decide +kernel
theorem dX10_fault_120 : decode cX10_fault 120 = .ok (.invokestatic 135, 3) := by decide +kernel
theorem dX10_fault_123 : decode cX10_fault 123 = .ok (.ifCond .ne 24, 3) := by decide +kernel
theorem dX10_fault_126 : decode cX10_fault 126 = .ok (.aload_n 0, 1) := by decide +kernel
theorem dX10_fault_127 : decode cX10_fault 127 = .ok (.getfield 105, 3) := by decide +kernel
theorem dX10_fault_130 : decode cX10_fault 130 = .ok (.iload 7, 2) := by decide +kernel
theorem dX10_fault_132 : decode cX10_fault 132 = .ok (.iaload, 1) := by decide +kernel
theorem dX10_fault_133 : decode cX10_fault 133 = .ok (.aload_n 0, 1) := by decide +kernel
theorem dX10_fault_134 : decode cX10_fault 134 = .ok (.getfield 61, 3) := by decide +kernel
theorem dX10_fault_137 : decode cX10_fault 137 = .ok (.iload 8, 2) := by decide +kernel
theorem dX10_fault_139 : decode cX10_fault 139 = .ok (.iaload, 1) := by decide +kernel
theorem dX10_fault_140 : decode cX10_fault 140 = .ok (.if_icmp .le 7, 3) := by decide +kernel
theorem dX10_fault_143 : decode cX10_fault 143 = .ok (.iconst 1, 1) := by decide +kernel
theorem dX10_fault_144 : decode cX10_fault 144 = .ok (.goto 4, 3) := by decide +kernel
theorem dX10_fault_147 : decode cX10_fault 147 = .ok (.iconst 0, 1) := by decide +kernel
theorem dX10_fault_148 : decode cX10_fault 148 = .ok (.ior, 1) := by decide +kernel
theorem dX10_fault_149 : decode cX10_fault 149 = .ok (.istore 5, 2) := by decide +kernel
theorem dX10_fault_151 : decode cX10_fault 151 = .ok (.iload 6, 2) := by decide +kernel
theorem dX10_fault_153 : decode cX10_fault 153 = .ok (.aload_n 0, 1) := by decide +kernel
theorem dX10_fault_154 : decode cX10_fault 154 = .ok (.getfield 102, 3) := by decide +kernel
theorem dX10_fault_157 : decode cX10_fault 157 = .ok (.iload 7, 2) := by decide +kernel
theorem dX10_fault_159 : decode cX10_fault 159 = .ok (.iaload, 1) := by decide +kernel
theorem dX10_fault_160 : decode cX10_fault 160 = .ok (.invokestatic 135, 3) := by decide +kernel
theorem dX10_fault_163 : decode cX10_fault 163 = .ok (.ifCond .eq 36, 3) := by decide +kernel
theorem dX10_fault_166 : decode cX10_fault 166 = .ok (.aload_n 0, 1) := by decide +kernel
theorem dX10_fault_167 : decode cX10_fault 167 = .ok (.getfield 105, 3) := by decide +kernel
theorem dX10_fault_170 : decode cX10_fault 170 = .ok (.iload 7, 2) := by decide +kernel
theorem dX10_fault_172 : decode cX10_fault 172 = .ok (.iaload, 1) := by decide +kernel
theorem dX10_fault_173 : decode cX10_fault 173 = .ok (.aload_n 0, 1) := by decide +kernel
theorem dX10_fault_174 : decode cX10_fault 174 = .ok (.aload_n 0, 1) := by decide +kernel
theorem dX10_fault_175 : decode cX10_fault 175 = .ok (.getfield 102, 3) := by decide +kernel
theorem dX10_fault_178 : decode cX10_fault 178 = .ok (.iload 7, 2) := by decide +kernel
theorem dX10_fault_180 : decode cX10_fault 180 = .ok (.iaload, 1) := by decide +kernel
theorem dX10_fault_181 : decode cX10_fault 181 = .ok (.invokevirtual 166, 3) := by decide +kernel
theorem dX10_fault_184 : decode cX10_fault 184 = .ok (.isub, 1) := by decide +kernel
theorem dX10_fault_185 : decode cX10_fault 185 = .ok (.aload_n 0, 1) := by decide +kernel
theorem dX10_fault_186 : decode cX10_fault 186 = .ok (.getfield 64, 3) := by decide +kernel
theorem dX10_fault_189 : decode cX10_fault 189 = .ok (.iload 8, 2) := by decide +kernel
theorem dX10_fault_191 : decode cX10_fault 191 = .ok (.iaload, 1) := by decide +kernel
theorem dX10_fault_192 : decode cX10_fault 192 = .ok (.if_icmp .le 7, 3) := by decide +kernel
theorem dX10_fault_195 : decode cX10_fault 195 = .ok (.iconst 1, 1) := by decide +kernel
theorem dX10_fault_196 : decode cX10_fault 196 = .ok (.goto 4, 3) := by decide +kernel
theorem dX10_fault_199 : decode cX10_fault 199 = .ok (.iconst 0, 1) := by decide +kernel
theorem dX10_fault_200 : decode cX10_fault 200 = .ok (.ior, 1) := by decide +kernel
theorem dX10_fault_201 : decode cX10_fault 201 = .ok (.istore 6, 2) := by decide +kernel
theorem dX10_fault_203 : decode cX10_fault 203 = .ok (.iinc 7 1, 3) := by decide +kernel
theorem dX10_fault_206 : decode cX10_fault 206 = .ok (.goto (-169), 3) := by decide +kernel
theorem dX10_fault_209 : decode cX10_fault 209 = .ok (.iload 4, 2) := by decide +kernel
theorem dX10_fault_211 : decode cX10_fault 211 = .ok (.ifCond .eq 7, 3) := by decide +kernel
theorem dX10_fault_214 : decode cX10_fault 214 = .ok (.iconst 1, 1) := by decide +kernel
theorem dX10_fault_215 : decode cX10_fault 215 = .ok (.goto 36, 3) := by decide +kernel
theorem dX10_fault_218 : decode cX10_fault 218 = .ok (.iload 5, 2) := by decide +kernel
theorem dX10_fault_220 : decode cX10_fault 220 = .ok (.ifCond .eq 7, 3) := by decide +kernel
theorem dX10_fault_223 : decode cX10_fault 223 = .ok (.iconst 2, 1) := by decide +kernel
theorem dX10_fault_224 : decode cX10_fault 224 = .ok (.goto 27, 3) := by decide +kernel
theorem dX10_fault_227 : decode cX10_fault 227 = .ok (.iload 6, 2) := by decide +kernel
theorem dX10_fault_229 : decode cX10_fault 229 = .ok (.ifCond .eq 7, 3) := by decide +kernel
theorem dX10_fault_232 : decode cX10_fault 232 = .ok (.iconst 3, 1) := by decide +kernel
theorem dX10_fault_233 : decode cX10_fault 233 = .ok (.goto 18, 3) := by decide +kernel
theorem dX10_fault_236 : decode cX10_fault 236 = .ok (.iload_n 2, 1) := by decide +kernel
theorem dX10_fault_237 : decode cX10_fault 237 = .ok (.aload_n 0, 1) := by decide +kernel
theorem dX10_fault_238 : decode cX10_fault 238 = .ok (.getfield 16, 3) := by decide +kernel
theorem dX10_fault_241 : decode cX10_fault 241 = .ok (.iload_n 1, 1) := by decide +kernel
theorem dX10_fault_242 : decode cX10_fault 242 = .ok (.iaload, 1) := by decide +kernel
theorem dX10_fault_243 : decode cX10_fault 243 = .ok (.if_icmp .le 7, 3) := by decide +kernel
theorem dX10_fault_246 : decode cX10_fault 246 = .ok (.iconst 4, 1) := by decide +kernel
theorem dX10_fault_247 : decode cX10_fault 247 = .ok (.goto 4, 3) := by decide +kernel
theorem dX10_fault_250 : decode cX10_fault 250 = .ok (.iconst 0, 1) := by decide +kernel
theorem dX10_fault_251 : decode cX10_fault 251 = .ok (.ireturn, 1) := by decide +kernel
theorem dX10_copies_0 : decode cX10_copies 0 = .ok (.aload_n 0, 1) := by decide +kernel
theorem dX10_copies_1 : decode cX10_copies 1 = .ok (.aload_n 0, 1) := by decide +kernel
theorem dX10_copies_2 : decode cX10_copies 2 = .ok (.getfield 40, 3) := by decide +kernel
theorem dX10_copies_5 : decode cX10_copies 5 = .ok (.iload_n 1, 1) := by decide +kernel
theorem dX10_copies_6 : decode cX10_copies 6 = .ok (.iaload, 1) := by decide +kernel
theorem dX10_copies_7 : decode cX10_copies 7 = .ok (.putfield 144, 3) := by decide +kernel
theorem dX10_copies_10 : decode cX10_copies 10 = .ok (.iconst 0, 1) := by decide +kernel
theorem dX10_copies_11 : decode cX10_copies 11 = .ok (.istore_n 2, 1) := by decide +kernel
theorem dX10_copies_12 : decode cX10_copies 12 = .ok (.iload_n 2, 1) := by decide +kernel
theorem dX10_copies_13 : decode cX10_copies 13 = .ok (.aload_n 0, 1) := by decide +kernel
theorem dX10_copies_14 : decode cX10_copies 14 = .ok (.getfield 144, 3) := by decide +kernel
theorem dX10_copies_17 : decode cX10_copies 17 = .ok (.if_icmp .ge 26, 3) := by decide +kernel
theorem dX10_copies_20 : decode cX10_copies 20 = .ok (.aload_n 0, 1) := by decide +kernel
theorem dX10_copies_21 : decode cX10_copies 21 = .ok (.getfield 102, 3) := by decide +kernel
theorem dX10_copies_24 : decode cX10_copies 24 = .ok (.iload_n 2, 1) := by decide +kernel
theorem dX10_copies_25 : decode cX10_copies 25 = .ok (.aload_n 0, 1) := by decide +kernel
theorem dX10_copies_26 : decode cX10_copies 26 = .ok (.getfield 43, 3) := by decide +kernel
theorem dX10_copies_29 : decode cX10_copies 29 = .ok (.bipush 8, 2) := by decide +kernel
theorem dX10_copies_31 : decode cX10_copies 31 = .ok (.iload_n 1, 1) := by decide +kernel
theorem dX10_copies_32 : decode cX10_copies 32 = .ok (.imul, 1) := by decide +kernel
theorem dX10_copies_33 : decode cX10_copies 33 = .ok (.iload_n 2, 1) := by decide +kernel
theorem dX10_copies_34 : decode cX10_copies 34 = .ok (.iadd, 1) := by decide +kernel
theorem dX10_copies_35 : decode cX10_copies 35 = .ok (.iaload, 1) := by decide +kernel
theorem dX10_copies_36 : decode cX10_copies 36 = .ok (.iastore, 1) := by decide +kernel
theorem dX10_copies_37 : decode cX10_copies 37 = .ok (.iinc 2 1, 3) := by decide +kernel
theorem dX10_copies_40 : decode cX10_copies 40 = .ok (.goto (-28), 3) := by decide +kernel
theorem dX10_copies_43 : decode cX10_copies 43 = .ok (.return_, 1) := by decide +kernel
theorem dX10_lengthOf_0 : decode cX10_lengthOf 0 = .ok (.aload_n 0, 1) := by decide +kernel
theorem dX10_lengthOf_1 : decode cX10_lengthOf 1 = .ok (.iload_n 1, 1) := by decide +kernel
theorem dX10_lengthOf_2 : decode cX10_lengthOf 2 = .ok (.invokevirtual 169, 3) := by decide +kernel
theorem dX10_lengthOf_5 : decode cX10_lengthOf 5 = .ok (.aload_n 0, 1) := by decide +kernel
theorem dX10_lengthOf_6 : decode cX10_lengthOf 6 = .ok (.iload_n 1, 1) := by decide +kernel
theorem dX10_lengthOf_7 : decode cX10_lengthOf 7 = .ok (.invokevirtual 160, 3) := by decide +kernel
theorem dX10_lengthOf_10 : decode cX10_lengthOf 10 = .ok (.ireturn, 1) := by decide +kernel
theorem dX10_puts_0 : decode cX10_puts 0 = .ok (.aload_n 0, 1) := by decide +kernel
theorem dX10_puts_1 : decode cX10_puts 1 = .ok (.iconst 0, 1) := by decide +kernel
theorem dX10_puts_2 : decode cX10_puts 2 = .ok (.putfield 144, 3) := by decide +kernel
theorem dX10_puts_5 : decode cX10_puts 5 = .ok (.iconst 0, 1) := by decide +kernel
theorem dX10_puts_6 : decode cX10_puts 6 = .ok (.istore 5, 2) := by decide +kernel
theorem dX10_puts_8 : decode cX10_puts 8 = .ok (.iload 5, 2) := by decide +kernel
theorem dX10_puts_10 : decode cX10_puts 10 = .ok (.aload_n 0, 1) := by decide +kernel
theorem dX10_puts_11 : decode cX10_puts 11 = .ok (.getfield 40, 3) := by decide +kernel
theorem dX10_puts_14 : decode cX10_puts 14 = .ok (.iload_n 1, 1) := by decide +kernel
theorem dX10_puts_15 : decode cX10_puts 15 = .ok (.iaload, 1) := by decide +kernel
theorem dX10_puts_16 : decode cX10_puts 16 = .ok (.if_icmp .gt 110, 3) := by decide +kernel
theorem dX10_puts_19 : decode cX10_puts 19 = .ok (.iload 5, 2) := by decide +kernel
theorem dX10_puts_21 : decode cX10_puts 21 = .ok (.iload_n 3, 1) := by decide +kernel
theorem dX10_puts_22 : decode cX10_puts 22 = .ok (.if_icmp .ne 25, 3) := by decide +kernel
theorem dX10_puts_25 : decode cX10_puts 25 = .ok (.aload_n 0, 1) := by decide +kernel
theorem dX10_puts_26 : decode cX10_puts 26 = .ok (.getfield 102, 3) := by decide +kernel
theorem dX10_puts_29 : decode cX10_puts 29 = .ok (.aload_n 0, 1) := by decide +kernel
theorem dX10_puts_30 : decode cX10_puts 30 = .ok (.getfield 144, 3) := by decide +kernel
theorem dX10_puts_33 : decode cX10_puts 33 = .ok (.iconst 2, 1) := by decide +kernel
theorem dX10_puts_34 : decode cX10_puts 34 = .ok (.iload_n 2, 1) := by decide +kernel
theorem dX10_puts_35 : decode cX10_puts 35 = .ok (.imul, 1) := by decide +kernel
theorem dX10_puts_36 : decode cX10_puts 36 = .ok (.iastore, 1) := by decide +kernel
theorem dX10_puts_37 : decode cX10_puts 37 = .ok (.aload_n 0, 1) := by decide +kernel
theorem dX10_puts_38 : decode cX10_puts 38 = .ok (.dup, 1) := by decide +kernel
theorem dX10_puts_39 : decode cX10_puts 39 = .ok (.getfield 144, 3) := by decide +kernel
theorem dX10_puts_42 : decode cX10_puts 42 = .ok (.iconst 1, 1) := by decide +kernel
theorem dX10_puts_43 : decode cX10_puts 43 = .ok (.iadd, 1) := by decide +kernel
theorem dX10_puts_44 : decode cX10_puts 44 = .ok (.putfield 144, 3) := by decide +kernel
theorem dX10_puts_47 : decode cX10_puts 47 = .ok (.iload 5, 2) := by decide +kernel
theorem dX10_puts_49 : decode cX10_puts 49 = .ok (.iload 4, 2) := by decide +kernel
theorem dX10_puts_51 : decode cX10_puts 51 = .ok (.if_icmp .ne 27, 3) := by decide +kernel
theorem dX10_puts_54 : decode cX10_puts 54 = .ok (.aload_n 0, 1) := by decide +kernel
theorem dX10_puts_55 : decode cX10_puts 55 = .ok (.getfield 102, 3) := by decide +kernel
theorem dX10_puts_58 : decode cX10_puts 58 = .ok (.aload_n 0, 1) := by decide +kernel
theorem dX10_puts_59 : decode cX10_puts 59 = .ok (.getfield 144, 3) := by decide +kernel
theorem dX10_puts_62 : decode cX10_puts 62 = .ok (.iconst 2, 1) := by decide +kernel
theorem dX10_puts_63 : decode cX10_puts 63 = .ok (.iload_n 2, 1) := by decide +kernel
theorem dX10_puts_64 : decode cX10_puts 64 = .ok (.imul, 1) := by decide +kernel
theorem dX10_puts_65 : decode cX10_puts 65 = .ok (.iconst 1, 1) := by decide +kernel
theorem dX10_puts_66 : decode cX10_puts 66 = .ok (.iadd, 1) := by decide +kernel
theorem dX10_puts_67 : decode cX10_puts 67 = .ok (.iastore, 1) := by decide +kernel
theorem dX10_puts_68 : decode cX10_puts 68 = .ok (.aload_n 0, 1) := by decide +kernel
theorem dX10_puts_69 : decode cX10_puts 69 = .ok (.dup, 1) := by decide +kernel
theorem dX10_puts_70 : decode cX10_puts 70 = .ok (.getfield 144, 3) := by decide +kernel
theorem dX10_puts_73 : decode cX10_puts 73 = .ok (.iconst 1, 1) := by decide +kernel
theorem dX10_puts_74 : decode cX10_puts 74 = .ok (.iadd, 1) := by decide +kernel
theorem dX10_puts_75 : decode cX10_puts 75 = .ok (.putfield 144, 3) := by decide +kernel
theorem dX10_puts_78 : decode cX10_puts 78 = .ok (.iload 5, 2) := by decide +kernel
theorem dX10_puts_80 : decode cX10_puts 80 = .ok (.aload_n 0, 1) := by decide +kernel
theorem dX10_puts_81 : decode cX10_puts 81 = .ok (.getfield 40, 3) := by decide +kernel
theorem dX10_puts_84 : decode cX10_puts 84 = .ok (.iload_n 1, 1) := by decide +kernel
theorem dX10_puts_85 : decode cX10_puts 85 = .ok (.iaload, 1) := by decide +kernel
theorem dX10_puts_86 : decode cX10_puts 86 = .ok (.if_icmp .ge 34, 3) := by decide +kernel
theorem dX10_puts_89 : decode cX10_puts 89 = .ok (.aload_n 0, 1) := by decide +kernel
theorem dX10_puts_90 : decode cX10_puts 90 = .ok (.getfield 102, 3) := by decide +kernel
theorem dX10_puts_93 : decode cX10_puts 93 = .ok (.aload_n 0, 1) := by decide +kernel
theorem dX10_puts_94 : decode cX10_puts 94 = .ok (.getfield 144, 3) := by decide +kernel
theorem dX10_puts_97 : decode cX10_puts 97 = .ok (.aload_n 0, 1) := by decide +kernel
theorem dX10_puts_98 : decode cX10_puts 98 = .ok (.getfield 43, 3) := by decide +kernel
theorem dX10_puts_101 : decode cX10_puts 101 = .ok (.bipush 8, 2) := by decide +kernel
theorem dX10_puts_103 : decode cX10_puts 103 = .ok (.iload_n 1, 1) := by decide +kernel
theorem dX10_puts_104 : decode cX10_puts 104 = .ok (.imul, 1) := by decide +kernel
theorem dX10_puts_105 : decode cX10_puts 105 = .ok (.iload 5, 2) := by decide +kernel
theorem dX10_puts_107 : decode cX10_puts 107 = .ok (.iadd, 1) := by decide +kernel
theorem dX10_puts_108 : decode cX10_puts 108 = .ok (.iaload, 1) := by decide +kernel
theorem dX10_puts_109 : decode cX10_puts 109 = .ok (.iastore, 1) := by decide +kernel
theorem dX10_puts_110 : decode cX10_puts 110 = .ok (.aload_n 0, 1) := by decide +kernel
theorem dX10_puts_111 : decode cX10_puts 111 = .ok (.dup, 1) := by decide +kernel
theorem dX10_puts_112 : decode cX10_puts 112 = .ok (.getfield 144, 3) := by decide +kernel
theorem dX10_puts_115 : decode cX10_puts 115 = .ok (.iconst 1, 1) := by decide +kernel
theorem dX10_puts_116 : decode cX10_puts 116 = .ok (.iadd, 1) := by decide +kernel
theorem dX10_puts_117 : decode cX10_puts 117 = .ok (.putfield 144, 3) := by decide +kernel
theorem dX10_puts_120 : decode cX10_puts 120 = .ok (.iinc 5 1, 3) := by decide +kernel
theorem dX10_puts_123 : decode cX10_puts 123 = .ok (.goto (-115), 3) := by decide +kernel
theorem dX10_puts_126 : decode cX10_puts 126 = .ok (.return_, 1) := by decide +kernel
theorem dX10_plans_0 : decode cX10_plans 0 = .ok (.aload_n 0, 1) := by decide +kernel
theorem dX10_plans_1 : decode cX10_plans 1 = .ok (.iconst (-1), 1) := by decide +kernel
theorem dX10_plans_2 : decode cX10_plans 2 = .ok (.putfield 173, 3) := by decide +kernel
theorem dX10_plans_5 : decode cX10_plans 5 = .ok (.aload_n 0, 1) := by decide +kernel
theorem dX10_plans_6 : decode cX10_plans 6 = .ok (.iconst 1, 1) := by decide +kernel
theorem dX10_plans_7 : decode cX10_plans 7 = .ok (.putfield 176, 3) := by decide +kernel
theorem dX10_plans_10 : decode cX10_plans 10 = .ok (.iconst 0, 1) := by decide +kernel
theorem dX10_plans_11 : decode cX10_plans 11 = .ok (.istore_n 2, 1) := by decide +kernel
theorem dX10_plans_12 : decode cX10_plans 12 = .ok (.iload_n 2, 1) := by decide +kernel
theorem dX10_plans_13 : decode cX10_plans 13 = .ok (.aload_n 0, 1) := by decide +kernel
theorem dX10_plans_14 : decode cX10_plans 14 = .ok (.getfield 117, 3) := by decide +kernel
theorem dX10_plans_17 : decode cX10_plans 17 = .ok (.if_icmp .ge 142, 3) := by decide +kernel
theorem dX10_plans_20 : decode cX10_plans 20 = .ok (.aload_n 0, 1) := by decide +kernel
theorem dX10_plans_21 : decode cX10_plans 21 = .ok (.iload_n 2, 1) := by decide +kernel
theorem dX10_plans_22 : decode cX10_plans 22 = .ok (.invokevirtual 179, 3) := by decide +kernel
theorem dX10_plans_25 : decode cX10_plans 25 = .ok (.istore_n 3, 1) := by decide +kernel
theorem dX10_plans_26 : decode cX10_plans 26 = .ok (.iconst 0, 1) := by decide +kernel
theorem dX10_plans_27 : decode cX10_plans 27 = .ok (.istore 4, 2) := by decide +kernel
theorem dX10_plans_29 : decode cX10_plans 29 = .ok (.iload 4, 2) := by decide +kernel
theorem dX10_plans_31 : decode cX10_plans 31 = .ok (.aload_n 0, 1) := by decide +kernel
theorem dX10_plans_32 : decode cX10_plans 32 = .ok (.getfield 40, 3) := by decide +kernel
theorem dX10_plans_35 : decode cX10_plans 35 = .ok (.iload_n 2, 1) := by decide +kernel
theorem dX10_plans_36 : decode cX10_plans 36 = .ok (.iaload, 1) := by decide +kernel
theorem dX10_plans_37 : decode cX10_plans 37 = .ok (.if_icmp .gt 116, 3) := by decide +kernel
theorem dX10_plans_40 : decode cX10_plans 40 = .ok (.iload 4, 2) := by decide +kernel
theorem dX10_plans_42 : decode cX10_plans 42 = .ok (.istore 5, 2) := by decide +kernel
theorem dX10_plans_44 : decode cX10_plans 44 = .ok (.iload 5, 2) := by decide +kernel
theorem dX10_plans_46 : decode cX10_plans 46 = .ok (.aload_n 0, 1) := by decide +kernel
theorem dX10_plans_47 : decode cX10_plans 47 = .ok (.getfield 40, 3) := by decide +kernel
theorem dX10_plans_50 : decode cX10_plans 50 = .ok (.iload_n 2, 1) := by decide +kernel
theorem dX10_plans_51 : decode cX10_plans 51 = .ok (.iaload, 1) := by decide +kernel
theorem dX10_plans_52 : decode cX10_plans 52 = .ok (.if_icmp .gt 95, 3) := by decide +kernel
theorem dX10_plans_55 : decode cX10_plans 55 = .ok (.aload_n 0, 1) := by decide +kernel
theorem dX10_plans_56 : decode cX10_plans 56 = .ok (.iload_n 2, 1) := by decide +kernel
theorem dX10_plans_57 : decode cX10_plans 57 = .ok (.iload_n 1, 1) := by decide +kernel
theorem dX10_plans_58 : decode cX10_plans 58 = .ok (.iload 4, 2) := by decide +kernel
theorem dX10_plans_60 : decode cX10_plans 60 = .ok (.iload 5, 2) := by decide +kernel
theorem dX10_plans_62 : decode cX10_plans 62 = .ok (.invokevirtual 182, 3) := by decide +kernel
theorem dX10_plans_65 : decode cX10_plans 65 = .ok (.aload_n 0, 1) := by decide +kernel
theorem dX10_plans_66 : decode cX10_plans 66 = .ok (.iload_n 2, 1) := by decide +kernel
theorem dX10_plans_67 : decode cX10_plans 67 = .ok (.invokevirtual 186, 3) := by decide +kernel
theorem dX10_plans_70 : decode cX10_plans 70 = .ok (.istore 6, 2) := by decide +kernel
theorem dX10_plans_72 : decode cX10_plans 72 = .ok (.aload_n 0, 1) := by decide +kernel
theorem dX10_plans_73 : decode cX10_plans 73 = .ok (.aload_n 0, 1) := by decide +kernel
theorem dX10_plans_74 : decode cX10_plans 74 = .ok (.getfield 176, 3) := by decide +kernel
theorem dX10_plans_77 : decode cX10_plans 77 = .ok (.iload 6, 2) := by decide +kernel
theorem dX10_plans_79 : decode cX10_plans 79 = .ok (.invokestatic 189, 3) := by decide +kernel
theorem dX10_plans_82 : decode cX10_plans 82 = .ok (.putfield 176, 3) := by decide +kernel
theorem dX10_plans_85 : decode cX10_plans 85 = .ok (.aload_n 0, 1) := by decide +kernel
theorem dX10_plans_86 : decode cX10_plans 86 = .ok (.iload_n 2, 1) := by decide +kernel
theorem dX10_plans_87 : decode cX10_plans 87 = .ok (.invokevirtual 160, 3) := by decide +kernel
theorem dX10_plans_90 : decode cX10_plans 90 = .ok (.iload_n 3, 1) := by decide +kernel
theorem dX10_plans_91 : decode cX10_plans 91 = .ok (.isub, 1) := by decide +kernel
theorem dX10_plans_92 : decode cX10_plans 92 = .ok (.istore 7, 2) := by decide +kernel
theorem dX10_plans_94 : decode cX10_plans 94 = .ok (.iload 6, 2) := by decide +kernel
theorem dX10_plans_96 : decode cX10_plans 96 = .ok (.ifCond .gt 45, 3) := by decide +kernel
theorem dX10_plans_99 : decode cX10_plans 99 = .ok (.aload_n 0, 1) := by decide +kernel
theorem dX10_plans_100 : decode cX10_plans 100 = .ok (.getfield 173, 3) := by decide +kernel
theorem dX10_plans_103 : decode cX10_plans 103 = .ok (.ifCond .lt 15, 3) := by decide +kernel
theorem dX10_plans_106 : decode cX10_plans 106 = .ok (.iload 7, 2) := by decide +kernel
theorem dX10_plans_108 : decode cX10_plans 108 = .ok (.aload_n 0, 1) := by decide +kernel
theorem dX10_plans_109 : decode cX10_plans 109 = .ok (.getfield 193, 3) := by decide +kernel
theorem dX10_plans_112 : decode cX10_plans 112 = .ok (.if_icmp .lt 6, 3) := by decide +kernel
theorem dX10_plans_115 : decode cX10_plans 115 = .ok (.goto 26, 3) := by decide +kernel
theorem dX10_plans_118 : decode cX10_plans 118 = .ok (.aload_n 0, 1) := by decide +kernel
theorem dX10_plans_119 : decode cX10_plans 119 = .ok (.iload_n 2, 1) := by decide +kernel
theorem dX10_plans_120 : decode cX10_plans 120 = .ok (.putfield 173, 3) := by decide +kernel
theorem dX10_plans_123 : decode cX10_plans 123 = .ok (.aload_n 0, 1) := by decide +kernel
theorem dX10_plans_124 : decode cX10_plans 124 = .ok (.iload 4, 2) := by decide +kernel
theorem dX10_plans_126 : decode cX10_plans 126 = .ok (.putfield 196, 3) := by decide +kernel
theorem dX10_plans_129 : decode cX10_plans 129 = .ok (.aload_n 0, 1) := by decide +kernel
theorem dX10_plans_130 : decode cX10_plans 130 = .ok (.iload 5, 2) := by decide +kernel
theorem dX10_plans_132 : decode cX10_plans 132 = .ok (.putfield 199, 3) := by decide +kernel
theorem dX10_plans_135 : decode cX10_plans 135 = .ok (.aload_n 0, 1) := by decide +kernel
theorem dX10_plans_136 : decode cX10_plans 136 = .ok (.iload 7, 2) := by decide +kernel
theorem dX10_plans_138 : decode cX10_plans 138 = .ok (.putfield 193, 3) := by decide +kernel
theorem dX10_plans_141 : decode cX10_plans 141 = .ok (.iinc 5 1, 3) := by decide +kernel
theorem dX10_plans_144 : decode cX10_plans 144 = .ok (.goto (-100), 3) := by decide +kernel
theorem dX10_plans_147 : decode cX10_plans 147 = .ok (.iinc 4 1, 3) := by decide +kernel
theorem dX10_plans_150 : decode cX10_plans 150 = .ok (.goto (-121), 3) := by decide +kernel
theorem dX10_plans_153 : decode cX10_plans 153 = .ok (.iinc 2 1, 3) := by decide +kernel
theorem dX10_plans_156 : decode cX10_plans 156 = .ok (.goto (-144), 3) := by decide +kernel
theorem dX10_plans_159 : decode cX10_plans 159 = .ok (.return_, 1) := by decide +kernel
theorem dX10_writes_0 : decode cX10_writes 0 = .ok (.aload_n 0, 1) := by decide +kernel
theorem dX10_writes_1 : decode cX10_writes 1 = .ok (.getfield 46, 3) := by decide +kernel
theorem dX10_writes_4 : decode cX10_writes 4 = .ok (.iload_n 1, 1) := by decide +kernel
theorem dX10_writes_5 : decode cX10_writes 5 = .ok (.iload_n 2, 1) := by decide +kernel
theorem dX10_writes_6 : decode cX10_writes 6 = .ok (.iastore, 1) := by decide +kernel
theorem dX10_writes_7 : decode cX10_writes 7 = .ok (.aload_n 0, 1) := by decide +kernel
theorem dX10_writes_8 : decode cX10_writes 8 = .ok (.getfield 49, 3) := by decide +kernel
theorem dX10_writes_11 : decode cX10_writes 11 = .ok (.iload_n 1, 1) := by decide +kernel
theorem dX10_writes_12 : decode cX10_writes 12 = .ok (.iload_n 3, 1) := by decide +kernel
theorem dX10_writes_13 : decode cX10_writes 13 = .ok (.iastore, 1) := by decide +kernel
theorem dX10_writes_14 : decode cX10_writes 14 = .ok (.aload_n 0, 1) := by decide +kernel
theorem dX10_writes_15 : decode cX10_writes 15 = .ok (.getfield 52, 3) := by decide +kernel
theorem dX10_writes_18 : decode cX10_writes 18 = .ok (.iload_n 1, 1) := by decide +kernel
theorem dX10_writes_19 : decode cX10_writes 19 = .ok (.iload 4, 2) := by decide +kernel
theorem dX10_writes_21 : decode cX10_writes 21 = .ok (.iastore, 1) := by decide +kernel
theorem dX10_writes_22 : decode cX10_writes 22 = .ok (.aload_n 0, 1) := by decide +kernel
theorem dX10_writes_23 : decode cX10_writes 23 = .ok (.getfield 55, 3) := by decide +kernel
theorem dX10_writes_26 : decode cX10_writes 26 = .ok (.iload_n 1, 1) := by decide +kernel
theorem dX10_writes_27 : decode cX10_writes 27 = .ok (.iload 5, 2) := by decide +kernel
theorem dX10_writes_29 : decode cX10_writes 29 = .ok (.iastore, 1) := by decide +kernel
theorem dX10_writes_30 : decode cX10_writes 30 = .ok (.aload_n 0, 1) := by decide +kernel
theorem dX10_writes_31 : decode cX10_writes 31 = .ok (.getfield 58, 3) := by decide +kernel
theorem dX10_writes_34 : decode cX10_writes 34 = .ok (.iload_n 1, 1) := by decide +kernel
theorem dX10_writes_35 : decode cX10_writes 35 = .ok (.iload 6, 2) := by decide +kernel
theorem dX10_writes_37 : decode cX10_writes 37 = .ok (.iastore, 1) := by decide +kernel
theorem dX10_writes_38 : decode cX10_writes 38 = .ok (.aload_n 0, 1) := by decide +kernel
theorem dX10_writes_39 : decode cX10_writes 39 = .ok (.getfield 61, 3) := by decide +kernel
theorem dX10_writes_42 : decode cX10_writes 42 = .ok (.iload_n 1, 1) := by decide +kernel
theorem dX10_writes_43 : decode cX10_writes 43 = .ok (.aload_n 0, 1) := by decide +kernel
theorem dX10_writes_44 : decode cX10_writes 44 = .ok (.getfield 157, 3) := by decide +kernel
theorem dX10_writes_47 : decode cX10_writes 47 = .ok (.aload_n 0, 1) := by decide +kernel
theorem dX10_writes_48 : decode cX10_writes 48 = .ok (.getfield 99, 3) := by decide +kernel
theorem dX10_writes_51 : decode cX10_writes 51 = .ok (.iadd, 1) := by decide +kernel
theorem dX10_writes_52 : decode cX10_writes 52 = .ok (.iastore, 1) := by decide +kernel
theorem dX10_writes_53 : decode cX10_writes 53 = .ok (.aload_n 0, 1) := by decide +kernel
theorem dX10_writes_54 : decode cX10_writes 54 = .ok (.getfield 64, 3) := by decide +kernel
theorem dX10_writes_57 : decode cX10_writes 57 = .ok (.iload_n 1, 1) := by decide +kernel
theorem dX10_writes_58 : decode cX10_writes 58 = .ok (.iload_n 2, 1) := by decide +kernel
theorem dX10_writes_59 : decode cX10_writes 59 = .ok (.iload_n 3, 1) := by decide +kernel
theorem dX10_writes_60 : decode cX10_writes 60 = .ok (.iload 4, 2) := by decide +kernel
theorem dX10_writes_62 : decode cX10_writes 62 = .ok (.iload 5, 2) := by decide +kernel
theorem dX10_writes_64 : decode cX10_writes 64 = .ok (.invokestatic 153, 3) := by decide +kernel
theorem dX10_writes_67 : decode cX10_writes 67 = .ok (.bipush 100, 2) := by decide +kernel
theorem dX10_writes_69 : decode cX10_writes 69 = .ok (.aload_n 0, 1) := by decide +kernel
theorem dX10_writes_70 : decode cX10_writes 70 = .ok (.getfield 95, 3) := by decide +kernel
theorem dX10_writes_73 : decode cX10_writes 73 = .ok (.iadd, 1) := by decide +kernel
theorem dX10_writes_74 : decode cX10_writes 74 = .ok (.imul, 1) := by decide +kernel
theorem dX10_writes_75 : decode cX10_writes 75 = .ok (.bipush 100, 2) := by decide +kernel
theorem dX10_writes_77 : decode cX10_writes 77 = .ok (.idiv, 1) := by decide +kernel
theorem dX10_writes_78 : decode cX10_writes 78 = .ok (.iastore, 1) := by decide +kernel
theorem dX10_writes_79 : decode cX10_writes 79 = .ok (.return_, 1) := by decide +kernel
theorem dX10_takes_0 : decode cX10_takes 0 = .ok (.aload_n 0, 1) := by decide +kernel
theorem dX10_takes_1 : decode cX10_takes 1 = .ok (.getfield 40, 3) := by decide +kernel
theorem dX10_takes_4 : decode cX10_takes 4 = .ok (.iload_n 1, 1) := by decide +kernel
theorem dX10_takes_5 : decode cX10_takes 5 = .ok (.aload_n 0, 1) := by decide +kernel
theorem dX10_takes_6 : decode cX10_takes 6 = .ok (.getfield 144, 3) := by decide +kernel
theorem dX10_takes_9 : decode cX10_takes 9 = .ok (.iastore, 1) := by decide +kernel
theorem dX10_takes_10 : decode cX10_takes 10 = .ok (.iconst 0, 1) := by decide +kernel
theorem dX10_takes_11 : decode cX10_takes 11 = .ok (.istore_n 2, 1) := by decide +kernel
theorem dX10_takes_12 : decode cX10_takes 12 = .ok (.iload_n 2, 1) := by decide +kernel
theorem dX10_takes_13 : decode cX10_takes 13 = .ok (.aload_n 0, 1) := by decide +kernel
theorem dX10_takes_14 : decode cX10_takes 14 = .ok (.getfield 144, 3) := by decide +kernel
theorem dX10_takes_17 : decode cX10_takes 17 = .ok (.if_icmp .ge 26, 3) := by decide +kernel
theorem dX10_takes_20 : decode cX10_takes 20 = .ok (.aload_n 0, 1) := by decide +kernel
theorem dX10_takes_21 : decode cX10_takes 21 = .ok (.getfield 43, 3) := by decide +kernel
theorem dX10_takes_24 : decode cX10_takes 24 = .ok (.bipush 8, 2) := by decide +kernel
theorem dX10_takes_26 : decode cX10_takes 26 = .ok (.iload_n 1, 1) := by decide +kernel
theorem dX10_takes_27 : decode cX10_takes 27 = .ok (.imul, 1) := by decide +kernel
theorem dX10_takes_28 : decode cX10_takes 28 = .ok (.iload_n 2, 1) := by decide +kernel
theorem dX10_takes_29 : decode cX10_takes 29 = .ok (.iadd, 1) := by decide +kernel
theorem dX10_takes_30 : decode cX10_takes 30 = .ok (.aload_n 0, 1) := by decide +kernel
theorem dX10_takes_31 : decode cX10_takes 31 = .ok (.getfield 102, 3) := by decide +kernel
theorem dX10_takes_34 : decode cX10_takes 34 = .ok (.iload_n 2, 1) := by decide +kernel
theorem dX10_takes_35 : decode cX10_takes 35 = .ok (.iaload, 1) := by decide +kernel
theorem dX10_takes_36 : decode cX10_takes 36 = .ok (.iastore, 1) := by decide +kernel
theorem dX10_takes_37 : decode cX10_takes 37 = .ok (.iinc 2 1, 3) := by decide +kernel
theorem dX10_takes_40 : decode cX10_takes 40 = .ok (.goto (-28), 3) := by decide +kernel
theorem dX10_takes_43 : decode cX10_takes 43 = .ok (.return_, 1) := by decide +kernel
theorem dX10_stopsAt_0 : decode cX10_stopsAt 0 = .ok (.iconst 0, 1) := by decide +kernel
theorem dX10_stopsAt_1 : decode cX10_stopsAt 1 = .ok (.istore_n 2, 1) := by decide +kernel
theorem dX10_stopsAt_2 : decode cX10_stopsAt 2 = .ok (.aload_n 0, 1) := by decide +kernel
theorem dX10_stopsAt_3 : decode cX10_stopsAt 3 = .ok (.getfield 40, 3) := by decide +kernel
theorem dX10_stopsAt_6 : decode cX10_stopsAt 6 = .ok (.iload_n 1, 1) := by decide +kernel
theorem dX10_stopsAt_7 : decode cX10_stopsAt 7 = .ok (.iaload, 1) := by decide +kernel
theorem dX10_stopsAt_8 : decode cX10_stopsAt 8 = .ok (.ifCond .le 236, 3) := by decide +kernel
theorem dX10_stopsAt_11 : decode cX10_stopsAt 11 = .ok (.aload_n 0, 1) := by decide +kernel
theorem dX10_stopsAt_12 : decode cX10_stopsAt 12 = .ok (.aload_n 0, 1) := by decide +kernel
theorem dX10_stopsAt_13 : decode cX10_stopsAt 13 = .ok (.getfield 43, 3) := by decide +kernel
theorem dX10_stopsAt_16 : decode cX10_stopsAt 16 = .ok (.bipush 8, 2) := by decide +kernel
theorem dX10_stopsAt_18 : decode cX10_stopsAt 18 = .ok (.iload_n 1, 1) := by decide +kernel
theorem dX10_stopsAt_19 : decode cX10_stopsAt 19 = .ok (.imul, 1) := by decide +kernel
theorem dX10_stopsAt_20 : decode cX10_stopsAt 20 = .ok (.iaload, 1) := by decide +kernel
theorem dX10_stopsAt_21 : decode cX10_stopsAt 21 = .ok (.invokevirtual 147, 3) := by decide +kernel
theorem dX10_stopsAt_24 : decode cX10_stopsAt 24 = .ok (.aload_n 0, 1) := by decide +kernel
theorem dX10_stopsAt_25 : decode cX10_stopsAt 25 = .ok (.getfield 19, 3) := by decide +kernel
theorem dX10_stopsAt_28 : decode cX10_stopsAt 28 = .ok (.iload_n 1, 1) := by decide +kernel
theorem dX10_stopsAt_29 : decode cX10_stopsAt 29 = .ok (.iaload, 1) := by decide +kernel
theorem dX10_stopsAt_30 : decode cX10_stopsAt 30 = .ok (.if_icmp .ne 214, 3) := by decide +kernel
theorem dX10_stopsAt_33 : decode cX10_stopsAt 33 = .ok (.aload_n 0, 1) := by decide +kernel
theorem dX10_stopsAt_34 : decode cX10_stopsAt 34 = .ok (.aload_n 0, 1) := by decide +kernel
theorem dX10_stopsAt_35 : decode cX10_stopsAt 35 = .ok (.getfield 43, 3) := by decide +kernel
theorem dX10_stopsAt_38 : decode cX10_stopsAt 38 = .ok (.bipush 8, 2) := by decide +kernel
theorem dX10_stopsAt_40 : decode cX10_stopsAt 40 = .ok (.iload_n 1, 1) := by decide +kernel
theorem dX10_stopsAt_41 : decode cX10_stopsAt 41 = .ok (.imul, 1) := by decide +kernel
theorem dX10_stopsAt_42 : decode cX10_stopsAt 42 = .ok (.iaload, 1) := by decide +kernel
theorem dX10_stopsAt_43 : decode cX10_stopsAt 43 = .ok (.invokevirtual 150, 3) := by decide +kernel
theorem dX10_stopsAt_46 : decode cX10_stopsAt 46 = .ok (.aload_n 0, 1) := by decide +kernel
theorem dX10_stopsAt_47 : decode cX10_stopsAt 47 = .ok (.getfield 22, 3) := by decide +kernel
theorem dX10_stopsAt_50 : decode cX10_stopsAt 50 = .ok (.iload_n 1, 1) := by decide +kernel
theorem dX10_stopsAt_51 : decode cX10_stopsAt 51 = .ok (.iaload, 1) := by decide +kernel
theorem dX10_stopsAt_52 : decode cX10_stopsAt 52 = .ok (.if_icmp .ne 192, 3) := by decide +kernel
theorem dX10_stopsAt_55 : decode cX10_stopsAt 55 = .ok (.aload_n 0, 1) := by decide +kernel
theorem dX10_stopsAt_56 : decode cX10_stopsAt 56 = .ok (.getfield 43, 3) := by decide +kernel
theorem dX10_stopsAt_59 : decode cX10_stopsAt 59 = .ok (.bipush 8, 2) := by decide +kernel
theorem dX10_stopsAt_61 : decode cX10_stopsAt 61 = .ok (.iload_n 1, 1) := by decide +kernel
theorem dX10_stopsAt_62 : decode cX10_stopsAt 62 = .ok (.imul, 1) := by decide +kernel
theorem dX10_stopsAt_63 : decode cX10_stopsAt 63 = .ok (.iaload, 1) := by decide +kernel
theorem dX10_stopsAt_64 : decode cX10_stopsAt 64 = .ok (.istore_n 3, 1) := by decide +kernel
theorem dX10_stopsAt_65 : decode cX10_stopsAt 65 = .ok (.iload_n 3, 1) := by decide +kernel
theorem dX10_stopsAt_66 : decode cX10_stopsAt 66 = .ok (.iconst 2, 1) := by decide +kernel
theorem dX10_stopsAt_67 : decode cX10_stopsAt 67 = .ok (.idiv, 1) := by decide +kernel
theorem dX10_stopsAt_68 : decode cX10_stopsAt 68 = .ok (.istore 4, 2) := by decide +kernel
theorem dX10_stopsAt_70 : decode cX10_stopsAt 70 = .ok (.aload_n 0, 1) := by decide +kernel
theorem dX10_stopsAt_71 : decode cX10_stopsAt 71 = .ok (.getfield 76, 3) := by decide +kernel
theorem dX10_stopsAt_74 : decode cX10_stopsAt 74 = .ok (.iload 4, 2) := by decide +kernel
theorem dX10_stopsAt_76 : decode cX10_stopsAt 76 = .ok (.iload_n 3, 1) := by decide +kernel
theorem dX10_stopsAt_77 : decode cX10_stopsAt 77 = .ok (.invokestatic 135, 3) := by decide +kernel
theorem dX10_stopsAt_80 : decode cX10_stopsAt 80 = .ok (.ifCond .eq 8, 3) := by decide +kernel
theorem dX10_stopsAt_83 : decode cX10_stopsAt 83 = .ok (.bipush 100, 2) := by decide +kernel
theorem dX10_stopsAt_85 : decode cX10_stopsAt 85 = .ok (.goto 5, 3) := by decide +kernel
theorem dX10_stopsAt_88 : decode cX10_stopsAt 88 = .ok (.bipush 114, 2) := by decide +kernel
theorem dX10_stopsAt_90 : decode cX10_stopsAt 90 = .ok (.castore, 1) := by decide +kernel
theorem dX10_stopsAt_91 : decode cX10_stopsAt 91 = .ok (.iload_n 3, 1) := by decide +kernel
theorem dX10_stopsAt_92 : decode cX10_stopsAt 92 = .ok (.invokestatic 135, 3) := by decide +kernel
theorem dX10_stopsAt_95 : decode cX10_stopsAt 95 = .ok (.ifCond .eq 17, 3) := by decide +kernel
theorem dX10_stopsAt_98 : decode cX10_stopsAt 98 = .ok (.aload_n 0, 1) := by decide +kernel
theorem dX10_stopsAt_99 : decode cX10_stopsAt 99 = .ok (.getfield 73, 3) := by decide +kernel
theorem dX10_stopsAt_102 : decode cX10_stopsAt 102 = .ok (.iload 4, 2) := by decide +kernel
theorem dX10_stopsAt_104 : decode cX10_stopsAt 104 = .ok (.aload_n 0, 1) := by decide +kernel
theorem dX10_stopsAt_105 : decode cX10_stopsAt 105 = .ok (.getfield 157, 3) := by decide +kernel
theorem dX10_stopsAt_108 : decode cX10_stopsAt 108 = .ok (.iastore, 1) := by decide +kernel
theorem dX10_stopsAt_109 : decode cX10_stopsAt 109 = .ok (.goto 14, 3) := by decide +kernel
theorem dX10_stopsAt_112 : decode cX10_stopsAt 112 = .ok (.aload_n 0, 1) := by decide +kernel
theorem dX10_stopsAt_113 : decode cX10_stopsAt 113 = .ok (.getfield 70, 3) := by decide +kernel
theorem dX10_stopsAt_116 : decode cX10_stopsAt 116 = .ok (.iload 4, 2) := by decide +kernel
theorem dX10_stopsAt_118 : decode cX10_stopsAt 118 = .ok (.aload_n 0, 1) := by decide +kernel
theorem dX10_stopsAt_119 : decode cX10_stopsAt 119 = .ok (.getfield 157, 3) := by decide +kernel
theorem dX10_stopsAt_122 : decode cX10_stopsAt 122 = .ok (.iastore, 1) := by decide +kernel
theorem dX10_stopsAt_123 : decode cX10_stopsAt 123 = .ok (.aload_n 0, 1) := by decide +kernel
theorem dX10_stopsAt_124 : decode cX10_stopsAt 124 = .ok (.getfield 83, 3) := by decide +kernel
theorem dX10_stopsAt_127 : decode cX10_stopsAt 127 = .ok (.aload_n 0, 1) := by decide +kernel
theorem dX10_stopsAt_128 : decode cX10_stopsAt 128 = .ok (.getfield 202, 3) := by decide +kernel
theorem dX10_stopsAt_131 : decode cX10_stopsAt 131 = .ok (.iload_n 1, 1) := by decide +kernel
theorem dX10_stopsAt_132 : decode cX10_stopsAt 132 = .ok (.iastore, 1) := by decide +kernel
theorem dX10_stopsAt_133 : decode cX10_stopsAt 133 = .ok (.aload_n 0, 1) := by decide +kernel
theorem dX10_stopsAt_134 : decode cX10_stopsAt 134 = .ok (.getfield 86, 3) := by decide +kernel
theorem dX10_stopsAt_137 : decode cX10_stopsAt 137 = .ok (.aload_n 0, 1) := by decide +kernel
theorem dX10_stopsAt_138 : decode cX10_stopsAt 138 = .ok (.getfield 202, 3) := by decide +kernel
theorem dX10_stopsAt_141 : decode cX10_stopsAt 141 = .ok (.iload 4, 2) := by decide +kernel
theorem dX10_stopsAt_143 : decode cX10_stopsAt 143 = .ok (.iastore, 1) := by decide +kernel
theorem dX10_stopsAt_144 : decode cX10_stopsAt 144 = .ok (.aload_n 0, 1) := by decide +kernel
theorem dX10_stopsAt_145 : decode cX10_stopsAt 145 = .ok (.getfield 89, 3) := by decide +kernel
theorem dX10_stopsAt_148 : decode cX10_stopsAt 148 = .ok (.aload_n 0, 1) := by decide +kernel
theorem dX10_stopsAt_149 : decode cX10_stopsAt 149 = .ok (.getfield 202, 3) := by decide +kernel
theorem dX10_stopsAt_152 : decode cX10_stopsAt 152 = .ok (.aload_n 0, 1) := by decide +kernel
theorem dX10_stopsAt_153 : decode cX10_stopsAt 153 = .ok (.getfield 157, 3) := by decide +kernel
theorem dX10_stopsAt_156 : decode cX10_stopsAt 156 = .ok (.iastore, 1) := by decide +kernel
theorem dX10_stopsAt_157 : decode cX10_stopsAt 157 = .ok (.aload_n 0, 1) := by decide +kernel
theorem dX10_stopsAt_158 : decode cX10_stopsAt 158 = .ok (.getfield 92, 3) := by decide +kernel
theorem dX10_stopsAt_161 : decode cX10_stopsAt 161 = .ok (.aload_n 0, 1) := by decide +kernel
theorem dX10_stopsAt_162 : decode cX10_stopsAt 162 = .ok (.getfield 202, 3) := by decide +kernel
theorem dX10_stopsAt_165 : decode cX10_stopsAt 165 = .ok (.aload_n 0, 1) := by decide +kernel
theorem dX10_stopsAt_166 : decode cX10_stopsAt 166 = .ok (.getfield 31, 3) := by decide +kernel
theorem dX10_stopsAt_169 : decode cX10_stopsAt 169 = .ok (.iload_n 1, 1) := by decide +kernel
theorem dX10_stopsAt_170 : decode cX10_stopsAt 170 = .ok (.iaload, 1) := by decide +kernel
theorem dX10_stopsAt_171 : decode cX10_stopsAt 171 = .ok (.iastore, 1) := by decide +kernel
theorem dX10_stopsAt_172 : decode cX10_stopsAt 172 = .ok (.aload_n 0, 1) := by decide +kernel
theorem dX10_stopsAt_173 : decode cX10_stopsAt 173 = .ok (.dup, 1) := by decide +kernel
theorem dX10_stopsAt_174 : decode cX10_stopsAt 174 = .ok (.getfield 202, 3) := by decide +kernel
theorem dX10_stopsAt_177 : decode cX10_stopsAt 177 = .ok (.iconst 1, 1) := by decide +kernel
theorem dX10_stopsAt_178 : decode cX10_stopsAt 178 = .ok (.iadd, 1) := by decide +kernel
theorem dX10_stopsAt_179 : decode cX10_stopsAt 179 = .ok (.putfield 202, 3) := by decide +kernel
theorem dX10_stopsAt_182 : decode cX10_stopsAt 182 = .ok (.iinc 2 1, 3) := by decide +kernel
theorem dX10_stopsAt_185 : decode cX10_stopsAt 185 = .ok (.aload_n 0, 1) := by decide +kernel
theorem dX10_stopsAt_186 : decode cX10_stopsAt 186 = .ok (.getfield 40, 3) := by decide +kernel
theorem dX10_stopsAt_189 : decode cX10_stopsAt 189 = .ok (.iload_n 1, 1) := by decide +kernel
theorem dX10_stopsAt_190 : decode cX10_stopsAt 190 = .ok (.dup2, 1) := by decide +kernel
theorem dX10_stopsAt_191 : decode cX10_stopsAt 191 = .ok (.iaload, 1) := by decide +kernel
theorem dX10_stopsAt_192 : decode cX10_stopsAt 192 = .ok (.iconst 1, 1) := by decide +kernel
theorem dX10_stopsAt_193 : decode cX10_stopsAt 193 = .ok (.isub, 1) := by decide +kernel
theorem dX10_stopsAt_194 : decode cX10_stopsAt 194 = .ok (.iastore, 1) := by decide +kernel
theorem dX10_stopsAt_195 : decode cX10_stopsAt 195 = .ok (.iconst 0, 1) := by decide +kernel
theorem dX10_stopsAt_196 : decode cX10_stopsAt 196 = .ok (.istore 5, 2) := by decide +kernel
theorem dX10_stopsAt_198 : decode cX10_stopsAt 198 = .ok (.iload 5, 2) := by decide +kernel
theorem dX10_stopsAt_200 : decode cX10_stopsAt 200 = .ok (.aload_n 0, 1) := by decide +kernel
theorem dX10_stopsAt_201 : decode cX10_stopsAt 201 = .ok (.getfield 40, 3) := by decide +kernel
theorem dX10_stopsAt_204 : decode cX10_stopsAt 204 = .ok (.iload_n 1, 1) := by decide +kernel
theorem dX10_stopsAt_205 : decode cX10_stopsAt 205 = .ok (.iaload, 1) := by decide +kernel
theorem dX10_stopsAt_206 : decode cX10_stopsAt 206 = .ok (.if_icmp .ge 35, 3) := by decide +kernel
theorem dX10_stopsAt_209 : decode cX10_stopsAt 209 = .ok (.aload_n 0, 1) := by decide +kernel
theorem dX10_stopsAt_210 : decode cX10_stopsAt 210 = .ok (.getfield 43, 3) := by decide +kernel
theorem dX10_stopsAt_213 : decode cX10_stopsAt 213 = .ok (.bipush 8, 2) := by decide +kernel
theorem dX10_stopsAt_215 : decode cX10_stopsAt 215 = .ok (.iload_n 1, 1) := by decide +kernel
theorem dX10_stopsAt_216 : decode cX10_stopsAt 216 = .ok (.imul, 1) := by decide +kernel
theorem dX10_stopsAt_217 : decode cX10_stopsAt 217 = .ok (.iload 5, 2) := by decide +kernel
theorem dX10_stopsAt_219 : decode cX10_stopsAt 219 = .ok (.iadd, 1) := by decide +kernel
theorem dX10_stopsAt_220 : decode cX10_stopsAt 220 = .ok (.aload_n 0, 1) := by decide +kernel
theorem dX10_stopsAt_221 : decode cX10_stopsAt 221 = .ok (.getfield 43, 3) := by decide +kernel
theorem dX10_stopsAt_224 : decode cX10_stopsAt 224 = .ok (.bipush 8, 2) := by decide +kernel
theorem dX10_stopsAt_226 : decode cX10_stopsAt 226 = .ok (.iload_n 1, 1) := by decide +kernel
theorem dX10_stopsAt_227 : decode cX10_stopsAt 227 = .ok (.imul, 1) := by decide +kernel
theorem dX10_stopsAt_228 : decode cX10_stopsAt 228 = .ok (.iload 5, 2) := by decide +kernel
theorem dX10_stopsAt_230 : decode cX10_stopsAt 230 = .ok (.iadd, 1) := by decide +kernel
theorem dX10_stopsAt_231 : decode cX10_stopsAt 231 = .ok (.iconst 1, 1) := by decide +kernel
theorem dX10_stopsAt_232 : decode cX10_stopsAt 232 = .ok (.iadd, 1) := by decide +kernel
theorem dX10_stopsAt_233 : decode cX10_stopsAt 233 = .ok (.iaload, 1) := by decide +kernel
theorem dX10_stopsAt_234 : decode cX10_stopsAt 234 = .ok (.iastore, 1) := by decide +kernel
theorem dX10_stopsAt_235 : decode cX10_stopsAt 235 = .ok (.iinc 5 1, 3) := by decide +kernel
theorem dX10_stopsAt_238 : decode cX10_stopsAt 238 = .ok (.goto (-40), 3) := by decide +kernel
theorem dX10_stopsAt_241 : decode cX10_stopsAt 241 = .ok (.goto (-239), 3) := by decide +kernel
theorem dX10_stopsAt_244 : decode cX10_stopsAt 244 = .ok (.iload_n 2, 1) := by decide +kernel
theorem dX10_stopsAt_245 : decode cX10_stopsAt 245 = .ok (.ireturn, 1) := by decide +kernel
theorem dX10_wrong_0 : decode cX10_wrong 0 = .ok (.iload_n 1, 1) := by decide +kernel
theorem dX10_wrong_1 : decode cX10_wrong 1 = .ok (.iload_n 2, 1) := by decide +kernel
theorem dX10_wrong_2 : decode cX10_wrong 2 = .ok (.invokestatic 131, 3) := by decide +kernel
theorem dX10_wrong_5 : decode cX10_wrong 5 = .ok (.ifCond .eq 23, 3) := by decide +kernel
theorem dX10_wrong_8 : decode cX10_wrong 8 = .ok (.iload_n 3, 1) := by decide +kernel
theorem dX10_wrong_9 : decode cX10_wrong 9 = .ok (.iload 4, 2) := by decide +kernel
theorem dX10_wrong_11 : decode cX10_wrong 11 = .ok (.invokestatic 131, 3) := by decide +kernel
theorem dX10_wrong_14 : decode cX10_wrong 14 = .ok (.ifCond .eq 14, 3) := by decide +kernel
theorem dX10_wrong_17 : decode cX10_wrong 17 = .ok (.iload 5, 2) := by decide +kernel
theorem dX10_wrong_19 : decode cX10_wrong 19 = .ok (.iconst 1, 1) := by decide +kernel
theorem dX10_wrong_20 : decode cX10_wrong 20 = .ok (.bipush 6, 2) := by decide +kernel
theorem dX10_wrong_22 : decode cX10_wrong 22 = .ok (.invokestatic 120, 3) := by decide +kernel
theorem dX10_wrong_25 : decode cX10_wrong 25 = .ok (.ifCond .ne 5, 3) := by decide +kernel
theorem dX10_wrong_28 : decode cX10_wrong 28 = .ok (.iconst 1, 1) := by decide +kernel
theorem dX10_wrong_29 : decode cX10_wrong 29 = .ok (.ireturn, 1) := by decide +kernel
theorem dX10_wrong_30 : decode cX10_wrong 30 = .ok (.iload_n 1, 1) := by decide +kernel
theorem dX10_wrong_31 : decode cX10_wrong 31 = .ok (.iload_n 3, 1) := by decide +kernel
theorem dX10_wrong_32 : decode cX10_wrong 32 = .ok (.if_icmp .ne 13, 3) := by decide +kernel
theorem dX10_wrong_35 : decode cX10_wrong 35 = .ok (.iload_n 2, 1) := by decide +kernel
theorem dX10_wrong_36 : decode cX10_wrong 36 = .ok (.iload 4, 2) := by decide +kernel
theorem dX10_wrong_38 : decode cX10_wrong 38 = .ok (.if_icmp .ne 7, 3) := by decide +kernel
theorem dX10_wrong_41 : decode cX10_wrong 41 = .ok (.iconst 2, 1) := by decide +kernel
theorem dX10_wrong_42 : decode cX10_wrong 42 = .ok (.goto 4, 3) := by decide +kernel
theorem dX10_wrong_45 : decode cX10_wrong 45 = .ok (.iconst 0, 1) := by decide +kernel
theorem dX10_wrong_46 : decode cX10_wrong 46 = .ok (.ireturn, 1) := by decide +kernel
theorem dX10_request_0 : decode cX10_request 0 = .ok (.aload_n 0, 1) := by decide +kernel
theorem dX10_request_1 : decode cX10_request 1 = .ok (.aload_n 0, 1) := by decide +kernel
theorem dX10_request_2 : decode cX10_request 2 = .ok (.iload_n 1, 1) := by decide +kernel
theorem dX10_request_3 : decode cX10_request 3 = .ok (.iload_n 2, 1) := by decide +kernel
theorem dX10_request_4 : decode cX10_request 4 = .ok (.iload_n 3, 1) := by decide +kernel
theorem dX10_request_5 : decode cX10_request 5 = .ok (.iload 4, 2) := by decide +kernel
theorem dX10_request_7 : decode cX10_request 7 = .ok (.iload 5, 2) := by decide +kernel
theorem dX10_request_9 : decode cX10_request 9 = .ok (.invokevirtual 205, 3) := by decide +kernel
theorem dX10_request_12 : decode cX10_request 12 = .ok (.putfield 114, 3) := by decide +kernel
theorem dX10_request_15 : decode cX10_request 15 = .ok (.aload_n 0, 1) := by decide +kernel
theorem dX10_request_16 : decode cX10_request 16 = .ok (.getfield 114, 3) := by decide +kernel
theorem dX10_request_19 : decode cX10_request 19 = .ok (.ifCond .le 5, 3) := by decide +kernel
theorem dX10_request_22 : decode cX10_request 22 = .ok (.iconst 0, 1) := by decide +kernel
theorem dX10_request_23 : decode cX10_request 23 = .ok (.ireturn, 1) := by decide +kernel
theorem dX10_request_24 : decode cX10_request 24 = .ok (.aload_n 0, 1) := by decide +kernel
theorem dX10_request_25 : decode cX10_request 25 = .ok (.getfield 124, 3) := by decide +kernel
theorem dX10_request_28 : decode cX10_request 28 = .ok (.bipush 30, 2) := by decide +kernel
theorem dX10_request_30 : decode cX10_request 30 = .ok (.if_icmp .ne 9, 3) := by decide +kernel
theorem dX10_request_33 : decode cX10_request 33 = .ok (.aload_n 0, 1) := by decide +kernel
theorem dX10_request_34 : decode cX10_request 34 = .ok (.iconst 3, 1) := by decide +kernel
theorem dX10_request_35 : decode cX10_request 35 = .ok (.invokevirtual 127, 3) := by decide +kernel
theorem dX10_request_38 : decode cX10_request 38 = .ok (.ireturn, 1) := by decide +kernel
theorem dX10_request_39 : decode cX10_request 39 = .ok (.aload_n 0, 1) := by decide +kernel
theorem dX10_request_40 : decode cX10_request 40 = .ok (.getfield 124, 3) := by decide +kernel
theorem dX10_request_43 : decode cX10_request 43 = .ok (.istore 6, 2) := by decide +kernel
theorem dX10_request_45 : decode cX10_request 45 = .ok (.aload_n 0, 1) := by decide +kernel
theorem dX10_request_46 : decode cX10_request 46 = .ok (.iload 6, 2) := by decide +kernel
theorem dX10_request_48 : decode cX10_request 48 = .ok (.iload_n 1, 1) := by decide +kernel
theorem dX10_request_49 : decode cX10_request 49 = .ok (.iload_n 2, 1) := by decide +kernel
theorem dX10_request_50 : decode cX10_request 50 = .ok (.iload_n 3, 1) := by decide +kernel
theorem dX10_request_51 : decode cX10_request 51 = .ok (.iload 4, 2) := by decide +kernel
theorem dX10_request_53 : decode cX10_request 53 = .ok (.iload 5, 2) := by decide +kernel
theorem dX10_request_55 : decode cX10_request 55 = .ok (.invokevirtual 209, 3) := by decide +kernel
theorem dX10_request_58 : decode cX10_request 58 = .ok (.aload_n 0, 1) := by decide +kernel
theorem dX10_request_59 : decode cX10_request 59 = .ok (.iload 6, 2) := by decide +kernel
theorem dX10_request_61 : decode cX10_request 61 = .ok (.invokevirtual 213, 3) := by decide +kernel
theorem dX10_request_64 : decode cX10_request 64 = .ok (.aload_n 0, 1) := by decide +kernel
theorem dX10_request_65 : decode cX10_request 65 = .ok (.dup, 1) := by decide +kernel
theorem dX10_request_66 : decode cX10_request 66 = .ok (.getfield 124, 3) := by decide +kernel
theorem dX10_request_69 : decode cX10_request 69 = .ok (.iconst 1, 1) := by decide +kernel
theorem dX10_request_70 : decode cX10_request 70 = .ok (.iadd, 1) := by decide +kernel
theorem dX10_request_71 : decode cX10_request 71 = .ok (.putfield 124, 3) := by decide +kernel
theorem dX10_request_74 : decode cX10_request 74 = .ok (.aload_n 0, 1) := by decide +kernel
theorem dX10_request_75 : decode cX10_request 75 = .ok (.getfield 173, 3) := by decide +kernel
theorem dX10_request_78 : decode cX10_request 78 = .ok (.ifCond .ge 63, 3) := by decide +kernel
theorem dX10_request_81 : decode cX10_request 81 = .ok (.aload_n 0, 1) := by decide +kernel
theorem dX10_request_82 : decode cX10_request 82 = .ok (.getfield 76, 3) := by decide +kernel
theorem dX10_request_85 : decode cX10_request 85 = .ok (.iload 6, 2) := by decide +kernel
theorem dX10_request_87 : decode cX10_request 87 = .ok (.bipush 120, 2) := by decide +kernel
theorem dX10_request_89 : decode cX10_request 89 = .ok (.castore, 1) := by decide +kernel
theorem dX10_request_90 : decode cX10_request 90 = .ok (.aload_n 0, 1) := by decide +kernel
theorem dX10_request_91 : decode cX10_request 91 = .ok (.getfield 80, 3) := by decide +kernel
theorem dX10_request_94 : decode cX10_request 94 = .ok (.iload 6, 2) := by decide +kernel
theorem dX10_request_96 : decode cX10_request 96 = .ok (.aload_n 0, 1) := by decide +kernel
theorem dX10_request_97 : decode cX10_request 97 = .ok (.getfield 176, 3) := by decide +kernel
theorem dX10_request_100 : decode cX10_request 100 = .ok (.iconst 1, 1) := by decide +kernel
theorem dX10_request_101 : decode cX10_request 101 = .ok (.if_icmp .ne 8, 3) := by decide +kernel
theorem dX10_request_104 : decode cX10_request 104 = .ok (.bipush 115, 2) := by decide +kernel
theorem dX10_request_106 : decode cX10_request 106 = .ok (.goto 31, 3) := by decide +kernel
theorem dX10_request_109 : decode cX10_request 109 = .ok (.aload_n 0, 1) := by decide +kernel
theorem dX10_request_110 : decode cX10_request 110 = .ok (.getfield 176, 3) := by decide +kernel
theorem dX10_request_113 : decode cX10_request 113 = .ok (.iconst 2, 1) := by decide +kernel
theorem dX10_request_114 : decode cX10_request 114 = .ok (.if_icmp .ne 8, 3) := by decide +kernel
theorem dX10_request_117 : decode cX10_request 117 = .ok (.bipush 119, 2) := by decide +kernel
theorem dX10_request_119 : decode cX10_request 119 = .ok (.goto 18, 3) := by decide +kernel
theorem dX10_request_122 : decode cX10_request 122 = .ok (.aload_n 0, 1) := by decide +kernel
theorem dX10_request_123 : decode cX10_request 123 = .ok (.getfield 176, 3) := by decide +kernel
theorem dX10_request_126 : decode cX10_request 126 = .ok (.iconst 3, 1) := by decide +kernel
theorem dX10_request_127 : decode cX10_request 127 = .ok (.if_icmp .ne 8, 3) := by decide +kernel
theorem dX10_request_130 : decode cX10_request 130 = .ok (.bipush 100, 2) := by decide +kernel
theorem dX10_request_132 : decode cX10_request 132 = .ok (.goto 5, 3) := by decide +kernel
theorem dX10_request_135 : decode cX10_request 135 = .ok (.bipush 98, 2) := by decide +kernel
theorem dX10_request_137 : decode cX10_request 137 = .ok (.castore, 1) := by decide +kernel
theorem dX10_request_138 : decode cX10_request 138 = .ok (.iload 6, 2) := by decide +kernel
theorem dX10_request_140 : decode cX10_request 140 = .ok (.ireturn, 1) := by decide +kernel
theorem dX10_request_141 : decode cX10_request 141 = .ok (.aload_n 0, 1) := by decide +kernel
theorem dX10_request_142 : decode cX10_request 142 = .ok (.getfield 76, 3) := by decide +kernel
theorem dX10_request_145 : decode cX10_request 145 = .ok (.iload 6, 2) := by decide +kernel
theorem dX10_request_147 : decode cX10_request 147 = .ok (.bipush 119, 2) := by decide +kernel
theorem dX10_request_149 : decode cX10_request 149 = .ok (.castore, 1) := by decide +kernel
theorem dX10_request_150 : decode cX10_request 150 = .ok (.aload_n 0, 1) := by decide +kernel
theorem dX10_request_151 : decode cX10_request 151 = .ok (.getfield 67, 3) := by decide +kernel
theorem dX10_request_154 : decode cX10_request 154 = .ok (.iload 6, 2) := by decide +kernel
