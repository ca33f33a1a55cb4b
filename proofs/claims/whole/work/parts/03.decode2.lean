theorem dX9_exhibitionAt_13 : decode cX9_exhibitionAt 13 = .ok (.isub, 1) := by decide +kernel
theorem dX9_exhibitionAt_14 : decode cX9_exhibitionAt 14 = .ok (.invokestatic 58, 3) := by decide +kernel
theorem dX9_exhibitionAt_17 : decode cX9_exhibitionAt 17 = .ok (.ifCond .ne 14, 3) := by decide +kernel
theorem dX9_exhibitionAt_20 : decode cX9_exhibitionAt 20 = .ok (.new 266, 3) := by decide +kernel
theorem dX9_exhibitionAt_23 : decode cX9_exhibitionAt 23 = .ok (.dup, 1) := by decide +kernel
theorem dX9_exhibitionAt_24 : decode cX9_exhibitionAt 24 = .ok (.ldc_w 314, 3) := by decide +kernel
theorem dX9_exhibitionAt_27 : decode cX9_exhibitionAt 27 = .ok (.invokespecial 270, 3) := by decide +kernel
theorem dX9_exhibitionAt_30 : decode cX9_exhibitionAt 30 = .ok (.athrow, 1) := by decide +kernel
theorem dX9_exhibitionAt_31 : decode cX9_exhibitionAt 31 = .ok (.aload_n 0, 1) := by decide +kernel
theorem dX9_exhibitionAt_32 : decode cX9_exhibitionAt 32 = .ok (.getfield 36, 3) := by decide +kernel
theorem dX9_exhibitionAt_35 : decode cX9_exhibitionAt 35 = .ok (.getfield 159, 3) := by decide +kernel
theorem dX9_exhibitionAt_38 : decode cX9_exhibitionAt 38 = .ok (.iload_n 1, 1) := by decide +kernel
theorem dX9_exhibitionAt_39 : decode cX9_exhibitionAt 39 = .ok (.invokevirtual 120, 3) := by decide +kernel
theorem dX9_exhibitionAt_42 : decode cX9_exhibitionAt 42 = .ok (.checkcast 164, 3) := by decide +kernel
theorem dX9_exhibitionAt_45 : decode cX9_exhibitionAt 45 = .ok (.areturn, 1) := by decide +kernel
theorem dX9_shownAt_0 : decode cX9_shownAt 0 = .ok (.iload_n 2, 1) := by decide +kernel
theorem dX9_shownAt_1 : decode cX9_shownAt 1 = .ok (.iconst 0, 1) := by decide +kernel
theorem dX9_shownAt_2 : decode cX9_shownAt 2 = .ok (.aload_n 1, 1) := by decide +kernel
theorem dX9_shownAt_3 : decode cX9_shownAt 3 = .ok (.getfield 178, 3) := by decide +kernel
theorem dX9_shownAt_6 : decode cX9_shownAt 6 = .ok (.invokevirtual 72, 3) := by decide +kernel
theorem dX9_shownAt_9 : decode cX9_shownAt 9 = .ok (.iconst 1, 1) := by decide +kernel
theorem dX9_shownAt_10 : decode cX9_shownAt 10 = .ok (.isub, 1) := by decide +kernel
theorem dX9_shownAt_11 : decode cX9_shownAt 11 = .ok (.invokestatic 58, 3) := by decide +kernel
theorem dX9_shownAt_14 : decode cX9_shownAt 14 = .ok (.ifCond .ne 14, 3) := by decide +kernel
theorem dX9_shownAt_17 : decode cX9_shownAt 17 = .ok (.new 307, 3) := by decide +kernel
theorem dX9_shownAt_20 : decode cX9_shownAt 20 = .ok (.dup, 1) := by decide +kernel
theorem dX9_shownAt_21 : decode cX9_shownAt 21 = .ok (.ldc_w 316, 3) := by decide +kernel
theorem dX9_shownAt_24 : decode cX9_shownAt 24 = .ok (.invokespecial 311, 3) := by decide +kernel
theorem dX9_shownAt_27 : decode cX9_shownAt 27 = .ok (.athrow, 1) := by decide +kernel
theorem dX9_shownAt_28 : decode cX9_shownAt 28 = .ok (.aload_n 1, 1) := by decide +kernel
theorem dX9_shownAt_29 : decode cX9_shownAt 29 = .ok (.getfield 178, 3) := by decide +kernel
theorem dX9_shownAt_32 : decode cX9_shownAt 32 = .ok (.iload_n 2, 1) := by decide +kernel
theorem dX9_shownAt_33 : decode cX9_shownAt 33 = .ok (.invokevirtual 120, 3) := by decide +kernel
theorem dX9_shownAt_36 : decode cX9_shownAt 36 = .ok (.checkcast 124, 3) := by decide +kernel
theorem dX9_shownAt_39 : decode cX9_shownAt 39 = .ok (.areturn, 1) := by decide +kernel
theorem dX9_openExhibitionAt_0 : decode cX9_openExhibitionAt 0 = .ok (.aload_n 0, 1) := by decide +kernel
theorem dX9_openExhibitionAt_1 : decode cX9_openExhibitionAt 1 = .ok (.iload_n 1, 1) := by decide +kernel
theorem dX9_openExhibitionAt_2 : decode cX9_openExhibitionAt 2 = .ok (.invokevirtual 168, 3) := by decide +kernel
theorem dX9_openExhibitionAt_5 : decode cX9_openExhibitionAt 5 = .ok (.astore_n 3, 1) := by decide +kernel
theorem dX9_openExhibitionAt_6 : decode cX9_openExhibitionAt 6 = .ok (.aload_n 0, 1) := by decide +kernel
theorem dX9_openExhibitionAt_7 : decode cX9_openExhibitionAt 7 = .ok (.aload_n 3, 1) := by decide +kernel
theorem dX9_openExhibitionAt_8 : decode cX9_openExhibitionAt 8 = .ok (.iload_n 2, 1) := by decide +kernel
theorem dX9_openExhibitionAt_9 : decode cX9_openExhibitionAt 9 = .ok (.invokevirtual 208, 3) := by decide +kernel
theorem dX9_openExhibitionAt_12 : decode cX9_openExhibitionAt 12 = .ok (.pop, 1) := by decide +kernel
theorem dX9_openExhibitionAt_13 : decode cX9_openExhibitionAt 13 = .ok (.aload_n 3, 1) := by decide +kernel
theorem dX9_openExhibitionAt_14 : decode cX9_openExhibitionAt 14 = .ok (.getfield 172, 3) := by decide +kernel
theorem dX9_openExhibitionAt_17 : decode cX9_openExhibitionAt 17 = .ok (.bipush 112, 2) := by decide +kernel
theorem dX9_openExhibitionAt_19 : decode cX9_openExhibitionAt 19 = .ok (.if_icmp .eq 12, 3) := by decide +kernel
theorem dX9_openExhibitionAt_22 : decode cX9_openExhibitionAt 22 = .ok (.aload_n 3, 1) := by decide +kernel
theorem dX9_openExhibitionAt_23 : decode cX9_openExhibitionAt 23 = .ok (.getfield 172, 3) := by decide +kernel
theorem dX9_openExhibitionAt_26 : decode cX9_openExhibitionAt 26 = .ok (.bipush 99, 2) := by decide +kernel
theorem dX9_openExhibitionAt_28 : decode cX9_openExhibitionAt 28 = .ok (.if_icmp .ne 14, 3) := by decide +kernel
theorem dX9_openExhibitionAt_31 : decode cX9_openExhibitionAt 31 = .ok (.new 76, 3) := by decide +kernel
theorem dX9_openExhibitionAt_34 : decode cX9_openExhibitionAt 34 = .ok (.dup, 1) := by decide +kernel
theorem dX9_openExhibitionAt_35 : decode cX9_openExhibitionAt 35 = .ok (.ldc_w 318, 3) := by decide +kernel
theorem dX9_openExhibitionAt_38 : decode cX9_openExhibitionAt 38 = .ok (.invokespecial 80, 3) := by decide +kernel
theorem dX9_openExhibitionAt_41 : decode cX9_openExhibitionAt 41 = .ok (.athrow, 1) := by decide +kernel
theorem dX9_openExhibitionAt_42 : decode cX9_openExhibitionAt 42 = .ok (.aload_n 3, 1) := by decide +kernel
theorem dX9_openExhibitionAt_43 : decode cX9_openExhibitionAt 43 = .ok (.areturn, 1) := by decide +kernel
theorem dX9_refuseUnknown_0 : decode cX9_refuseUnknown 0 = .ok (.iload_n 1, 1) := by decide +kernel
theorem dX9_refuseUnknown_1 : decode cX9_refuseUnknown 1 = .ok (.iconst 0, 1) := by decide +kernel
theorem dX9_refuseUnknown_2 : decode cX9_refuseUnknown 2 = .ok (.aload_n 0, 1) := by decide +kernel
theorem dX9_refuseUnknown_3 : decode cX9_refuseUnknown 3 = .ok (.getfield 12, 3) := by decide +kernel
theorem dX9_refuseUnknown_6 : decode cX9_refuseUnknown 6 = .ok (.invokevirtual 320, 3) := by decide +kernel
theorem dX9_refuseUnknown_9 : decode cX9_refuseUnknown 9 = .ok (.iconst 1, 1) := by decide +kernel
theorem dX9_refuseUnknown_10 : decode cX9_refuseUnknown 10 = .ok (.isub, 1) := by decide +kernel
theorem dX9_refuseUnknown_11 : decode cX9_refuseUnknown 11 = .ok (.invokestatic 58, 3) := by decide +kernel
theorem dX9_refuseUnknown_14 : decode cX9_refuseUnknown 14 = .ok (.ifCond .ne 14, 3) := by decide +kernel
theorem dX9_refuseUnknown_17 : decode cX9_refuseUnknown 17 = .ok (.new 307, 3) := by decide +kernel
theorem dX9_refuseUnknown_20 : decode cX9_refuseUnknown 20 = .ok (.dup, 1) := by decide +kernel
theorem dX9_refuseUnknown_21 : decode cX9_refuseUnknown 21 = .ok (.ldc_w 322, 3) := by decide +kernel
theorem dX9_refuseUnknown_24 : decode cX9_refuseUnknown 24 = .ok (.invokespecial 311, 3) := by decide +kernel
theorem dX9_refuseUnknown_27 : decode cX9_refuseUnknown 27 = .ok (.athrow, 1) := by decide +kernel
theorem dX9_refuseUnknown_28 : decode cX9_refuseUnknown 28 = .ok (.iload_n 2, 1) := by decide +kernel
theorem dX9_refuseUnknown_29 : decode cX9_refuseUnknown 29 = .ok (.iconst 0, 1) := by decide +kernel
theorem dX9_refuseUnknown_30 : decode cX9_refuseUnknown 30 = .ok (.bipush 99, 2) := by decide +kernel
theorem dX9_refuseUnknown_32 : decode cX9_refuseUnknown 32 = .ok (.invokestatic 58, 3) := by decide +kernel
theorem dX9_refuseUnknown_35 : decode cX9_refuseUnknown 35 = .ok (.ifCond .ne 14, 3) := by decide +kernel
theorem dX9_refuseUnknown_38 : decode cX9_refuseUnknown 38 = .ok (.new 62, 3) := by decide +kernel
theorem dX9_refuseUnknown_41 : decode cX9_refuseUnknown 41 = .ok (.dup, 1) := by decide +kernel
theorem dX9_refuseUnknown_42 : decode cX9_refuseUnknown 42 = .ok (.ldc_w 324, 3) := by decide +kernel
theorem dX9_refuseUnknown_45 : decode cX9_refuseUnknown 45 = .ok (.invokespecial 66, 3) := by decide +kernel
theorem dX9_refuseUnknown_48 : decode cX9_refuseUnknown 48 = .ok (.athrow, 1) := by decide +kernel
theorem dX9_refuseUnknown_49 : decode cX9_refuseUnknown 49 = .ok (.return_, 1) := by decide +kernel
theorem dX9_collectLoads_0 : decode cX9_collectLoads 0 = .ok (.aload_n 0, 1) := by decide +kernel
theorem dX9_collectLoads_1 : decode cX9_collectLoads 1 = .ok (.iload_n 1, 1) := by decide +kernel
theorem dX9_collectLoads_2 : decode cX9_collectLoads 2 = .ok (.invokevirtual 168, 3) := by decide +kernel
theorem dX9_collectLoads_5 : decode cX9_collectLoads 5 = .ok (.astore_n 3, 1) := by decide +kernel
theorem dX9_collectLoads_6 : decode cX9_collectLoads 6 = .ok (.iload_n 2, 1) := by decide +kernel
theorem dX9_collectLoads_7 : decode cX9_collectLoads 7 = .ok (.iconst 0, 1) := by decide +kernel
theorem dX9_collectLoads_8 : decode cX9_collectLoads 8 = .ok (.aload_n 0, 1) := by decide +kernel
theorem dX9_collectLoads_9 : decode cX9_collectLoads 9 = .ok (.getfield 19, 3) := by decide +kernel
theorem dX9_collectLoads_12 : decode cX9_collectLoads 12 = .ok (.invokevirtual 72, 3) := by decide +kernel
theorem dX9_collectLoads_15 : decode cX9_collectLoads 15 = .ok (.iconst 1, 1) := by decide +kernel
theorem dX9_collectLoads_16 : decode cX9_collectLoads 16 = .ok (.isub, 1) := by decide +kernel
theorem dX9_collectLoads_17 : decode cX9_collectLoads 17 = .ok (.invokestatic 58, 3) := by decide +kernel
theorem dX9_collectLoads_20 : decode cX9_collectLoads 20 = .ok (.ifCond .ne 13, 3) := by decide +kernel
theorem dX9_collectLoads_23 : decode cX9_collectLoads 23 = .ok (.new 307, 3) := by decide +kernel
theorem dX9_collectLoads_26 : decode cX9_collectLoads 26 = .ok (.dup, 1) := by decide +kernel
theorem dX9_collectLoads_27 : decode cX9_collectLoads 27 = .ok (.ldc 116, 2) := by decide +kernel
theorem dX9_collectLoads_29 : decode cX9_collectLoads 29 = .ok (.invokespecial 311, 3) := by decide +kernel
theorem dX9_collectLoads_32 : decode cX9_collectLoads 32 = .ok (.athrow, 1) := by decide +kernel
theorem dX9_collectLoads_33 : decode cX9_collectLoads 33 = .ok (.aload_n 0, 1) := by decide +kernel
theorem dX9_collectLoads_34 : decode cX9_collectLoads 34 = .ok (.getfield 50, 3) := by decide +kernel
theorem dX9_collectLoads_37 : decode cX9_collectLoads 37 = .ok (.aload_n 3, 1) := by decide +kernel
theorem dX9_collectLoads_38 : decode cX9_collectLoads 38 = .ok (.aload_n 0, 1) := by decide +kernel
theorem dX9_collectLoads_39 : decode cX9_collectLoads 39 = .ok (.getfield 19, 3) := by decide +kernel
theorem dX9_collectLoads_42 : decode cX9_collectLoads 42 = .ok (.iload_n 2, 1) := by decide +kernel
theorem dX9_collectLoads_43 : decode cX9_collectLoads 43 = .ok (.invokevirtual 120, 3) := by decide +kernel
theorem dX9_collectLoads_46 : decode cX9_collectLoads 46 = .ok (.checkcast 110, 3) := by decide +kernel
theorem dX9_collectLoads_49 : decode cX9_collectLoads 49 = .ok (.invokevirtual 326, 3) := by decide +kernel
theorem dX9_collectLoads_52 : decode cX9_collectLoads 52 = .ok (.ifCond .ne 14, 3) := by decide +kernel
theorem dX9_collectLoads_55 : decode cX9_collectLoads 55 = .ok (.new 193, 3) := by decide +kernel
theorem dX9_collectLoads_58 : decode cX9_collectLoads 58 = .ok (.dup, 1) := by decide +kernel
theorem dX9_collectLoads_59 : decode cX9_collectLoads 59 = .ok (.ldc_w 330, 3) := by decide +kernel
theorem dX9_collectLoads_62 : decode cX9_collectLoads 62 = .ok (.invokespecial 197, 3) := by decide +kernel
theorem dX9_collectLoads_65 : decode cX9_collectLoads 65 = .ok (.athrow, 1) := by decide +kernel
theorem dX9_collectLoads_66 : decode cX9_collectLoads 66 = .ok (.return_, 1) := by decide +kernel
theorem dX9_planThoseThatWait_0 : decode cX9_planThoseThatWait 0 = .ok (.iconst 0, 1) := by decide +kernel
theorem dX9_planThoseThatWait_1 : decode cX9_planThoseThatWait 1 = .ok (.istore_n 1, 1) := by decide +kernel
theorem dX9_planThoseThatWait_2 : decode cX9_planThoseThatWait 2 = .ok (.iconst 0, 1) := by decide +kernel
theorem dX9_planThoseThatWait_3 : decode cX9_planThoseThatWait 3 = .ok (.istore_n 2, 1) := by decide +kernel
theorem dX9_planThoseThatWait_4 : decode cX9_planThoseThatWait 4 = .ok (.iload_n 2, 1) := by decide +kernel
theorem dX9_planThoseThatWait_5 : decode cX9_planThoseThatWait 5 = .ok (.aload_n 0, 1) := by decide +kernel
theorem dX9_planThoseThatWait_6 : decode cX9_planThoseThatWait 6 = .ok (.getfield 36, 3) := by decide +kernel
theorem dX9_planThoseThatWait_9 : decode cX9_planThoseThatWait 9 = .ok (.getfield 159, 3) := by decide +kernel
theorem dX9_planThoseThatWait_12 : decode cX9_planThoseThatWait 12 = .ok (.invokevirtual 72, 3) := by decide +kernel
theorem dX9_planThoseThatWait_15 : decode cX9_planThoseThatWait 15 = .ok (.if_icmp .ge 49, 3) := by decide +kernel
theorem dX9_planThoseThatWait_18 : decode cX9_planThoseThatWait 18 = .ok (.aload_n 0, 1) := by decide +kernel
theorem dX9_planThoseThatWait_19 : decode cX9_planThoseThatWait 19 = .ok (.getfield 36, 3) := by decide +kernel
theorem dX9_planThoseThatWait_22 : decode cX9_planThoseThatWait 22 = .ok (.getfield 159, 3) := by decide +kernel
theorem dX9_planThoseThatWait_25 : decode cX9_planThoseThatWait 25 = .ok (.iload_n 2, 1) := by decide +kernel
theorem dX9_planThoseThatWait_26 : decode cX9_planThoseThatWait 26 = .ok (.invokevirtual 120, 3) := by decide +kernel
theorem dX9_planThoseThatWait_29 : decode cX9_planThoseThatWait 29 = .ok (.checkcast 164, 3) := by decide +kernel
theorem dX9_planThoseThatWait_32 : decode cX9_planThoseThatWait 32 = .ok (.astore_n 3, 1) := by decide +kernel
theorem dX9_planThoseThatWait_33 : decode cX9_planThoseThatWait 33 = .ok (.aload_n 3, 1) := by decide +kernel
theorem dX9_planThoseThatWait_34 : decode cX9_planThoseThatWait 34 = .ok (.getfield 172, 3) := by decide +kernel
theorem dX9_planThoseThatWait_37 : decode cX9_planThoseThatWait 37 = .ok (.bipush 119, 2) := by decide +kernel
theorem dX9_planThoseThatWait_39 : decode cX9_planThoseThatWait 39 = .ok (.if_icmp .ne 19, 3) := by decide +kernel
theorem dX9_planThoseThatWait_42 : decode cX9_planThoseThatWait 42 = .ok (.aload_n 0, 1) := by decide +kernel
theorem dX9_planThoseThatWait_43 : decode cX9_planThoseThatWait 43 = .ok (.aload_n 3, 1) := by decide +kernel
theorem dX9_planThoseThatWait_44 : decode cX9_planThoseThatWait 44 = .ok (.invokevirtual 198, 3) := by decide +kernel
theorem dX9_planThoseThatWait_47 : decode cX9_planThoseThatWait 47 = .ok (.ifCond .eq 11, 3) := by decide +kernel
theorem dX9_planThoseThatWait_50 : decode cX9_planThoseThatWait 50 = .ok (.aload_n 0, 1) := by decide +kernel
theorem dX9_planThoseThatWait_51 : decode cX9_planThoseThatWait 51 = .ok (.aload_n 3, 1) := by decide +kernel
theorem dX9_planThoseThatWait_52 : decode cX9_planThoseThatWait 52 = .ok (.invokevirtual 202, 3) := by decide +kernel
theorem dX9_planThoseThatWait_55 : decode cX9_planThoseThatWait 55 = .ok (.iinc 1 1, 3) := by decide +kernel
theorem dX9_planThoseThatWait_58 : decode cX9_planThoseThatWait 58 = .ok (.iinc 2 1, 3) := by decide +kernel
theorem dX9_planThoseThatWait_61 : decode cX9_planThoseThatWait 61 = .ok (.goto (-57), 3) := by decide +kernel
theorem dX9_planThoseThatWait_64 : decode cX9_planThoseThatWait 64 = .ok (.iload_n 1, 1) := by decide +kernel
theorem dX9_planThoseThatWait_65 : decode cX9_planThoseThatWait 65 = .ok (.ireturn, 1) := by decide +kernel
theorem dX9_hangAsFound_0 : decode cX9_hangAsFound 0 = .ok (.aload_n 1, 1) := by decide +kernel
theorem dX9_hangAsFound_1 : decode cX9_hangAsFound 1 = .ok (.aload_n 0, 1) := by decide +kernel
theorem dX9_hangAsFound_2 : decode cX9_hangAsFound 2 = .ok (.getfield 43, 3) := by decide +kernel
theorem dX9_hangAsFound_5 : decode cX9_hangAsFound 5 = .ok (.getfield 234, 3) := by decide +kernel
theorem dX9_hangAsFound_8 : decode cX9_hangAsFound 8 = .ok (.invokevirtual 332, 3) := by decide +kernel
theorem dX9_hangAsFound_11 : decode cX9_hangAsFound 11 = .ok (.aload_n 0, 1) := by decide +kernel
theorem dX9_hangAsFound_12 : decode cX9_hangAsFound 12 = .ok (.dup, 1) := by decide +kernel
theorem dX9_hangAsFound_13 : decode cX9_hangAsFound 13 = .ok (.getfield 271, 3) := by decide +kernel
theorem dX9_hangAsFound_16 : decode cX9_hangAsFound 16 = .ok (.iconst 1, 1) := by decide +kernel
theorem dX9_hangAsFound_17 : decode cX9_hangAsFound 17 = .ok (.iadd, 1) := by decide +kernel
theorem dX9_hangAsFound_18 : decode cX9_hangAsFound 18 = .ok (.putfield 271, 3) := by decide +kernel
theorem dX9_hangAsFound_21 : decode cX9_hangAsFound 21 = .ok (.return_, 1) := by decide +kernel
theorem dX9_findsWorkByWork_0 : decode cX9_findsWorkByWork 0 = .ok (.aload_n 0, 1) := by decide +kernel
theorem dX9_findsWorkByWork_1 : decode cX9_findsWorkByWork 1 = .ok (.getfield 43, 3) := by decide +kernel
theorem dX9_findsWorkByWork_4 : decode cX9_findsWorkByWork 4 = .ok (.aload_n 1, 1) := by decide +kernel
theorem dX9_findsWorkByWork_5 : decode cX9_findsWorkByWork 5 = .ok (.aload_n 0, 1) := by decide +kernel
theorem dX9_findsWorkByWork_6 : decode cX9_findsWorkByWork 6 = .ok (.getfield 12, 3) := by decide +kernel
theorem dX9_findsWorkByWork_9 : decode cX9_findsWorkByWork 9 = .ok (.aload_n 0, 1) := by decide +kernel
theorem dX9_findsWorkByWork_10 : decode cX9_findsWorkByWork 10 = .ok (.getfield 36, 3) := by decide +kernel
theorem dX9_findsWorkByWork_13 : decode cX9_findsWorkByWork 13 = .ok (.aload_n 0, 1) := by decide +kernel
theorem dX9_findsWorkByWork_14 : decode cX9_findsWorkByWork 14 = .ok (.getfield 29, 3) := by decide +kernel
theorem dX9_findsWorkByWork_17 : decode cX9_findsWorkByWork 17 = .ok (.invokevirtual 336, 3) := by decide +kernel
theorem dX9_findsWorkByWork_20 : decode cX9_findsWorkByWork 20 = .ok (.ifCond .eq 17, 3) := by decide +kernel
theorem dX9_findsWorkByWork_23 : decode cX9_findsWorkByWork 23 = .ok (.aload_n 0, 1) := by decide +kernel
theorem dX9_findsWorkByWork_24 : decode cX9_findsWorkByWork 24 = .ok (.getfield 43, 3) := by decide +kernel
theorem dX9_findsWorkByWork_27 : decode cX9_findsWorkByWork 27 = .ok (.invokevirtual 340, 3) := by decide +kernel
theorem dX9_findsWorkByWork_30 : decode cX9_findsWorkByWork 30 = .ok (.ifCond .eq 7, 3) := by decide +kernel
theorem dX9_findsWorkByWork_33 : decode cX9_findsWorkByWork 33 = .ok (.iconst 1, 1) := by decide +kernel
theorem dX9_findsWorkByWork_34 : decode cX9_findsWorkByWork 34 = .ok (.goto 4, 3) := by decide +kernel
theorem dX9_findsWorkByWork_37 : decode cX9_findsWorkByWork 37 = .ok (.iconst 0, 1) := by decide +kernel
theorem dX9_findsWorkByWork_38 : decode cX9_findsWorkByWork 38 = .ok (.ireturn, 1) := by decide +kernel
theorem dX9_findsBySearch_0 : decode cX9_findsBySearch 0 = .ok (.aload_n 0, 1) := by decide +kernel
theorem dX9_findsBySearch_1 : decode cX9_findsBySearch 1 = .ok (.getfield 43, 3) := by decide +kernel
theorem dX9_findsBySearch_4 : decode cX9_findsBySearch 4 = .ok (.aload_n 1, 1) := by decide +kernel
theorem dX9_findsBySearch_5 : decode cX9_findsBySearch 5 = .ok (.aload_n 0, 1) := by decide +kernel
theorem dX9_findsBySearch_6 : decode cX9_findsBySearch 6 = .ok (.getfield 12, 3) := by decide +kernel
theorem dX9_findsBySearch_9 : decode cX9_findsBySearch 9 = .ok (.aload_n 0, 1) := by decide +kernel
theorem dX9_findsBySearch_10 : decode cX9_findsBySearch 10 = .ok (.getfield 36, 3) := by decide +kernel
theorem dX9_findsBySearch_13 : decode cX9_findsBySearch 13 = .ok (.aload_n 0, 1) := by decide +kernel
theorem dX9_findsBySearch_14 : decode cX9_findsBySearch 14 = .ok (.getfield 29, 3) := by decide +kernel
theorem dX9_findsBySearch_17 : decode cX9_findsBySearch 17 = .ok (.invokevirtual 336, 3) := by decide +kernel
theorem dX9_findsBySearch_20 : decode cX9_findsBySearch 20 = .ok (.ifCond .eq 17, 3) := by decide +kernel
theorem dX9_findsBySearch_23 : decode cX9_findsBySearch 23 = .ok (.aload_n 0, 1) := by decide +kernel
theorem dX9_findsBySearch_24 : decode cX9_findsBySearch 24 = .ok (.getfield 43, 3) := by decide +kernel
theorem dX9_findsBySearch_27 : decode cX9_findsBySearch 27 = .ok (.invokevirtual 343, 3) := by decide +kernel
theorem dX9_findsBySearch_30 : decode cX9_findsBySearch 30 = .ok (.ifCond .eq 7, 3) := by decide +kernel
theorem dX9_findsBySearch_33 : decode cX9_findsBySearch 33 = .ok (.iconst 1, 1) := by decide +kernel
theorem dX9_findsBySearch_34 : decode cX9_findsBySearch 34 = .ok (.goto 4, 3) := by decide +kernel
theorem dX9_findsBySearch_37 : decode cX9_findsBySearch 37 = .ok (.iconst 0, 1) := by decide +kernel
theorem dX9_findsBySearch_38 : decode cX9_findsBySearch 38 = .ok (.ireturn, 1) := by decide +kernel
theorem dX9_allWaitRightly_0 : decode cX9_allWaitRightly 0 = .ok (.iconst 0, 1) := by decide +kernel
theorem dX9_allWaitRightly_1 : decode cX9_allWaitRightly 1 = .ok (.istore_n 1, 1) := by decide +kernel
theorem dX9_allWaitRightly_2 : decode cX9_allWaitRightly 2 = .ok (.iload_n 1, 1) := by decide +kernel
theorem dX9_allWaitRightly_3 : decode cX9_allWaitRightly 3 = .ok (.aload_n 0, 1) := by decide +kernel
theorem dX9_allWaitRightly_4 : decode cX9_allWaitRightly 4 = .ok (.getfield 36, 3) := by decide +kernel
theorem dX9_allWaitRightly_7 : decode cX9_allWaitRightly 7 = .ok (.getfield 159, 3) := by decide +kernel
theorem dX9_allWaitRightly_10 : decode cX9_allWaitRightly 10 = .ok (.invokevirtual 72, 3) := by decide +kernel
theorem dX9_allWaitRightly_13 : decode cX9_allWaitRightly 13 = .ok (.if_icmp .ge 51, 3) := by decide +kernel
theorem dX9_allWaitRightly_16 : decode cX9_allWaitRightly 16 = .ok (.aload_n 0, 1) := by decide +kernel
theorem dX9_allWaitRightly_17 : decode cX9_allWaitRightly 17 = .ok (.getfield 36, 3) := by decide +kernel
theorem dX9_allWaitRightly_20 : decode cX9_allWaitRightly 20 = .ok (.getfield 159, 3) := by decide +kernel
theorem dX9_allWaitRightly_23 : decode cX9_allWaitRightly 23 = .ok (.iload_n 1, 1) := by decide +kernel
theorem dX9_allWaitRightly_24 : decode cX9_allWaitRightly 24 = .ok (.invokevirtual 120, 3) := by decide +kernel
theorem dX9_allWaitRightly_27 : decode cX9_allWaitRightly 27 = .ok (.checkcast 164, 3) := by decide +kernel
theorem dX9_allWaitRightly_30 : decode cX9_allWaitRightly 30 = .ok (.astore_n 2, 1) := by decide +kernel
theorem dX9_allWaitRightly_31 : decode cX9_allWaitRightly 31 = .ok (.aload_n 2, 1) := by decide +kernel
theorem dX9_allWaitRightly_32 : decode cX9_allWaitRightly 32 = .ok (.getfield 172, 3) := by decide +kernel
theorem dX9_allWaitRightly_35 : decode cX9_allWaitRightly 35 = .ok (.bipush 119, 2) := by decide +kernel
theorem dX9_allWaitRightly_37 : decode cX9_allWaitRightly 37 = .ok (.if_icmp .ne 21, 3) := by decide +kernel
theorem dX9_allWaitRightly_40 : decode cX9_allWaitRightly 40 = .ok (.aload_n 0, 1) := by decide +kernel
theorem dX9_allWaitRightly_41 : decode cX9_allWaitRightly 41 = .ok (.aload_n 2, 1) := by decide +kernel
theorem dX9_allWaitRightly_42 : decode cX9_allWaitRightly 42 = .ok (.invokevirtual 198, 3) := by decide +kernel
theorem dX9_allWaitRightly_45 : decode cX9_allWaitRightly 45 = .ok (.ifCond .ne 11, 3) := by decide +kernel
theorem dX9_allWaitRightly_48 : decode cX9_allWaitRightly 48 = .ok (.aload_n 0, 1) := by decide +kernel
theorem dX9_allWaitRightly_49 : decode cX9_allWaitRightly 49 = .ok (.aload_n 2, 1) := by decide +kernel
theorem dX9_allWaitRightly_50 : decode cX9_allWaitRightly 50 = .ok (.invokevirtual 237, 3) := by decide +kernel
theorem dX9_allWaitRightly_53 : decode cX9_allWaitRightly 53 = .ok (.ifCond .eq 5, 3) := by decide +kernel
theorem dX9_allWaitRightly_56 : decode cX9_allWaitRightly 56 = .ok (.iconst 0, 1) := by decide +kernel
theorem dX9_allWaitRightly_57 : decode cX9_allWaitRightly 57 = .ok (.ireturn, 1) := by decide +kernel
theorem dX9_allWaitRightly_58 : decode cX9_allWaitRightly 58 = .ok (.iinc 1 1, 3) := by decide +kernel
theorem dX9_allWaitRightly_61 : decode cX9_allWaitRightly 61 = .ok (.goto (-59), 3) := by decide +kernel
theorem dX9_allWaitRightly_64 : decode cX9_allWaitRightly 64 = .ok (.iconst 1, 1) := by decide +kernel
theorem dX9_allWaitRightly_65 : decode cX9_allWaitRightly 65 = .ok (.ireturn, 1) := by decide +kernel
theorem dX9_isWithin_0 : decode cX9_isWithin 0 = .ok (.iload_n 0, 1) := by decide +kernel
theorem dX9_isWithin_1 : decode cX9_isWithin 1 = .ok (.iload_n 1, 1) := by decide +kernel
theorem dX9_isWithin_2 : decode cX9_isWithin 2 = .ok (.if_icmp .lt 12, 3) := by decide +kernel
theorem dX9_isWithin_5 : decode cX9_isWithin 5 = .ok (.iload_n 0, 1) := by decide +kernel
theorem dX9_isWithin_6 : decode cX9_isWithin 6 = .ok (.iload_n 2, 1) := by decide +kernel
theorem dX9_isWithin_7 : decode cX9_isWithin 7 = .ok (.if_icmp .gt 7, 3) := by decide +kernel
theorem dX9_isWithin_10 : decode cX9_isWithin 10 = .ok (.iconst 1, 1) := by decide +kernel
theorem dX9_isWithin_11 : decode cX9_isWithin 11 = .ok (.goto 4, 3) := by decide +kernel
theorem dX9_isWithin_14 : decode cX9_isWithin 14 = .ok (.iconst 0, 1) := by decide +kernel
theorem dX9_isWithin_15 : decode cX9_isWithin 15 = .ok (.ireturn, 1) := by decide +kernel
theorem dX9_isClimate_0 : decode cX9_isClimate 0 = .ok (.iload_n 0, 1) := by decide +kernel
theorem dX9_isClimate_1 : decode cX9_isClimate 1 = .ok (.iconst 0, 1) := by decide +kernel
theorem dX9_isClimate_2 : decode cX9_isClimate 2 = .ok (.bipush 100, 2) := by decide +kernel
theorem dX9_isClimate_4 : decode cX9_isClimate 4 = .ok (.invokestatic 58, 3) := by decide +kernel
theorem dX9_isClimate_7 : decode cX9_isClimate 7 = .ok (.ifCond .eq 17, 3) := by decide +kernel
theorem dX9_isClimate_10 : decode cX9_isClimate 10 = .ok (.iload_n 1, 1) := by decide +kernel
theorem dX9_isClimate_11 : decode cX9_isClimate 11 = .ok (.iconst 0, 1) := by decide +kernel
theorem dX9_isClimate_12 : decode cX9_isClimate 12 = .ok (.bipush 100, 2) := by decide +kernel
theorem dX9_isClimate_14 : decode cX9_isClimate 14 = .ok (.invokestatic 58, 3) := by decide +kernel
theorem dX9_isClimate_17 : decode cX9_isClimate 17 = .ok (.ifCond .eq 7, 3) := by decide +kernel
theorem dX9_isClimate_20 : decode cX9_isClimate 20 = .ok (.iconst 1, 1) := by decide +kernel
theorem dX9_isClimate_21 : decode cX9_isClimate 21 = .ok (.goto 4, 3) := by decide +kernel
theorem dX9_isClimate_24 : decode cX9_isClimate 24 = .ok (.iconst 0, 1) := by decide +kernel
theorem dX9_isClimate_25 : decode cX9_isClimate 25 = .ok (.ireturn, 1) := by decide +kernel
theorem dX9_isBroken_0 : decode cX9_isBroken 0 = .ok (.iload_n 0, 1) := by decide +kernel
theorem dX9_isBroken_1 : decode cX9_isBroken 1 = .ok (.bipush 114, 2) := by decide +kernel
theorem dX9_isBroken_3 : decode cX9_isBroken 3 = .ok (.if_icmp .ne 18, 3) := by decide +kernel
theorem dX9_isBroken_6 : decode cX9_isBroken 6 = .ok (.iload_n 1, 1) := by decide +kernel
theorem dX9_isBroken_7 : decode cX9_isBroken 7 = .ok (.iconst 2, 1) := by decide +kernel
theorem dX9_isBroken_8 : decode cX9_isBroken 8 = .ok (.idiv, 1) := by decide +kernel
theorem dX9_isBroken_9 : decode cX9_isBroken 9 = .ok (.iload_n 2, 1) := by decide +kernel
theorem dX9_isBroken_10 : decode cX9_isBroken 10 = .ok (.iconst 2, 1) := by decide +kernel
theorem dX9_isBroken_11 : decode cX9_isBroken 11 = .ok (.idiv, 1) := by decide +kernel
theorem dX9_isBroken_12 : decode cX9_isBroken 12 = .ok (.if_icmp .ne 7, 3) := by decide +kernel
theorem dX9_isBroken_15 : decode cX9_isBroken 15 = .ok (.iconst 1, 1) := by decide +kernel
theorem dX9_isBroken_16 : decode cX9_isBroken 16 = .ok (.goto 4, 3) := by decide +kernel
theorem dX9_isBroken_19 : decode cX9_isBroken 19 = .ok (.iconst 0, 1) := by decide +kernel
theorem dX9_isBroken_20 : decode cX9_isBroken 20 = .ok (.ireturn, 1) := by decide +kernel
theorem dX9_isBroken_21 : decode cX9_isBroken 21 = .ok (.iload_n 0, 1) := by decide +kernel
theorem dX9_isBroken_22 : decode cX9_isBroken 22 = .ok (.bipush 119, 2) := by decide +kernel
theorem dX9_isBroken_24 : decode cX9_isBroken 24 = .ok (.if_icmp .ne 12, 3) := by decide +kernel
theorem dX9_isBroken_27 : decode cX9_isBroken 27 = .ok (.iload_n 1, 1) := by decide +kernel
theorem dX9_isBroken_28 : decode cX9_isBroken 28 = .ok (.iload_n 2, 1) := by decide +kernel
theorem dX9_isBroken_29 : decode cX9_isBroken 29 = .ok (.if_icmp .ne 7, 3) := by decide +kernel
theorem dX9_isBroken_32 : decode cX9_isBroken 32 = .ok (.iconst 1, 1) := by decide +kernel
theorem dX9_isBroken_33 : decode cX9_isBroken 33 = .ok (.goto 4, 3) := by decide +kernel
theorem dX9_isBroken_36 : decode cX9_isBroken 36 = .ok (.iconst 0, 1) := by decide +kernel
theorem dX9_isBroken_37 : decode cX9_isBroken 37 = .ok (.ireturn, 1) := by decide +kernel
theorem dX9_numberAt_0 : decode cX9_numberAt 0 = .ok (.iload_n 1, 1) := by decide +kernel
theorem dX9_numberAt_1 : decode cX9_numberAt 1 = .ok (.ifCond .lt 15, 3) := by decide +kernel
theorem dX9_numberAt_4 : decode cX9_numberAt 4 = .ok (.iload_n 1, 1) := by decide +kernel
theorem dX9_numberAt_5 : decode cX9_numberAt 5 = .ok (.aload_n 0, 1) := by decide +kernel
theorem dX9_numberAt_6 : decode cX9_numberAt 6 = .ok (.arraylength, 1) := by decide +kernel
theorem dX9_numberAt_7 : decode cX9_numberAt 7 = .ok (.if_icmp .ge 9, 3) := by decide +kernel
theorem dX9_numberAt_10 : decode cX9_numberAt 10 = .ok (.aload_n 0, 1) := by decide +kernel
theorem dX9_numberAt_11 : decode cX9_numberAt 11 = .ok (.iload_n 1, 1) := by decide +kernel
theorem dX9_numberAt_12 : decode cX9_numberAt 12 = .ok (.iaload, 1) := by decide +kernel
theorem dX9_numberAt_13 : decode cX9_numberAt 13 = .ok (.goto 4, 3) := by decide +kernel
theorem dX9_numberAt_16 : decode cX9_numberAt 16 = .ok (.iconst 0, 1) := by decide +kernel
theorem dX9_numberAt_17 : decode cX9_numberAt 17 = .ok (.ireturn, 1) := by decide +kernel
theorem dX9_putAt_0 : decode cX9_putAt 0 = .ok (.iload_n 1, 1) := by decide +kernel
theorem dX9_putAt_1 : decode cX9_putAt 1 = .ok (.ifCond .lt 13, 3) := by decide +kernel
theorem dX9_putAt_4 : decode cX9_putAt 4 = .ok (.iload_n 1, 1) := by decide +kernel
theorem dX9_putAt_5 : decode cX9_putAt 5 = .ok (.aload_n 0, 1) := by decide +kernel
theorem dX9_putAt_6 : decode cX9_putAt 6 = .ok (.arraylength, 1) := by decide +kernel
theorem dX9_putAt_7 : decode cX9_putAt 7 = .ok (.if_icmp .ge 7, 3) := by decide +kernel
theorem dX9_putAt_10 : decode cX9_putAt 10 = .ok (.aload_n 0, 1) := by decide +kernel
theorem dX9_putAt_11 : decode cX9_putAt 11 = .ok (.iload_n 1, 1) := by decide +kernel
theorem dX9_putAt_12 : decode cX9_putAt 12 = .ok (.iload_n 2, 1) := by decide +kernel
theorem dX9_putAt_13 : decode cX9_putAt 13 = .ok (.iastore, 1) := by decide +kernel
theorem dX9_putAt_14 : decode cX9_putAt 14 = .ok (.return_, 1) := by decide +kernel
theorem dX10_init_0 : decode cX10_init 0 = .ok (.aload_n 0, 1) := by decide +kernel
theorem dX10_init_1 : decode cX10_init 1 = .ok (.invokespecial 1, 3) := by decide +kernel
theorem dX10_init_4 : decode cX10_init 4 = .ok (.aload_n 0, 1) := by decide +kernel
theorem dX10_init_5 : decode cX10_init 5 = .ok (.iconst 4, 1) := by decide +kernel
theorem dX10_init_6 : decode cX10_init 6 = .ok (.newarray .int, 2) := by decide +kernel
theorem dX10_init_8 : decode cX10_init 8 = .ok (.putfield 7, 3) := by decide +kernel
theorem dX10_init_11 : decode cX10_init 11 = .ok (.aload_n 0, 1) := by decide +kernel
theorem dX10_init_12 : decode cX10_init 12 = .ok (.iconst 4, 1) := by decide +kernel
theorem dX10_init_13 : decode cX10_init 13 = .ok (.newarray .int, 2) := by decide +kernel
theorem dX10_init_15 : decode cX10_init 15 = .ok (.putfield 13, 3) := by decide +kernel
theorem dX10_init_18 : decode cX10_init 18 = .ok (.aload_n 0, 1) := by decide +kernel
theorem dX10_init_19 : decode cX10_init 19 = .ok (.bipush 8, 2) := by decide +kernel
theorem dX10_init_21 : decode cX10_init 21 = .ok (.newarray .int, 2) := by decide +kernel
theorem dX10_init_23 : decode cX10_init 23 = .ok (.putfield 16, 3) := by decide +kernel
theorem dX10_init_26 : decode cX10_init 26 = .ok (.aload_n 0, 1) := by decide +kernel
theorem dX10_init_27 : decode cX10_init 27 = .ok (.iconst 4, 1) := by decide +kernel
theorem dX10_init_28 : decode cX10_init 28 = .ok (.newarray .int, 2) := by decide +kernel
theorem dX10_init_30 : decode cX10_init 30 = .ok (.putfield 19, 3) := by decide +kernel
theorem dX10_init_33 : decode cX10_init 33 = .ok (.aload_n 0, 1) := by decide +kernel
theorem dX10_init_34 : decode cX10_init 34 = .ok (.iconst 4, 1) := by decide +kernel
theorem dX10_init_35 : decode cX10_init 35 = .ok (.newarray .int, 2) := by decide +kernel
theorem dX10_init_37 : decode cX10_init 37 = .ok (.putfield 22, 3) := by decide +kernel
theorem dX10_init_40 : decode cX10_init 40 = .ok (.aload_n 0, 1) := by decide +kernel
theorem dX10_init_41 : decode cX10_init 41 = .ok (.iconst 4, 1) := by decide +kernel
theorem dX10_init_42 : decode cX10_init 42 = .ok (.newarray .int, 2) := by decide +kernel
theorem dX10_init_44 : decode cX10_init 44 = .ok (.putfield 25, 3) := by decide +kernel
theorem dX10_init_47 : decode cX10_init 47 = .ok (.aload_n 0, 1) := by decide +kernel
theorem dX10_init_48 : decode cX10_init 48 = .ok (.bipush 12, 2) := by decide +kernel
theorem dX10_init_50 : decode cX10_init 50 = .ok (.newarray .int, 2) := by decide +kernel
theorem dX10_init_52 : decode cX10_init 52 = .ok (.putfield 28, 3) := by decide +kernel
theorem dX10_init_55 : decode cX10_init 55 = .ok (.aload_n 0, 1) := by decide +kernel
theorem dX10_init_56 : decode cX10_init 56 = .ok (.bipush 12, 2) := by decide +kernel
theorem dX10_init_58 : decode cX10_init 58 = .ok (.newarray .int, 2) := by decide +kernel
theorem dX10_init_60 : decode cX10_init 60 = .ok (.putfield 31, 3) := by decide +kernel
theorem dX10_init_63 : decode cX10_init 63 = .ok (.aload_n 0, 1) := by decide +kernel
theorem dX10_init_64 : decode cX10_init 64 = .ok (.bipush 12, 2) := by decide +kernel
theorem dX10_init_66 : decode cX10_init 66 = .ok (.newarray .int, 2) := by decide +kernel
theorem dX10_init_68 : decode cX10_init 68 = .ok (.putfield 34, 3) := by decide +kernel
theorem dX10_init_71 : decode cX10_init 71 = .ok (.aload_n 0, 1) := by decide +kernel
theorem dX10_init_72 : decode cX10_init 72 = .ok (.bipush 12, 2) := by decide +kernel
theorem dX10_init_74 : decode cX10_init 74 = .ok (.newarray .int, 2) := by decide +kernel
theorem dX10_init_76 : decode cX10_init 76 = .ok (.putfield 37, 3) := by decide +kernel
theorem dX10_init_79 : decode cX10_init 79 = .ok (.aload_n 0, 1) := by decide +kernel
theorem dX10_init_80 : decode cX10_init 80 = .ok (.bipush 12, 2) := by decide +kernel
theorem dX10_init_82 : decode cX10_init 82 = .ok (.newarray .int, 2) := by decide +kernel
theorem dX10_init_84 : decode cX10_init 84 = .ok (.putfield 40, 3) := by decide +kernel
theorem dX10_init_87 : decode cX10_init 87 = .ok (.aload_n 0, 1) := by decide +kernel
theorem dX10_init_88 : decode cX10_init 88 = .ok (.bipush 12, 2) := by decide +kernel
theorem dX10_init_90 : decode cX10_init 90 = .ok (.newarray .int, 2) := by decide +kernel
theorem dX10_init_92 : decode cX10_init 92 = .ok (.putfield 43, 3) := by decide +kernel
theorem dX10_init_95 : decode cX10_init 95 = .ok (.aload_n 0, 1) := by decide +kernel
theorem dX10_init_96 : decode cX10_init 96 = .ok (.sipush 144, 3) := by decide +kernel
theorem dX10_init_99 : decode cX10_init 99 = .ok (.newarray .int, 2) := by decide +kernel
theorem dX10_init_101 : decode cX10_init 101 = .ok (.putfield 46, 3) := by decide +kernel
theorem dX10_init_104 : decode cX10_init 104 = .ok (.aload_n 0, 1) := by decide +kernel
theorem dX10_init_105 : decode cX10_init 105 = .ok (.bipush 8, 2) := by decide +kernel
theorem dX10_init_107 : decode cX10_init 107 = .ok (.newarray .int, 2) := by decide +kernel
theorem dX10_init_109 : decode cX10_init 109 = .ok (.putfield 49, 3) := by decide +kernel
theorem dX10_init_112 : decode cX10_init 112 = .ok (.aload_n 0, 1) := by decide +kernel
theorem dX10_init_113 : decode cX10_init 113 = .ok (.bipush 8, 2) := by decide +kernel
theorem dX10_init_115 : decode cX10_init 115 = .ok (.newarray .int, 2) := by decide +kernel
theorem dX10_init_117 : decode cX10_init 117 = .ok (.putfield 52, 3) := by decide +kernel
theorem dX10_init_120 : decode cX10_init 120 = .ok (.aload_n 0, 1) := by decide +kernel
theorem dX10_init_121 : decode cX10_init 121 = .ok (.bipush 8, 2) := by decide +kernel
theorem dX10_init_123 : decode cX10_init 123 = .ok (.newarray .int, 2) := by decide +kernel
theorem dX10_init_125 : decode cX10_init 125 = .ok (.putfield 55, 3) := by decide +kernel
theorem dX10_init_128 : decode cX10_init 128 = .ok (.aload_n 0, 1) := by decide +kernel
theorem dX10_init_129 : decode cX10_init 129 = .ok (.bipush 8, 2) := by decide +kernel
theorem dX10_init_131 : decode cX10_init 131 = .ok (.newarray .int, 2) := by decide +kernel
theorem dX10_init_133 : decode cX10_init 133 = .ok (.putfield 58, 3) := by decide +kernel
theorem dX10_init_136 : decode cX10_init 136 = .ok (.aload_n 0, 1) := by decide +kernel
theorem dX10_init_137 : decode cX10_init 137 = .ok (.bipush 8, 2) := by decide +kernel
theorem dX10_init_139 : decode cX10_init 139 = .ok (.newarray .int, 2) := by decide +kernel
theorem dX10_init_141 : decode cX10_init 141 = .ok (.putfield 61, 3) := by decide +kernel
theorem dX10_init_144 : decode cX10_init 144 = .ok (.aload_n 0, 1) := by decide +kernel
theorem dX10_init_145 : decode cX10_init 145 = .ok (.bipush 40, 2) := by decide +kernel
theorem dX10_init_147 : decode cX10_init 147 = .ok (.newarray .int, 2) := by decide +kernel
theorem dX10_init_149 : decode cX10_init 149 = .ok (.putfield 64, 3) := by decide +kernel
theorem dX10_init_152 : decode cX10_init 152 = .ok (.aload_n 0, 1) := by decide +kernel
theorem dX10_init_153 : decode cX10_init 153 = .ok (.bipush 40, 2) := by decide +kernel
theorem dX10_init_155 : decode cX10_init 155 = .ok (.newarray .int, 2) := by decide +kernel
theorem dX10_init_157 : decode cX10_init 157 = .ok (.putfield 67, 3) := by decide +kernel
theorem dX10_init_160 : decode cX10_init 160 = .ok (.aload_n 0, 1) := by decide +kernel
theorem dX10_init_161 : decode cX10_init 161 = .ok (.iconst 5, 1) := by decide +kernel
theorem dX10_init_162 : decode cX10_init 162 = .ok (.newarray .int, 2) := by decide +kernel
theorem dX10_init_164 : decode cX10_init 164 = .ok (.putfield 70, 3) := by decide +kernel
theorem dX10_init_167 : decode cX10_init 167 = .ok (.aload_n 0, 1) := by decide +kernel
theorem dX10_init_168 : decode cX10_init 168 = .ok (.iconst 5, 1) := by decide +kernel
theorem dX10_init_169 : decode cX10_init 169 = .ok (.newarray .int, 2) := by decide +kernel
theorem dX10_init_171 : decode cX10_init 171 = .ok (.putfield 73, 3) := by decide +kernel
theorem dX10_init_174 : decode cX10_init 174 = .ok (.aload_n 0, 1) := by decide +kernel
theorem dX10_init_175 : decode cX10_init 175 = .ok (.bipush 32, 2) := by decide +kernel
theorem dX10_init_177 : decode cX10_init 177 = .ok (.newarray .int, 2) := by decide +kernel
theorem dX10_init_179 : decode cX10_init 179 = .ok (.putfield 76, 3) := by decide +kernel
theorem dX10_init_182 : decode cX10_init 182 = .ok (.aload_n 0, 1) := by decide +kernel
theorem dX10_init_183 : decode cX10_init 183 = .ok (.iconst 0, 1) := by decide +kernel
theorem dX10_init_184 : decode cX10_init 184 = .ok (.putfield 79, 3) := by decide +kernel
theorem dX10_init_187 : decode cX10_init 187 = .ok (.aload_n 0, 1) := by decide +kernel
theorem dX10_init_188 : decode cX10_init 188 = .ok (.iconst 0, 1) := by decide +kernel
theorem dX10_init_189 : decode cX10_init 189 = .ok (.putfield 83, 3) := by decide +kernel
theorem dX10_init_192 : decode cX10_init 192 = .ok (.aload_n 0, 1) := by decide +kernel
theorem dX10_init_193 : decode cX10_init 193 = .ok (.iconst 0, 1) := by decide +kernel
theorem dX10_init_194 : decode cX10_init 194 = .ok (.putfield 86, 3) := by decide +kernel
theorem dX10_init_197 : decode cX10_init 197 = .ok (.aload_n 0, 1) := by decide +kernel
theorem dX10_init_198 : decode cX10_init 198 = .ok (.iconst 0, 1) := by decide +kernel
theorem dX10_init_199 : decode cX10_init 199 = .ok (.putfield 89, 3) := by decide +kernel
theorem dX10_init_202 : decode cX10_init 202 = .ok (.aload_n 0, 1) := by decide +kernel
theorem dX10_init_203 : decode cX10_init 203 = .ok (.iconst 0, 1) := by decide +kernel
theorem dX10_init_204 : decode cX10_init 204 = .ok (.putfield 92, 3) := by decide +kernel
theorem dX10_init_207 : decode cX10_init 207 = .ok (.aload_n 0, 1) := by decide +kernel
theorem dX10_init_208 : decode cX10_init 208 = .ok (.iconst 0, 1) := by decide +kernel
theorem dX10_init_209 : decode cX10_init 209 = .ok (.putfield 95, 3) := by decide +kernel
theorem dX10_init_212 : decode cX10_init 212 = .ok (.return_, 1) := by decide +kernel
theorem dX10_thrown_0 : decode cX10_thrown 0 = .ok (.aload_n 0, 1) := by decide +kernel
theorem dX10_thrown_1 : decode cX10_thrown 1 = .ok (.getfield 79, 3) := by decide +kernel
theorem dX10_thrown_4 : decode cX10_thrown 4 = .ok (.ireturn, 1) := by decide +kernel
theorem dX10_in_0 : decode cX10_in 0 = .ok (.iload_n 0, 1) := by decide +kernel
theorem dX10_in_1 : decode cX10_in 1 = .ok (.iload_n 1, 1) := by decide +kernel
theorem dX10_in_2 : decode cX10_in 2 = .ok (.if_icmp .lt 12, 3) := by decide +kernel
theorem dX10_in_5 : decode cX10_in 5 = .ok (.iload_n 0, 1) := by decide +kernel
theorem dX10_in_6 : decode cX10_in 6 = .ok (.iload_n 2, 1) := by decide +kernel
theorem dX10_in_7 : decode cX10_in 7 = .ok (.if_icmp .gt 7, 3) := by decide +kernel
theorem dX10_in_10 : decode cX10_in 10 = .ok (.iconst 1, 1) := by decide +kernel
theorem dX10_in_11 : decode cX10_in 11 = .ok (.goto 4, 3) := by decide +kernel
theorem dX10_in_14 : decode cX10_in 14 = .ok (.iconst 0, 1) := by decide +kernel
theorem dX10_in_15 : decode cX10_in 15 = .ok (.ireturn, 1) := by decide +kernel
theorem dX10_plain_0 : decode cX10_plain 0 = .ok (.aload_n 0, 1) := by decide +kernel
theorem dX10_plain_1 : decode cX10_plain 1 = .ok (.iconst 0, 1) := by decide +kernel
theorem dX10_plain_2 : decode cX10_plain 2 = .ok (.putfield 79, 3) := by decide +kernel
theorem dX10_plain_5 : decode cX10_plain 5 = .ok (.iload_n 1, 1) := by decide +kernel
theorem dX10_plain_6 : decode cX10_plain 6 = .ok (.ireturn, 1) := by decide +kernel
theorem dX10_checked_0 : decode cX10_checked 0 = .ok (.aload_n 0, 1) := by decide +kernel
theorem dX10_checked_1 : decode cX10_checked 1 = .ok (.iload_n 1, 1) := by decide +kernel
theorem dX10_checked_2 : decode cX10_checked 2 = .ok (.ifCond .eq 7, 3) := by decide +kernel
theorem dX10_checked_5 : decode cX10_checked 5 = .ok (.iconst 0, 1) := by decide +kernel
theorem dX10_checked_6 : decode cX10_checked 6 = .ok (.goto 4, 3) := by decide +kernel
theorem dX10_checked_9 : decode cX10_checked 9 = .ok (.iconst 1, 1) := by decide +kernel
theorem dX10_checked_10 : decode cX10_checked 10 = .ok (.putfield 79, 3) := by decide +kernel
theorem dX10_checked_13 : decode cX10_checked 13 = .ok (.aload_n 0, 1) := by decide +kernel
theorem dX10_checked_14 : decode cX10_checked 14 = .ok (.getfield 79, 3) := by decide +kernel
theorem dX10_checked_17 : decode cX10_checked 17 = .ok (.ireturn, 1) := by decide +kernel
theorem dX10_isRoom_0 : decode cX10_isRoom 0 = .ok (.iload_n 1, 1) := by decide +kernel
theorem dX10_isRoom_1 : decode cX10_isRoom 1 = .ok (.iconst 0, 1) := by decide +kernel
theorem dX10_isRoom_2 : decode cX10_isRoom 2 = .ok (.aload_n 0, 1) := by decide +kernel
theorem dX10_isRoom_3 : decode cX10_isRoom 3 = .ok (.getfield 83, 3) := by decide +kernel
theorem dX10_isRoom_6 : decode cX10_isRoom 6 = .ok (.iconst 1, 1) := by decide +kernel
theorem dX10_isRoom_7 : decode cX10_isRoom 7 = .ok (.isub, 1) := by decide +kernel
theorem dX10_isRoom_8 : decode cX10_isRoom 8 = .ok (.invokestatic 98, 3) := by decide +kernel
theorem dX10_isRoom_11 : decode cX10_isRoom 11 = .ok (.ireturn, 1) := by decide +kernel
theorem dX10_isWork_0 : decode cX10_isWork 0 = .ok (.iload_n 1, 1) := by decide +kernel
theorem dX10_isWork_1 : decode cX10_isWork 1 = .ok (.iconst 0, 1) := by decide +kernel
theorem dX10_isWork_2 : decode cX10_isWork 2 = .ok (.aload_n 0, 1) := by decide +kernel
theorem dX10_isWork_3 : decode cX10_isWork 3 = .ok (.getfield 89, 3) := by decide +kernel
theorem dX10_isWork_6 : decode cX10_isWork 6 = .ok (.iconst 1, 1) := by decide +kernel
theorem dX10_isWork_7 : decode cX10_isWork 7 = .ok (.isub, 1) := by decide +kernel
theorem dX10_isWork_8 : decode cX10_isWork 8 = .ok (.invokestatic 98, 3) := by decide +kernel
theorem dX10_isWork_11 : decode cX10_isWork 11 = .ok (.ireturn, 1) := by decide +kernel
theorem dX10_isExhibition_0 : decode cX10_isExhibition 0 = .ok (.iload_n 1, 1) := by decide +kernel
theorem dX10_isExhibition_1 : decode cX10_isExhibition 1 = .ok (.iconst 0, 1) := by decide +kernel
theorem dX10_isExhibition_2 : decode cX10_isExhibition 2 = .ok (.aload_n 0, 1) := by decide +kernel
theorem dX10_isExhibition_3 : decode cX10_isExhibition 3 = .ok (.getfield 92, 3) := by decide +kernel
theorem dX10_isExhibition_6 : decode cX10_isExhibition 6 = .ok (.iconst 1, 1) := by decide +kernel
theorem dX10_isExhibition_7 : decode cX10_isExhibition 7 = .ok (.isub, 1) := by decide +kernel
theorem dX10_isExhibition_8 : decode cX10_isExhibition 8 = .ok (.invokestatic 98, 3) := by decide +kernel
theorem dX10_isExhibition_11 : decode cX10_isExhibition 11 = .ok (.ireturn, 1) := by decide +kernel
theorem dX10_addRoom_0 : decode cX10_addRoom 0 = .ok (.aload_n 0, 1) := by decide +kernel
theorem dX10_addRoom_1 : decode cX10_addRoom 1 = .ok (.iload_n 1, 1) := by decide +kernel
theorem dX10_addRoom_2 : decode cX10_addRoom 2 = .ok (.iconst 0, 1) := by decide +kernel
theorem dX10_addRoom_3 : decode cX10_addRoom 3 = .ok (.bipush 100, 2) := by decide +kernel
theorem dX10_addRoom_5 : decode cX10_addRoom 5 = .ok (.invokestatic 98, 3) := by decide +kernel
theorem dX10_addRoom_8 : decode cX10_addRoom 8 = .ok (.ifCond .eq 36, 3) := by decide +kernel
theorem dX10_addRoom_11 : decode cX10_addRoom 11 = .ok (.iload_n 2, 1) := by decide +kernel
theorem dX10_addRoom_12 : decode cX10_addRoom 12 = .ok (.iconst 0, 1) := by decide +kernel
theorem dX10_addRoom_13 : decode cX10_addRoom 13 = .ok (.bipush 100, 2) := by decide +kernel
theorem dX10_addRoom_15 : decode cX10_addRoom 15 = .ok (.invokestatic 98, 3) := by decide +kernel
theorem dX10_addRoom_18 : decode cX10_addRoom 18 = .ok (.ifCond .eq 26, 3) := by decide +kernel
theorem dX10_addRoom_21 : decode cX10_addRoom 21 = .ok (.iload_n 3, 1) := by decide +kernel
theorem dX10_addRoom_22 : decode cX10_addRoom 22 = .ok (.iconst 1, 1) := by decide +kernel
theorem dX10_addRoom_23 : decode cX10_addRoom 23 = .ok (.sipush 400, 3) := by decide +kernel
theorem dX10_addRoom_26 : decode cX10_addRoom 26 = .ok (.invokestatic 98, 3) := by decide +kernel
theorem dX10_addRoom_29 : decode cX10_addRoom 29 = .ok (.ifCond .eq 15, 3) := by decide +kernel
theorem dX10_addRoom_32 : decode cX10_addRoom 32 = .ok (.iload 4, 2) := by decide +kernel
theorem dX10_addRoom_34 : decode cX10_addRoom 34 = .ok (.iconst 1, 1) := by decide +kernel
theorem dX10_addRoom_35 : decode cX10_addRoom 35 = .ok (.sipush 400, 3) := by decide +kernel
theorem dX10_addRoom_38 : decode cX10_addRoom 38 = .ok (.invokestatic 98, 3) := by decide +kernel
theorem dX10_addRoom_41 : decode cX10_addRoom 41 = .ok (.ifCond .ne 7, 3) := by decide +kernel
theorem dX10_addRoom_44 : decode cX10_addRoom 44 = .ok (.iconst 1, 1) := by decide +kernel
theorem dX10_addRoom_45 : decode cX10_addRoom 45 = .ok (.goto 16, 3) := by decide +kernel
theorem dX10_addRoom_48 : decode cX10_addRoom 48 = .ok (.aload_n 0, 1) := by decide +kernel
theorem dX10_addRoom_49 : decode cX10_addRoom 49 = .ok (.getfield 83, 3) := by decide +kernel
theorem dX10_addRoom_52 : decode cX10_addRoom 52 = .ok (.iconst 4, 1) := by decide +kernel
theorem dX10_addRoom_53 : decode cX10_addRoom 53 = .ok (.if_icmp .ne 7, 3) := by decide +kernel
theorem dX10_addRoom_56 : decode cX10_addRoom 56 = .ok (.iconst 2, 1) := by decide +kernel
theorem dX10_addRoom_57 : decode cX10_addRoom 57 = .ok (.goto 4, 3) := by decide +kernel
theorem dX10_addRoom_60 : decode cX10_addRoom 60 = .ok (.iconst 0, 1) := by decide +kernel
theorem dX10_addRoom_61 : decode cX10_addRoom 61 = .ok (.putfield 79, 3) := by decide +kernel
theorem dX10_addRoom_64 : decode cX10_addRoom 64 = .ok (.aload_n 0, 1) := by decide +kernel
theorem dX10_addRoom_65 : decode cX10_addRoom 65 = .ok (.getfield 79, 3) := by decide +kernel
theorem dX10_addRoom_68 : decode cX10_addRoom 68 = .ok (.ifCond .le 5, 3) := by decide +kernel
theorem dX10_addRoom_71 : decode cX10_addRoom 71 = .ok (.iconst 0, 1) := by decide +kernel
theorem dX10_addRoom_72 : decode cX10_addRoom 72 = .ok (.ireturn, 1) := by decide +kernel
theorem dX10_addRoom_73 : decode cX10_addRoom 73 = .ok (.aload_n 0, 1) := by decide +kernel
theorem dX10_addRoom_74 : decode cX10_addRoom 74 = .ok (.getfield 7, 3) := by decide +kernel
theorem dX10_addRoom_77 : decode cX10_addRoom 77 = .ok (.aload_n 0, 1) := by decide +kernel
theorem dX10_addRoom_78 : decode cX10_addRoom 78 = .ok (.getfield 83, 3) := by decide +kernel
theorem dX10_addRoom_81 : decode cX10_addRoom 81 = .ok (.iload_n 1, 1) := by decide +kernel
theorem dX10_addRoom_82 : decode cX10_addRoom 82 = .ok (.iastore, 1) := by decide +kernel
theorem dX10_addRoom_83 : decode cX10_addRoom 83 = .ok (.aload_n 0, 1) := by decide +kernel
theorem dX10_addRoom_84 : decode cX10_addRoom 84 = .ok (.getfield 13, 3) := by decide +kernel
theorem dX10_addRoom_87 : decode cX10_addRoom 87 = .ok (.aload_n 0, 1) := by decide +kernel
theorem dX10_addRoom_88 : decode cX10_addRoom 88 = .ok (.getfield 83, 3) := by decide +kernel
theorem dX10_addRoom_91 : decode cX10_addRoom 91 = .ok (.iload_n 2, 1) := by decide +kernel
theorem dX10_addRoom_92 : decode cX10_addRoom 92 = .ok (.iastore, 1) := by decide +kernel
theorem dX10_addRoom_93 : decode cX10_addRoom 93 = .ok (.aload_n 0, 1) := by decide +kernel
theorem dX10_addRoom_94 : decode cX10_addRoom 94 = .ok (.getfield 16, 3) := by decide +kernel
theorem dX10_addRoom_97 : decode cX10_addRoom 97 = .ok (.iconst 2, 1) := by decide +kernel
theorem dX10_addRoom_98 : decode cX10_addRoom 98 = .ok (.aload_n 0, 1) := by decide +kernel
theorem dX10_addRoom_99 : decode cX10_addRoom 99 = .ok (.getfield 83, 3) := by decide +kernel
theorem dX10_addRoom_102 : decode cX10_addRoom 102 = .ok (.imul, 1) := by decide +kernel
theorem dX10_addRoom_103 : decode cX10_addRoom 103 = .ok (.iload_n 3, 1) := by decide +kernel
theorem dX10_addRoom_104 : decode cX10_addRoom 104 = .ok (.iastore, 1) := by decide +kernel
theorem dX10_addRoom_105 : decode cX10_addRoom 105 = .ok (.aload_n 0, 1) := by decide +kernel
theorem dX10_addRoom_106 : decode cX10_addRoom 106 = .ok (.getfield 16, 3) := by decide +kernel
theorem dX10_addRoom_109 : decode cX10_addRoom 109 = .ok (.iconst 2, 1) := by decide +kernel
theorem dX10_addRoom_110 : decode cX10_addRoom 110 = .ok (.aload_n 0, 1) := by decide +kernel
theorem dX10_addRoom_111 : decode cX10_addRoom 111 = .ok (.getfield 83, 3) := by decide +kernel
theorem dX10_addRoom_114 : decode cX10_addRoom 114 = .ok (.imul, 1) := by decide +kernel
theorem dX10_addRoom_115 : decode cX10_addRoom 115 = .ok (.iconst 1, 1) := by decide +kernel
theorem dX10_addRoom_116 : decode cX10_addRoom 116 = .ok (.iadd, 1) := by decide +kernel
theorem dX10_addRoom_117 : decode cX10_addRoom 117 = .ok (.iload 4, 2) := by decide +kernel
theorem dX10_addRoom_119 : decode cX10_addRoom 119 = .ok (.iastore, 1) := by decide +kernel
theorem dX10_addRoom_120 : decode cX10_addRoom 120 = .ok (.aload_n 0, 1) := by decide +kernel
theorem dX10_addRoom_121 : decode cX10_addRoom 121 = .ok (.dup, 1) := by decide +kernel
theorem dX10_addRoom_122 : decode cX10_addRoom 122 = .ok (.getfield 83, 3) := by decide +kernel
theorem dX10_addRoom_125 : decode cX10_addRoom 125 = .ok (.iconst 1, 1) := by decide +kernel
theorem dX10_addRoom_126 : decode cX10_addRoom 126 = .ok (.iadd, 1) := by decide +kernel
theorem dX10_addRoom_127 : decode cX10_addRoom 127 = .ok (.putfield 83, 3) := by decide +kernel
theorem dX10_addRoom_130 : decode cX10_addRoom 130 = .ok (.aload_n 0, 1) := by decide +kernel
theorem dX10_addRoom_131 : decode cX10_addRoom 131 = .ok (.invokevirtual 102, 3) := by decide +kernel
theorem dX10_addRoom_134 : decode cX10_addRoom 134 = .ok (.istore 5, 2) := by decide +kernel
theorem dX10_addRoom_136 : decode cX10_addRoom 136 = .ok (.aload_n 0, 1) := by decide +kernel
theorem dX10_addRoom_137 : decode cX10_addRoom 137 = .ok (.getfield 83, 3) := by decide +kernel
theorem dX10_addRoom_140 : decode cX10_addRoom 140 = .ok (.iconst 1, 1) := by decide +kernel
theorem dX10_addRoom_141 : decode cX10_addRoom 141 = .ok (.isub, 1) := by decide +kernel
theorem dX10_addRoom_142 : decode cX10_addRoom 142 = .ok (.ireturn, 1) := by decide +kernel
theorem dX10_hangsWhere_0 : decode cX10_hangsWhere 0 = .ok (.aload_n 0, 1) := by decide +kernel
theorem dX10_hangsWhere_1 : decode cX10_hangsWhere 1 = .ok (.getfield 7, 3) := by decide +kernel
theorem dX10_hangsWhere_4 : decode cX10_hangsWhere 4 = .ok (.iload_n 2, 1) := by decide +kernel
theorem dX10_hangsWhere_5 : decode cX10_hangsWhere 5 = .ok (.iaload, 1) := by decide +kernel
theorem dX10_hangsWhere_6 : decode cX10_hangsWhere 6 = .ok (.aload_n 0, 1) := by decide +kernel
theorem dX10_hangsWhere_7 : decode cX10_hangsWhere 7 = .ok (.getfield 31, 3) := by decide +kernel
theorem dX10_hangsWhere_10 : decode cX10_hangsWhere 10 = .ok (.iload_n 1, 1) := by decide +kernel
theorem dX10_hangsWhere_11 : decode cX10_hangsWhere 11 = .ok (.iaload, 1) := by decide +kernel
theorem dX10_hangsWhere_12 : decode cX10_hangsWhere 12 = .ok (.aload_n 0, 1) := by decide +kernel
theorem dX10_hangsWhere_13 : decode cX10_hangsWhere 13 = .ok (.getfield 34, 3) := by decide +kernel
theorem dX10_hangsWhere_16 : decode cX10_hangsWhere 16 = .ok (.iload_n 1, 1) := by decide +kernel
theorem dX10_hangsWhere_17 : decode cX10_hangsWhere 17 = .ok (.iaload, 1) := by decide +kernel
theorem dX10_hangsWhere_18 : decode cX10_hangsWhere 18 = .ok (.invokestatic 98, 3) := by decide +kernel
theorem dX10_hangsWhere_21 : decode cX10_hangsWhere 21 = .ok (.ifCond .eq 22, 3) := by decide +kernel
theorem dX10_hangsWhere_24 : decode cX10_hangsWhere 24 = .ok (.aload_n 0, 1) := by decide +kernel
theorem dX10_hangsWhere_25 : decode cX10_hangsWhere 25 = .ok (.getfield 13, 3) := by decide +kernel
theorem dX10_hangsWhere_28 : decode cX10_hangsWhere 28 = .ok (.iload_n 2, 1) := by decide +kernel
theorem dX10_hangsWhere_29 : decode cX10_hangsWhere 29 = .ok (.iaload, 1) := by decide +kernel
theorem dX10_hangsWhere_30 : decode cX10_hangsWhere 30 = .ok (.aload_n 0, 1) := by decide +kernel
theorem dX10_hangsWhere_31 : decode cX10_hangsWhere 31 = .ok (.getfield 37, 3) := by decide +kernel
theorem dX10_hangsWhere_34 : decode cX10_hangsWhere 34 = .ok (.iload_n 1, 1) := by decide +kernel
theorem dX10_hangsWhere_35 : decode cX10_hangsWhere 35 = .ok (.iaload, 1) := by decide +kernel
theorem dX10_hangsWhere_36 : decode cX10_hangsWhere 36 = .ok (.if_icmp .gt 7, 3) := by decide +kernel
theorem dX10_hangsWhere_39 : decode cX10_hangsWhere 39 = .ok (.iconst 1, 1) := by decide +kernel
theorem dX10_hangsWhere_40 : decode cX10_hangsWhere 40 = .ok (.goto 4, 3) := by decide +kernel
theorem dX10_hangsWhere_43 : decode cX10_hangsWhere 43 = .ok (.iconst 0, 1) := by decide +kernel
theorem dX10_hangsWhere_44 : decode cX10_hangsWhere 44 = .ok (.ireturn, 1) := by decide +kernel
theorem dX10_isSpoiled_0 : decode cX10_isSpoiled 0 = .ok (.iconst 0, 1) := by decide +kernel
theorem dX10_isSpoiled_1 : decode cX10_isSpoiled 1 = .ok (.istore_n 2, 1) := by decide +kernel
theorem dX10_isSpoiled_2 : decode cX10_isSpoiled 2 = .ok (.iload_n 2, 1) := by decide +kernel
theorem dX10_isSpoiled_3 : decode cX10_isSpoiled 3 = .ok (.aload_n 0, 1) := by decide +kernel
theorem dX10_isSpoiled_4 : decode cX10_isSpoiled 4 = .ok (.getfield 61, 3) := by decide +kernel
theorem dX10_isSpoiled_7 : decode cX10_isSpoiled 7 = .ok (.iload_n 1, 1) := by decide +kernel
theorem dX10_isSpoiled_8 : decode cX10_isSpoiled 8 = .ok (.iaload, 1) := by decide +kernel
theorem dX10_isSpoiled_9 : decode cX10_isSpoiled 9 = .ok (.if_icmp .ge 40, 3) := by decide +kernel
theorem dX10_isSpoiled_12 : decode cX10_isSpoiled 12 = .ok (.aload_n 0, 1) := by decide +kernel
theorem dX10_isSpoiled_13 : decode cX10_isSpoiled 13 = .ok (.aload_n 0, 1) := by decide +kernel
theorem dX10_isSpoiled_14 : decode cX10_isSpoiled 14 = .ok (.getfield 64, 3) := by decide +kernel
theorem dX10_isSpoiled_17 : decode cX10_isSpoiled 17 = .ok (.iconst 5, 1) := by decide +kernel
theorem dX10_isSpoiled_18 : decode cX10_isSpoiled 18 = .ok (.iload_n 1, 1) := by decide +kernel
theorem dX10_isSpoiled_19 : decode cX10_isSpoiled 19 = .ok (.imul, 1) := by decide +kernel
theorem dX10_isSpoiled_20 : decode cX10_isSpoiled 20 = .ok (.iload_n 2, 1) := by decide +kernel
theorem dX10_isSpoiled_21 : decode cX10_isSpoiled 21 = .ok (.iadd, 1) := by decide +kernel
theorem dX10_isSpoiled_22 : decode cX10_isSpoiled 22 = .ok (.iaload, 1) := by decide +kernel
theorem dX10_isSpoiled_23 : decode cX10_isSpoiled 23 = .ok (.aload_n 0, 1) := by decide +kernel
theorem dX10_isSpoiled_24 : decode cX10_isSpoiled 24 = .ok (.getfield 67, 3) := by decide +kernel
theorem dX10_isSpoiled_27 : decode cX10_isSpoiled 27 = .ok (.iconst 5, 1) := by decide +kernel
theorem dX10_isSpoiled_28 : decode cX10_isSpoiled 28 = .ok (.iload_n 1, 1) := by decide +kernel
theorem dX10_isSpoiled_29 : decode cX10_isSpoiled 29 = .ok (.imul, 1) := by decide +kernel
theorem dX10_isSpoiled_30 : decode cX10_isSpoiled 30 = .ok (.iload_n 2, 1) := by decide +kernel
theorem dX10_isSpoiled_31 : decode cX10_isSpoiled 31 = .ok (.iadd, 1) := by decide +kernel
theorem dX10_isSpoiled_32 : decode cX10_isSpoiled 32 = .ok (.iaload, 1) := by decide +kernel
theorem dX10_isSpoiled_33 : decode cX10_isSpoiled 33 = .ok (.iconst 2, 1) := by decide +kernel
theorem dX10_isSpoiled_34 : decode cX10_isSpoiled 34 = .ok (.idiv, 1) := by decide +kernel
theorem dX10_isSpoiled_35 : decode cX10_isSpoiled 35 = .ok (.invokevirtual 106, 3) := by decide +kernel
theorem dX10_isSpoiled_38 : decode cX10_isSpoiled 38 = .ok (.ifCond .ne 5, 3) := by decide +kernel
theorem dX10_isSpoiled_41 : decode cX10_isSpoiled 41 = .ok (.iconst 1, 1) := by decide +kernel
theorem dX10_isSpoiled_42 : decode cX10_isSpoiled 42 = .ok (.ireturn, 1) := by decide +kernel
theorem dX10_isSpoiled_43 : decode cX10_isSpoiled 43 = .ok (.iinc 2 1, 3) := by decide +kernel
theorem dX10_isSpoiled_46 : decode cX10_isSpoiled 46 = .ok (.goto (-44), 3) := by decide +kernel
theorem dX10_isSpoiled_49 : decode cX10_isSpoiled 49 = .ok (.iconst 0, 1) := by decide +kernel
theorem dX10_isSpoiled_50 : decode cX10_isSpoiled 50 = .ok (.ireturn, 1) := by decide +kernel
theorem dX10_setClimate_0 : decode cX10_setClimate 0 = .ok (.aload_n 0, 1) := by decide +kernel
theorem dX10_setClimate_1 : decode cX10_setClimate 1 = .ok (.aload_n 0, 1) := by decide +kernel
theorem dX10_setClimate_2 : decode cX10_setClimate 2 = .ok (.iload_n 1, 1) := by decide +kernel
theorem dX10_setClimate_3 : decode cX10_setClimate 3 = .ok (.invokevirtual 110, 3) := by decide +kernel
theorem dX10_setClimate_6 : decode cX10_setClimate 6 = .ok (.ifCond .ne 7, 3) := by decide +kernel
theorem dX10_setClimate_9 : decode cX10_setClimate 9 = .ok (.iconst 1, 1) := by decide +kernel
theorem dX10_setClimate_10 : decode cX10_setClimate 10 = .ok (.goto 28, 3) := by decide +kernel
theorem dX10_setClimate_13 : decode cX10_setClimate 13 = .ok (.iload_n 2, 1) := by decide +kernel
theorem dX10_setClimate_14 : decode cX10_setClimate 14 = .ok (.iconst 0, 1) := by decide +kernel
theorem dX10_setClimate_15 : decode cX10_setClimate 15 = .ok (.bipush 100, 2) := by decide +kernel
theorem dX10_setClimate_17 : decode cX10_setClimate 17 = .ok (.invokestatic 98, 3) := by decide +kernel
theorem dX10_setClimate_20 : decode cX10_setClimate 20 = .ok (.ifCond .eq 13, 3) := by decide +kernel
theorem dX10_setClimate_23 : decode cX10_setClimate 23 = .ok (.iload_n 3, 1) := by decide +kernel
theorem dX10_setClimate_24 : decode cX10_setClimate 24 = .ok (.iconst 0, 1) := by decide +kernel
theorem dX10_setClimate_25 : decode cX10_setClimate 25 = .ok (.bipush 100, 2) := by decide +kernel
theorem dX10_setClimate_27 : decode cX10_setClimate 27 = .ok (.invokestatic 98, 3) := by decide +kernel
theorem dX10_setClimate_30 : decode cX10_setClimate 30 = .ok (.ifCond .ne 7, 3) := by decide +kernel
theorem dX10_setClimate_33 : decode cX10_setClimate 33 = .ok (.iconst 2, 1) := by decide +kernel
theorem dX10_setClimate_34 : decode cX10_setClimate 34 = .ok (.goto 4, 3) := by decide +kernel
theorem dX10_setClimate_37 : decode cX10_setClimate 37 = .ok (.iconst 0, 1) := by decide +kernel
theorem dX10_setClimate_38 : decode cX10_setClimate 38 = .ok (.putfield 79, 3) := by decide +kernel
theorem dX10_setClimate_41 : decode cX10_setClimate 41 = .ok (.aload_n 0, 1) := by decide +kernel
theorem dX10_setClimate_42 : decode cX10_setClimate 42 = .ok (.getfield 79, 3) := by decide +kernel
theorem dX10_setClimate_45 : decode cX10_setClimate 45 = .ok (.ifCond .le 5, 3) := by decide +kernel
theorem dX10_setClimate_48 : decode cX10_setClimate 48 = .ok (.iconst 0, 1) := by decide +kernel
theorem dX10_setClimate_49 : decode cX10_setClimate 49 = .ok (.ireturn, 1) := by decide +kernel
theorem dX10_setClimate_50 : decode cX10_setClimate 50 = .ok (.aload_n 0, 1) := by decide +kernel
theorem dX10_setClimate_51 : decode cX10_setClimate 51 = .ok (.getfield 7, 3) := by decide +kernel
theorem dX10_setClimate_54 : decode cX10_setClimate 54 = .ok (.iload_n 1, 1) := by decide +kernel
theorem dX10_setClimate_55 : decode cX10_setClimate 55 = .ok (.iload_n 2, 1) := by decide +kernel
theorem dX10_setClimate_56 : decode cX10_setClimate 56 = .ok (.iastore, 1) := by decide +kernel
theorem dX10_setClimate_57 : decode cX10_setClimate 57 = .ok (.aload_n 0, 1) := by decide +kernel
theorem dX10_setClimate_58 : decode cX10_setClimate 58 = .ok (.getfield 13, 3) := by decide +kernel
theorem dX10_setClimate_61 : decode cX10_setClimate 61 = .ok (.iload_n 1, 1) := by decide +kernel
theorem dX10_setClimate_62 : decode cX10_setClimate 62 = .ok (.iload_n 3, 1) := by decide +kernel
theorem dX10_setClimate_63 : decode cX10_setClimate 63 = .ok (.iastore, 1) := by decide +kernel
theorem dX10_setClimate_64 : decode cX10_setClimate 64 = .ok (.iconst 0, 1) := by decide +kernel
theorem dX10_setClimate_65 : decode cX10_setClimate 65 = .ok (.istore 4, 2) := by decide +kernel
theorem dX10_setClimate_67 : decode cX10_setClimate 67 = .ok (.iconst 0, 1) := by decide +kernel
theorem dX10_setClimate_68 : decode cX10_setClimate 68 = .ok (.istore 5, 2) := by decide +kernel
theorem dX10_setClimate_70 : decode cX10_setClimate 70 = .ok (.iload 5, 2) := by decide +kernel
theorem dX10_setClimate_72 : decode cX10_setClimate 72 = .ok (.aload_n 0, 1) := by decide +kernel
theorem dX10_setClimate_73 : decode cX10_setClimate 73 = .ok (.getfield 92, 3) := by decide +kernel
theorem dX10_setClimate_76 : decode cX10_setClimate 76 = .ok (.if_icmp .ge 45, 3) := by decide +kernel
theorem dX10_setClimate_79 : decode cX10_setClimate 79 = .ok (.aload_n 0, 1) := by decide +kernel
theorem dX10_setClimate_80 : decode cX10_setClimate 80 = .ok (.getfield 58, 3) := by decide +kernel
theorem dX10_setClimate_83 : decode cX10_setClimate 83 = .ok (.iload 5, 2) := by decide +kernel
theorem dX10_setClimate_85 : decode cX10_setClimate 85 = .ok (.iaload, 1) := by decide +kernel
theorem dX10_setClimate_86 : decode cX10_setClimate 86 = .ok (.bipush 112, 2) := by decide +kernel
theorem dX10_setClimate_88 : decode cX10_setClimate 88 = .ok (.if_icmp .ne 27, 3) := by decide +kernel
theorem dX10_setClimate_91 : decode cX10_setClimate 91 = .ok (.aload_n 0, 1) := by decide +kernel
theorem dX10_setClimate_92 : decode cX10_setClimate 92 = .ok (.iload 5, 2) := by decide +kernel
theorem dX10_setClimate_94 : decode cX10_setClimate 94 = .ok (.invokevirtual 114, 3) := by decide +kernel
theorem dX10_setClimate_97 : decode cX10_setClimate 97 = .ok (.ifCond .ne 6, 3) := by decide +kernel
theorem dX10_setClimate_100 : decode cX10_setClimate 100 = .ok (.goto 15, 3) := by decide +kernel
theorem dX10_setClimate_103 : decode cX10_setClimate 103 = .ok (.aload_n 0, 1) := by decide +kernel
theorem dX10_setClimate_104 : decode cX10_setClimate 104 = .ok (.getfield 58, 3) := by decide +kernel
theorem dX10_setClimate_107 : decode cX10_setClimate 107 = .ok (.iload 5, 2) := by decide +kernel
theorem dX10_setClimate_109 : decode cX10_setClimate 109 = .ok (.bipush 119, 2) := by decide +kernel
theorem dX10_setClimate_111 : decode cX10_setClimate 111 = .ok (.iastore, 1) := by decide +kernel
theorem dX10_setClimate_112 : decode cX10_setClimate 112 = .ok (.iinc 4 1, 3) := by decide +kernel
theorem dX10_setClimate_115 : decode cX10_setClimate 115 = .ok (.iinc 5 1, 3) := by decide +kernel
theorem dX10_setClimate_118 : decode cX10_setClimate 118 = .ok (.goto (-48), 3) := by decide +kernel
theorem dX10_setClimate_121 : decode cX10_setClimate 121 = .ok (.aload_n 0, 1) := by decide +kernel
theorem dX10_setClimate_122 : decode cX10_setClimate 122 = .ok (.invokevirtual 102, 3) := by decide +kernel
theorem dX10_setClimate_125 : decode cX10_setClimate 125 = .ok (.istore 5, 2) := by decide +kernel
theorem dX10_setClimate_127 : decode cX10_setClimate 127 = .ok (.iload 4, 2) := by decide +kernel
theorem dX10_setClimate_129 : decode cX10_setClimate 129 = .ok (.ireturn, 1) := by decide +kernel
theorem dX10_addLender_0 : decode cX10_addLender 0 = .ok (.aload_n 0, 1) := by decide +kernel
theorem dX10_addLender_1 : decode cX10_addLender 1 = .ok (.iload_n 1, 1) := by decide +kernel
theorem dX10_addLender_2 : decode cX10_addLender 2 = .ok (.iconst 1, 1) := by decide +kernel
theorem dX10_addLender_3 : decode cX10_addLender 3 = .ok (.sipush 9999, 3) := by decide +kernel
theorem dX10_addLender_6 : decode cX10_addLender 6 = .ok (.invokestatic 98, 3) := by decide +kernel
theorem dX10_addLender_9 : decode cX10_addLender 9 = .ok (.ifCond .eq 23, 3) := by decide +kernel
theorem dX10_addLender_12 : decode cX10_addLender 12 = .ok (.iload_n 2, 1) := by decide +kernel
theorem dX10_addLender_13 : decode cX10_addLender 13 = .ok (.iconst 0, 1) := by decide +kernel
theorem dX10_addLender_14 : decode cX10_addLender 14 = .ok (.bipush 9, 2) := by decide +kernel
theorem dX10_addLender_16 : decode cX10_addLender 16 = .ok (.invokestatic 98, 3) := by decide +kernel
theorem dX10_addLender_19 : decode cX10_addLender 19 = .ok (.ifCond .eq 13, 3) := by decide +kernel
theorem dX10_addLender_22 : decode cX10_addLender 22 = .ok (.iload_n 3, 1) := by decide +kernel
theorem dX10_addLender_23 : decode cX10_addLender 23 = .ok (.iconst 1, 1) := by decide +kernel
theorem dX10_addLender_24 : decode cX10_addLender 24 = .ok (.bipush 100, 2) := by decide +kernel
theorem dX10_addLender_26 : decode cX10_addLender 26 = .ok (.invokestatic 98, 3) := by decide +kernel
theorem dX10_addLender_29 : decode cX10_addLender 29 = .ok (.ifCond .ne 7, 3) := by decide +kernel
theorem dX10_addLender_32 : decode cX10_addLender 32 = .ok (.iconst 1, 1) := by decide +kernel
theorem dX10_addLender_33 : decode cX10_addLender 33 = .ok (.goto 16, 3) := by decide +kernel
theorem dX10_addLender_36 : decode cX10_addLender 36 = .ok (.aload_n 0, 1) := by decide +kernel
theorem dX10_addLender_37 : decode cX10_addLender 37 = .ok (.getfield 86, 3) := by decide +kernel
theorem dX10_addLender_40 : decode cX10_addLender 40 = .ok (.iconst 4, 1) := by decide +kernel
theorem dX10_addLender_41 : decode cX10_addLender 41 = .ok (.if_icmp .ne 7, 3) := by decide +kernel
theorem dX10_addLender_44 : decode cX10_addLender 44 = .ok (.iconst 2, 1) := by decide +kernel
theorem dX10_addLender_45 : decode cX10_addLender 45 = .ok (.goto 4, 3) := by decide +kernel
theorem dX10_addLender_48 : decode cX10_addLender 48 = .ok (.iconst 0, 1) := by decide +kernel
theorem dX10_addLender_49 : decode cX10_addLender 49 = .ok (.putfield 79, 3) := by decide +kernel
theorem dX10_addLender_52 : decode cX10_addLender 52 = .ok (.aload_n 0, 1) := by decide +kernel
theorem dX10_addLender_53 : decode cX10_addLender 53 = .ok (.getfield 79, 3) := by decide +kernel
theorem dX10_addLender_56 : decode cX10_addLender 56 = .ok (.ifCond .le 5, 3) := by decide +kernel
theorem dX10_addLender_59 : decode cX10_addLender 59 = .ok (.iconst 0, 1) := by decide +kernel
theorem dX10_addLender_60 : decode cX10_addLender 60 = .ok (.ireturn, 1) := by decide +kernel
theorem dX10_addLender_61 : decode cX10_addLender 61 = .ok (.aload_n 0, 1) := by decide +kernel
theorem dX10_addLender_62 : decode cX10_addLender 62 = .ok (.getfield 19, 3) := by decide +kernel
theorem dX10_addLender_65 : decode cX10_addLender 65 = .ok (.aload_n 0, 1) := by decide +kernel
theorem dX10_addLender_66 : decode cX10_addLender 66 = .ok (.getfield 86, 3) := by decide +kernel
theorem dX10_addLender_69 : decode cX10_addLender 69 = .ok (.iload_n 1, 1) := by decide +kernel
theorem dX10_addLender_70 : decode cX10_addLender 70 = .ok (.iastore, 1) := by decide +kernel
theorem dX10_addLender_71 : decode cX10_addLender 71 = .ok (.aload_n 0, 1) := by decide +kernel
theorem dX10_addLender_72 : decode cX10_addLender 72 = .ok (.getfield 22, 3) := by decide +kernel
theorem dX10_addLender_75 : decode cX10_addLender 75 = .ok (.aload_n 0, 1) := by decide +kernel
theorem dX10_addLender_76 : decode cX10_addLender 76 = .ok (.getfield 86, 3) := by decide +kernel
theorem dX10_addLender_79 : decode cX10_addLender 79 = .ok (.iload_n 2, 1) := by decide +kernel
theorem dX10_addLender_80 : decode cX10_addLender 80 = .ok (.iastore, 1) := by decide +kernel
theorem dX10_addLender_81 : decode cX10_addLender 81 = .ok (.aload_n 0, 1) := by decide +kernel
theorem dX10_addLender_82 : decode cX10_addLender 82 = .ok (.getfield 25, 3) := by decide +kernel
theorem dX10_addLender_85 : decode cX10_addLender 85 = .ok (.aload_n 0, 1) := by decide +kernel
theorem dX10_addLender_86 : decode cX10_addLender 86 = .ok (.getfield 86, 3) := by decide +kernel
theorem dX10_addLender_89 : decode cX10_addLender 89 = .ok (.iload_n 3, 1) := by decide +kernel
theorem dX10_addLender_90 : decode cX10_addLender 90 = .ok (.iastore, 1) := by decide +kernel
theorem dX10_addLender_91 : decode cX10_addLender 91 = .ok (.aload_n 0, 1) := by decide +kernel
theorem dX10_addLender_92 : decode cX10_addLender 92 = .ok (.dup, 1) := by decide +kernel
theorem dX10_addLender_93 : decode cX10_addLender 93 = .ok (.getfield 86, 3) := by decide +kernel
theorem dX10_addLender_96 : decode cX10_addLender 96 = .ok (.iconst 1, 1) := by decide +kernel
theorem dX10_addLender_97 : decode cX10_addLender 97 = .ok (.iadd, 1) := by decide +kernel
theorem dX10_addLender_98 : decode cX10_addLender 98 = .ok (.putfield 86, 3) := by decide +kernel
theorem dX10_addLender_101 : decode cX10_addLender 101 = .ok (.aload_n 0, 1) := by decide +kernel
theorem dX10_addLender_102 : decode cX10_addLender 102 = .ok (.getfield 86, 3) := by decide +kernel
theorem dX10_addLender_105 : decode cX10_addLender 105 = .ok (.iconst 1, 1) := by decide +kernel
theorem dX10_addLender_106 : decode cX10_addLender 106 = .ok (.isub, 1) := by decide +kernel
theorem dX10_addLender_107 : decode cX10_addLender 107 = .ok (.ireturn, 1) := by decide +kernel
theorem dX10_addWork_0 : decode cX10_addWork 0 = .ok (.iload_n 1, 1) := by decide +kernel
theorem dX10_addWork_1 : decode cX10_addWork 1 = .ok (.iconst 1, 1) := by decide +kernel
theorem dX10_addWork_2 : decode cX10_addWork 2 = .ok (.sipush 200, 3) := by decide +kernel
theorem dX10_addWork_5 : decode cX10_addWork 5 = .ok (.invokestatic 98, 3) := by decide +kernel
theorem dX10_addWork_8 : decode cX10_addWork 8 = .ok (.ifCond .eq 65, 3) := by decide +kernel
theorem dX10_addWork_11 : decode cX10_addWork 11 = .ok (.iload_n 2, 1) := by decide +kernel
theorem dX10_addWork_12 : decode cX10_addWork 12 = .ok (.iconst 0, 1) := by decide +kernel
theorem dX10_addWork_13 : decode cX10_addWork 13 = .ok (.bipush 100, 2) := by decide +kernel
theorem dX10_addWork_15 : decode cX10_addWork 15 = .ok (.invokestatic 98, 3) := by decide +kernel
theorem dX10_addWork_18 : decode cX10_addWork 18 = .ok (.ifCond .eq 55, 3) := by decide +kernel
theorem dX10_addWork_21 : decode cX10_addWork 21 = .ok (.iload_n 3, 1) := by decide +kernel
theorem dX10_addWork_22 : decode cX10_addWork 22 = .ok (.iload_n 2, 1) := by decide +kernel
theorem dX10_addWork_23 : decode cX10_addWork 23 = .ok (.bipush 100, 2) := by decide +kernel
theorem dX10_addWork_25 : decode cX10_addWork 25 = .ok (.invokestatic 98, 3) := by decide +kernel
theorem dX10_addWork_28 : decode cX10_addWork 28 = .ok (.ifCond .eq 45, 3) := by decide +kernel
theorem dX10_addWork_31 : decode cX10_addWork 31 = .ok (.iload 4, 2) := by decide +kernel
theorem dX10_addWork_33 : decode cX10_addWork 33 = .ok (.iconst 0, 1) := by decide +kernel
theorem dX10_addWork_34 : decode cX10_addWork 34 = .ok (.bipush 100, 2) := by decide +kernel
theorem dX10_addWork_36 : decode cX10_addWork 36 = .ok (.invokestatic 98, 3) := by decide +kernel
theorem dX10_addWork_39 : decode cX10_addWork 39 = .ok (.ifCond .eq 34, 3) := by decide +kernel
theorem dX10_addWork_42 : decode cX10_addWork 42 = .ok (.iload 5, 2) := by decide +kernel
theorem dX10_addWork_44 : decode cX10_addWork 44 = .ok (.iconst 1, 1) := by decide +kernel
theorem dX10_addWork_45 : decode cX10_addWork 45 = .ok (.sipush 999, 3) := by decide +kernel
theorem dX10_addWork_48 : decode cX10_addWork 48 = .ok (.invokestatic 98, 3) := by decide +kernel
theorem dX10_addWork_51 : decode cX10_addWork 51 = .ok (.ifCond .eq 22, 3) := by decide +kernel
theorem dX10_addWork_54 : decode cX10_addWork 54 = .ok (.iload 6, 2) := by decide +kernel
theorem dX10_addWork_56 : decode cX10_addWork 56 = .ok (.iconst (-1), 1) := by decide +kernel
theorem dX10_addWork_57 : decode cX10_addWork 57 = .ok (.aload_n 0, 1) := by decide +kernel
theorem dX10_addWork_58 : decode cX10_addWork 58 = .ok (.getfield 86, 3) := by decide +kernel
theorem dX10_addWork_61 : decode cX10_addWork 61 = .ok (.iconst 1, 1) := by decide +kernel
theorem dX10_addWork_62 : decode cX10_addWork 62 = .ok (.isub, 1) := by decide +kernel
theorem dX10_addWork_63 : decode cX10_addWork 63 = .ok (.invokestatic 98, 3) := by decide +kernel
theorem dX10_addWork_66 : decode cX10_addWork 66 = .ok (.ifCond .eq 7, 3) := by decide +kernel
theorem dX10_addWork_69 : decode cX10_addWork 69 = .ok (.iconst 1, 1) := by decide +kernel
theorem dX10_addWork_70 : decode cX10_addWork 70 = .ok (.goto 4, 3) := by decide +kernel
theorem dX10_addWork_73 : decode cX10_addWork 73 = .ok (.iconst 0, 1) := by decide +kernel
theorem dX10_addWork_74 : decode cX10_addWork 74 = .ok (.istore 7, 2) := by decide +kernel
theorem dX10_addWork_76 : decode cX10_addWork 76 = .ok (.aload_n 0, 1) := by decide +kernel
theorem dX10_addWork_77 : decode cX10_addWork 77 = .ok (.iload 7, 2) := by decide +kernel
theorem dX10_addWork_79 : decode cX10_addWork 79 = .ok (.ifCond .ne 7, 3) := by decide +kernel
theorem dX10_addWork_82 : decode cX10_addWork 82 = .ok (.iconst 1, 1) := by decide +kernel
theorem dX10_addWork_83 : decode cX10_addWork 83 = .ok (.goto 17, 3) := by decide +kernel
theorem dX10_addWork_86 : decode cX10_addWork 86 = .ok (.aload_n 0, 1) := by decide +kernel
theorem dX10_addWork_87 : decode cX10_addWork 87 = .ok (.getfield 89, 3) := by decide +kernel
theorem dX10_addWork_90 : decode cX10_addWork 90 = .ok (.bipush 12, 2) := by decide +kernel
theorem dX10_addWork_92 : decode cX10_addWork 92 = .ok (.if_icmp .ne 7, 3) := by decide +kernel
theorem dX10_addWork_95 : decode cX10_addWork 95 = .ok (.iconst 2, 1) := by decide +kernel
theorem dX10_addWork_96 : decode cX10_addWork 96 = .ok (.goto 4, 3) := by decide +kernel
theorem dX10_addWork_99 : decode cX10_addWork 99 = .ok (.iconst 0, 1) := by decide +kernel
theorem dX10_addWork_100 : decode cX10_addWork 100 = .ok (.putfield 79, 3) := by decide +kernel
theorem dX10_addWork_103 : decode cX10_addWork 103 = .ok (.aload_n 0, 1) := by decide +kernel
theorem dX10_addWork_104 : decode cX10_addWork 104 = .ok (.getfield 79, 3) := by decide +kernel
theorem dX10_addWork_107 : decode cX10_addWork 107 = .ok (.ifCond .le 5, 3) := by decide +kernel
theorem dX10_addWork_110 : decode cX10_addWork 110 = .ok (.iconst 0, 1) := by decide +kernel
theorem dX10_addWork_111 : decode cX10_addWork 111 = .ok (.ireturn, 1) := by decide +kernel
theorem dX10_addWork_112 : decode cX10_addWork 112 = .ok (.aload_n 0, 1) := by decide +kernel
theorem dX10_addWork_113 : decode cX10_addWork 113 = .ok (.getfield 28, 3) := by decide +kernel
theorem dX10_addWork_116 : decode cX10_addWork 116 = .ok (.aload_n 0, 1) := by decide +kernel
theorem dX10_addWork_117 : decode cX10_addWork 117 = .ok (.getfield 89, 3) := by decide +kernel
theorem dX10_addWork_120 : decode cX10_addWork 120 = .ok (.iload_n 1, 1) := by decide +kernel
theorem dX10_addWork_121 : decode cX10_addWork 121 = .ok (.iastore, 1) := by decide +kernel
theorem dX10_addWork_122 : decode cX10_addWork 122 = .ok (.aload_n 0, 1) := by decide +kernel
theorem dX10_addWork_123 : decode cX10_addWork 123 = .ok (.getfield 31, 3) := by decide +kernel
theorem dX10_addWork_126 : decode cX10_addWork 126 = .ok (.aload_n 0, 1) := by decide +kernel
theorem dX10_addWork_127 : decode cX10_addWork 127 = .ok (.getfield 89, 3) := by decide +kernel
theorem dX10_addWork_130 : decode cX10_addWork 130 = .ok (.iload_n 2, 1) := by decide +kernel
theorem dX10_addWork_131 : decode cX10_addWork 131 = .ok (.iastore, 1) := by decide +kernel
theorem dX10_addWork_132 : decode cX10_addWork 132 = .ok (.aload_n 0, 1) := by decide +kernel
theorem dX10_addWork_133 : decode cX10_addWork 133 = .ok (.getfield 34, 3) := by decide +kernel
theorem dX10_addWork_136 : decode cX10_addWork 136 = .ok (.aload_n 0, 1) := by decide +kernel
theorem dX10_addWork_137 : decode cX10_addWork 137 = .ok (.getfield 89, 3) := by decide +kernel
theorem dX10_addWork_140 : decode cX10_addWork 140 = .ok (.iload_n 3, 1) := by decide +kernel
theorem dX10_addWork_141 : decode cX10_addWork 141 = .ok (.iastore, 1) := by decide +kernel
theorem dX10_addWork_142 : decode cX10_addWork 142 = .ok (.aload_n 0, 1) := by decide +kernel
theorem dX10_addWork_143 : decode cX10_addWork 143 = .ok (.getfield 37, 3) := by decide +kernel
theorem dX10_addWork_146 : decode cX10_addWork 146 = .ok (.aload_n 0, 1) := by decide +kernel
theorem dX10_addWork_147 : decode cX10_addWork 147 = .ok (.getfield 89, 3) := by decide +kernel
theorem dX10_addWork_150 : decode cX10_addWork 150 = .ok (.iload 4, 2) := by decide +kernel
theorem dX10_addWork_152 : decode cX10_addWork 152 = .ok (.iastore, 1) := by decide +kernel
theorem dX10_addWork_153 : decode cX10_addWork 153 = .ok (.aload_n 0, 1) := by decide +kernel
theorem dX10_addWork_154 : decode cX10_addWork 154 = .ok (.getfield 40, 3) := by decide +kernel
theorem dX10_addWork_157 : decode cX10_addWork 157 = .ok (.aload_n 0, 1) := by decide +kernel
theorem dX10_addWork_158 : decode cX10_addWork 158 = .ok (.getfield 89, 3) := by decide +kernel
theorem dX10_addWork_161 : decode cX10_addWork 161 = .ok (.iload 5, 2) := by decide +kernel
theorem dX10_addWork_163 : decode cX10_addWork 163 = .ok (.iastore, 1) := by decide +kernel
theorem dX10_addWork_164 : decode cX10_addWork 164 = .ok (.aload_n 0, 1) := by decide +kernel
theorem dX10_addWork_165 : decode cX10_addWork 165 = .ok (.getfield 43, 3) := by decide +kernel
theorem dX10_addWork_168 : decode cX10_addWork 168 = .ok (.aload_n 0, 1) := by decide +kernel
theorem dX10_addWork_169 : decode cX10_addWork 169 = .ok (.getfield 89, 3) := by decide +kernel
theorem dX10_addWork_172 : decode cX10_addWork 172 = .ok (.iload 6, 2) := by decide +kernel
theorem dX10_addWork_174 : decode cX10_addWork 174 = .ok (.iastore, 1) := by decide +kernel
theorem dX10_addWork_175 : decode cX10_addWork 175 = .ok (.aload_n 0, 1) := by decide +kernel
theorem dX10_addWork_176 : decode cX10_addWork 176 = .ok (.dup, 1) := by decide +kernel
theorem dX10_addWork_177 : decode cX10_addWork 177 = .ok (.getfield 89, 3) := by decide +kernel
theorem dX10_addWork_180 : decode cX10_addWork 180 = .ok (.iconst 1, 1) := by decide +kernel
theorem dX10_addWork_181 : decode cX10_addWork 181 = .ok (.iadd, 1) := by decide +kernel
theorem dX10_addWork_182 : decode cX10_addWork 182 = .ok (.putfield 89, 3) := by decide +kernel
theorem dX10_addWork_185 : decode cX10_addWork 185 = .ok (.aload_n 0, 1) := by decide +kernel
theorem dX10_addWork_186 : decode cX10_addWork 186 = .ok (.getfield 89, 3) := by decide +kernel
theorem dX10_addWork_189 : decode cX10_addWork 189 = .ok (.iconst 1, 1) := by decide +kernel
theorem dX10_addWork_190 : decode cX10_addWork 190 = .ok (.isub, 1) := by decide +kernel
theorem dX10_addWork_191 : decode cX10_addWork 191 = .ok (.ireturn, 1) := by decide +kernel
theorem dX10_areAtOnce_0 : decode cX10_areAtOnce 0 = .ok (.aload_n 0, 1) := by decide +kernel
theorem dX10_areAtOnce_1 : decode cX10_areAtOnce 1 = .ok (.getfield 49, 3) := by decide +kernel
theorem dX10_areAtOnce_4 : decode cX10_areAtOnce 4 = .ok (.iload_n 1, 1) := by decide +kernel
theorem dX10_areAtOnce_5 : decode cX10_areAtOnce 5 = .ok (.iaload, 1) := by decide +kernel
theorem dX10_areAtOnce_6 : decode cX10_areAtOnce 6 = .ok (.aload_n 0, 1) := by decide +kernel
theorem dX10_areAtOnce_7 : decode cX10_areAtOnce 7 = .ok (.getfield 52, 3) := by decide +kernel
theorem dX10_areAtOnce_10 : decode cX10_areAtOnce 10 = .ok (.iload_n 2, 1) := by decide +kernel
theorem dX10_areAtOnce_11 : decode cX10_areAtOnce 11 = .ok (.iaload, 1) := by decide +kernel
theorem dX10_areAtOnce_12 : decode cX10_areAtOnce 12 = .ok (.if_icmp .gt 22, 3) := by decide +kernel
theorem dX10_areAtOnce_15 : decode cX10_areAtOnce 15 = .ok (.aload_n 0, 1) := by decide +kernel
theorem dX10_areAtOnce_16 : decode cX10_areAtOnce 16 = .ok (.getfield 49, 3) := by decide +kernel
theorem dX10_areAtOnce_19 : decode cX10_areAtOnce 19 = .ok (.iload_n 2, 1) := by decide +kernel
theorem dX10_areAtOnce_20 : decode cX10_areAtOnce 20 = .ok (.iaload, 1) := by decide +kernel
theorem dX10_areAtOnce_21 : decode cX10_areAtOnce 21 = .ok (.aload_n 0, 1) := by decide +kernel
theorem dX10_areAtOnce_22 : decode cX10_areAtOnce 22 = .ok (.getfield 52, 3) := by decide +kernel
theorem dX10_areAtOnce_25 : decode cX10_areAtOnce 25 = .ok (.iload_n 1, 1) := by decide +kernel
theorem dX10_areAtOnce_26 : decode cX10_areAtOnce 26 = .ok (.iaload, 1) := by decide +kernel
theorem dX10_areAtOnce_27 : decode cX10_areAtOnce 27 = .ok (.if_icmp .gt 7, 3) := by decide +kernel
theorem dX10_areAtOnce_30 : decode cX10_areAtOnce 30 = .ok (.iconst 1, 1) := by decide +kernel
theorem dX10_areAtOnce_31 : decode cX10_areAtOnce 31 = .ok (.goto 4, 3) := by decide +kernel
theorem dX10_areAtOnce_34 : decode cX10_areAtOnce 34 = .ok (.iconst 0, 1) := by decide +kernel
theorem dX10_areAtOnce_35 : decode cX10_areAtOnce 35 = .ok (.ireturn, 1) := by decide +kernel
theorem dX10_isBroken_0 : decode cX10_isBroken 0 = .ok (.iload_n 0, 1) := by decide +kernel
theorem dX10_isBroken_1 : decode cX10_isBroken 1 = .ok (.bipush 114, 2) := by decide +kernel
theorem dX10_isBroken_3 : decode cX10_isBroken 3 = .ok (.if_icmp .ne 12, 3) := by decide +kernel
theorem dX10_isBroken_6 : decode cX10_isBroken 6 = .ok (.iload_n 1, 1) := by decide +kernel
theorem dX10_isBroken_7 : decode cX10_isBroken 7 = .ok (.iconst 2, 1) := by decide +kernel
theorem dX10_isBroken_8 : decode cX10_isBroken 8 = .ok (.idiv, 1) := by decide +kernel
theorem dX10_isBroken_9 : decode cX10_isBroken 9 = .ok (.iload_n 2, 1) := by decide +kernel
theorem dX10_isBroken_10 : decode cX10_isBroken 10 = .ok (.iconst 2, 1) := by decide +kernel
theorem dX10_isBroken_11 : decode cX10_isBroken 11 = .ok (.idiv, 1) := by decide +kernel
theorem dX10_isBroken_12 : decode cX10_isBroken 12 = .ok (.if_icmp .eq 14, 3) := by decide +kernel
theorem dX10_isBroken_15 : decode cX10_isBroken 15 = .ok (.iload_n 0, 1) := by decide +kernel
theorem dX10_isBroken_16 : decode cX10_isBroken 16 = .ok (.bipush 119, 2) := by decide +kernel
theorem dX10_isBroken_18 : decode cX10_isBroken 18 = .ok (.if_icmp .ne 12, 3) := by decide +kernel
theorem dX10_isBroken_21 : decode cX10_isBroken 21 = .ok (.iload_n 1, 1) := by decide +kernel
theorem dX10_isBroken_22 : decode cX10_isBroken 22 = .ok (.iload_n 2, 1) := by decide +kernel
theorem dX10_isBroken_23 : decode cX10_isBroken 23 = .ok (.if_icmp .ne 7, 3) := by decide +kernel
theorem dX10_isBroken_26 : decode cX10_isBroken 26 = .ok (.iconst 1, 1) := by decide +kernel
theorem dX10_isBroken_27 : decode cX10_isBroken 27 = .ok (.goto 4, 3) := by decide +kernel
theorem dX10_isBroken_30 : decode cX10_isBroken 30 = .ok (.iconst 0, 1) := by decide +kernel
theorem dX10_isBroken_31 : decode cX10_isBroken 31 = .ok (.ireturn, 1) := by decide +kernel
theorem dX10_areBroken_0 : decode cX10_areBroken 0 = .ok (.aload_n 0, 1) := by decide +kernel
theorem dX10_areBroken_1 : decode cX10_areBroken 1 = .ok (.iload_n 1, 1) := by decide +kernel
theorem dX10_areBroken_2 : decode cX10_areBroken 2 = .ok (.iload_n 3, 1) := by decide +kernel
theorem dX10_areBroken_3 : decode cX10_areBroken 3 = .ok (.invokevirtual 117, 3) := by decide +kernel
theorem dX10_areBroken_6 : decode cX10_areBroken 6 = .ok (.ifCond .eq 36, 3) := by decide +kernel
theorem dX10_areBroken_9 : decode cX10_areBroken 9 = .ok (.iload 5, 2) := by decide +kernel
theorem dX10_areBroken_11 : decode cX10_areBroken 11 = .ok (.aload_n 0, 1) := by decide +kernel
theorem dX10_areBroken_12 : decode cX10_areBroken 12 = .ok (.getfield 67, 3) := by decide +kernel
theorem dX10_areBroken_15 : decode cX10_areBroken 15 = .ok (.iconst 5, 1) := by decide +kernel
theorem dX10_areBroken_16 : decode cX10_areBroken 16 = .ok (.iload_n 1, 1) := by decide +kernel
theorem dX10_areBroken_17 : decode cX10_areBroken 17 = .ok (.imul, 1) := by decide +kernel
theorem dX10_areBroken_18 : decode cX10_areBroken 18 = .ok (.iload_n 2, 1) := by decide +kernel
theorem dX10_areBroken_19 : decode cX10_areBroken 19 = .ok (.iadd, 1) := by decide +kernel
theorem dX10_areBroken_20 : decode cX10_areBroken 20 = .ok (.iaload, 1) := by decide +kernel
theorem dX10_areBroken_21 : decode cX10_areBroken 21 = .ok (.aload_n 0, 1) := by decide +kernel
theorem dX10_areBroken_22 : decode cX10_areBroken 22 = .ok (.getfield 67, 3) := by decide +kernel
theorem dX10_areBroken_25 : decode cX10_areBroken 25 = .ok (.iconst 5, 1) := by decide +kernel
theorem dX10_areBroken_26 : decode cX10_areBroken 26 = .ok (.iload_n 3, 1) := by decide +kernel
theorem dX10_areBroken_27 : decode cX10_areBroken 27 = .ok (.imul, 1) := by decide +kernel
theorem dX10_areBroken_28 : decode cX10_areBroken 28 = .ok (.iload 4, 2) := by decide +kernel
theorem dX10_areBroken_30 : decode cX10_areBroken 30 = .ok (.iadd, 1) := by decide +kernel
theorem dX10_areBroken_31 : decode cX10_areBroken 31 = .ok (.iaload, 1) := by decide +kernel
theorem dX10_areBroken_32 : decode cX10_areBroken 32 = .ok (.invokestatic 120, 3) := by decide +kernel
theorem dX10_areBroken_35 : decode cX10_areBroken 35 = .ok (.ifCond .eq 7, 3) := by decide +kernel
theorem dX10_areBroken_38 : decode cX10_areBroken 38 = .ok (.iconst 1, 1) := by decide +kernel
theorem dX10_areBroken_39 : decode cX10_areBroken 39 = .ok (.goto 4, 3) := by decide +kernel
theorem dX10_areBroken_42 : decode cX10_areBroken 42 = .ok (.iconst 0, 1) := by decide +kernel
theorem dX10_areBroken_43 : decode cX10_areBroken 43 = .ok (.ireturn, 1) := by decide +kernel
theorem dX10_wouldBreak_0 : decode cX10_wouldBreak 0 = .ok (.iconst 0, 1) := by decide +kernel
theorem dX10_wouldBreak_1 : decode cX10_wouldBreak 1 = .ok (.istore 4, 2) := by decide +kernel
theorem dX10_wouldBreak_3 : decode cX10_wouldBreak 3 = .ok (.iload 4, 2) := by decide +kernel
theorem dX10_wouldBreak_5 : decode cX10_wouldBreak 5 = .ok (.aload_n 0, 1) := by decide +kernel
theorem dX10_wouldBreak_6 : decode cX10_wouldBreak 6 = .ok (.getfield 92, 3) := by decide +kernel
theorem dX10_wouldBreak_9 : decode cX10_wouldBreak 9 = .ok (.if_icmp .ge 146, 3) := by decide +kernel
theorem dX10_wouldBreak_12 : decode cX10_wouldBreak 12 = .ok (.iconst 0, 1) := by decide +kernel
theorem dX10_wouldBreak_13 : decode cX10_wouldBreak 13 = .ok (.istore 5, 2) := by decide +kernel
theorem dX10_wouldBreak_15 : decode cX10_wouldBreak 15 = .ok (.iload 5, 2) := by decide +kernel
theorem dX10_wouldBreak_17 : decode cX10_wouldBreak 17 = .ok (.aload_n 0, 1) := by decide +kernel
theorem dX10_wouldBreak_18 : decode cX10_wouldBreak 18 = .ok (.getfield 92, 3) := by decide +kernel
theorem dX10_wouldBreak_21 : decode cX10_wouldBreak 21 = .ok (.if_icmp .ge 128, 3) := by decide +kernel
theorem dX10_wouldBreak_24 : decode cX10_wouldBreak 24 = .ok (.aload_n 0, 1) := by decide +kernel
theorem dX10_wouldBreak_25 : decode cX10_wouldBreak 25 = .ok (.getfield 58, 3) := by decide +kernel
theorem dX10_wouldBreak_28 : decode cX10_wouldBreak 28 = .ok (.iload 4, 2) := by decide +kernel
theorem dX10_wouldBreak_30 : decode cX10_wouldBreak 30 = .ok (.iaload, 1) := by decide +kernel
theorem dX10_wouldBreak_31 : decode cX10_wouldBreak 31 = .ok (.bipush 112, 2) := by decide +kernel
theorem dX10_wouldBreak_33 : decode cX10_wouldBreak 33 = .ok (.if_icmp .ne 110, 3) := by decide +kernel
theorem dX10_wouldBreak_36 : decode cX10_wouldBreak 36 = .ok (.aload_n 0, 1) := by decide +kernel
theorem dX10_wouldBreak_37 : decode cX10_wouldBreak 37 = .ok (.getfield 58, 3) := by decide +kernel
theorem dX10_wouldBreak_40 : decode cX10_wouldBreak 40 = .ok (.iload 5, 2) := by decide +kernel
theorem dX10_wouldBreak_42 : decode cX10_wouldBreak 42 = .ok (.iaload, 1) := by decide +kernel
theorem dX10_wouldBreak_43 : decode cX10_wouldBreak 43 = .ok (.bipush 112, 2) := by decide +kernel
theorem dX10_wouldBreak_45 : decode cX10_wouldBreak 45 = .ok (.if_icmp .eq 6, 3) := by decide +kernel
theorem dX10_wouldBreak_48 : decode cX10_wouldBreak 48 = .ok (.goto 95, 3) := by decide +kernel
theorem dX10_wouldBreak_51 : decode cX10_wouldBreak 51 = .ok (.iconst 0, 1) := by decide +kernel
theorem dX10_wouldBreak_52 : decode cX10_wouldBreak 52 = .ok (.istore 6, 2) := by decide +kernel
theorem dX10_wouldBreak_54 : decode cX10_wouldBreak 54 = .ok (.iload 6, 2) := by decide +kernel
theorem dX10_wouldBreak_56 : decode cX10_wouldBreak 56 = .ok (.aload_n 0, 1) := by decide +kernel
theorem dX10_wouldBreak_57 : decode cX10_wouldBreak 57 = .ok (.getfield 61, 3) := by decide +kernel
theorem dX10_wouldBreak_60 : decode cX10_wouldBreak 60 = .ok (.iload 4, 2) := by decide +kernel
theorem dX10_wouldBreak_62 : decode cX10_wouldBreak 62 = .ok (.iaload, 1) := by decide +kernel
theorem dX10_wouldBreak_63 : decode cX10_wouldBreak 63 = .ok (.if_icmp .ge 80, 3) := by decide +kernel
theorem dX10_wouldBreak_66 : decode cX10_wouldBreak 66 = .ok (.iconst 0, 1) := by decide +kernel
theorem dX10_wouldBreak_67 : decode cX10_wouldBreak 67 = .ok (.istore 7, 2) := by decide +kernel
theorem dX10_wouldBreak_69 : decode cX10_wouldBreak 69 = .ok (.iload 7, 2) := by decide +kernel
theorem dX10_wouldBreak_71 : decode cX10_wouldBreak 71 = .ok (.aload_n 0, 1) := by decide +kernel
theorem dX10_wouldBreak_72 : decode cX10_wouldBreak 72 = .ok (.getfield 61, 3) := by decide +kernel
theorem dX10_wouldBreak_75 : decode cX10_wouldBreak 75 = .ok (.iload 5, 2) := by decide +kernel
theorem dX10_wouldBreak_77 : decode cX10_wouldBreak 77 = .ok (.iaload, 1) := by decide +kernel
theorem dX10_wouldBreak_78 : decode cX10_wouldBreak 78 = .ok (.if_icmp .ge 59, 3) := by decide +kernel
theorem dX10_wouldBreak_81 : decode cX10_wouldBreak 81 = .ok (.aload_n 0, 1) := by decide +kernel
theorem dX10_wouldBreak_82 : decode cX10_wouldBreak 82 = .ok (.getfield 64, 3) := by decide +kernel
theorem dX10_wouldBreak_85 : decode cX10_wouldBreak 85 = .ok (.iconst 5, 1) := by decide +kernel
theorem dX10_wouldBreak_86 : decode cX10_wouldBreak 86 = .ok (.iload 4, 2) := by decide +kernel
theorem dX10_wouldBreak_88 : decode cX10_wouldBreak 88 = .ok (.imul, 1) := by decide +kernel
theorem dX10_wouldBreak_89 : decode cX10_wouldBreak 89 = .ok (.iload 6, 2) := by decide +kernel
theorem dX10_wouldBreak_91 : decode cX10_wouldBreak 91 = .ok (.iadd, 1) := by decide +kernel
theorem dX10_wouldBreak_92 : decode cX10_wouldBreak 92 = .ok (.iaload, 1) := by decide +kernel
theorem dX10_wouldBreak_93 : decode cX10_wouldBreak 93 = .ok (.iload_n 1, 1) := by decide +kernel
theorem dX10_wouldBreak_94 : decode cX10_wouldBreak 94 = .ok (.if_icmp .ne 37, 3) := by decide +kernel
theorem dX10_wouldBreak_97 : decode cX10_wouldBreak 97 = .ok (.aload_n 0, 1) := by decide +kernel
theorem dX10_wouldBreak_98 : decode cX10_wouldBreak 98 = .ok (.getfield 64, 3) := by decide +kernel
theorem dX10_wouldBreak_101 : decode cX10_wouldBreak 101 = .ok (.iconst 5, 1) := by decide +kernel
theorem dX10_wouldBreak_102 : decode cX10_wouldBreak 102 = .ok (.iload 5, 2) := by decide +kernel
theorem dX10_wouldBreak_104 : decode cX10_wouldBreak 104 = .ok (.imul, 1) := by decide +kernel
theorem dX10_wouldBreak_105 : decode cX10_wouldBreak 105 = .ok (.iload 7, 2) := by decide +kernel
theorem dX10_wouldBreak_107 : decode cX10_wouldBreak 107 = .ok (.iadd, 1) := by decide +kernel
theorem dX10_wouldBreak_108 : decode cX10_wouldBreak 108 = .ok (.iaload, 1) := by decide +kernel
theorem dX10_wouldBreak_109 : decode cX10_wouldBreak 109 = .ok (.iload_n 2, 1) := by decide +kernel
theorem dX10_wouldBreak_110 : decode cX10_wouldBreak 110 = .ok (.if_icmp .ne 21, 3) := by decide +kernel
theorem dX10_wouldBreak_113 : decode cX10_wouldBreak 113 = .ok (.aload_n 0, 1) := by decide +kernel
theorem dX10_wouldBreak_114 : decode cX10_wouldBreak 114 = .ok (.iload 4, 2) := by decide +kernel
theorem dX10_wouldBreak_116 : decode cX10_wouldBreak 116 = .ok (.iload 6, 2) := by decide +kernel
theorem dX10_wouldBreak_118 : decode cX10_wouldBreak 118 = .ok (.iload 5, 2) := by decide +kernel
theorem dX10_wouldBreak_120 : decode cX10_wouldBreak 120 = .ok (.iload 7, 2) := by decide +kernel
theorem dX10_wouldBreak_122 : decode cX10_wouldBreak 122 = .ok (.iload_n 3, 1) := by decide +kernel
theorem dX10_wouldBreak_123 : decode cX10_wouldBreak 123 = .ok (.invokevirtual 123, 3) := by decide +kernel
theorem dX10_wouldBreak_126 : decode cX10_wouldBreak 126 = .ok (.ifCond .eq 5, 3) := by decide +kernel
theorem dX10_wouldBreak_129 : decode cX10_wouldBreak 129 = .ok (.iconst 1, 1) := by decide +kernel
theorem dX10_wouldBreak_130 : decode cX10_wouldBreak 130 = .ok (.ireturn, 1) := by decide +kernel
theorem dX10_wouldBreak_131 : decode cX10_wouldBreak 131 = .ok (.iinc 7 1, 3) := by decide +kernel
theorem dX10_wouldBreak_134 : decode cX10_wouldBreak 134 = .ok (.goto (-65), 3) := by decide +kernel
theorem dX10_wouldBreak_137 : decode cX10_wouldBreak 137 = .ok (.iinc 6 1, 3) := by decide +kernel
theorem dX10_wouldBreak_140 : decode cX10_wouldBreak 140 = .ok (.goto (-86), 3) := by decide +kernel
theorem dX10_wouldBreak_143 : decode cX10_wouldBreak 143 = .ok (.iinc 5 1, 3) := by decide +kernel
theorem dX10_wouldBreak_146 : decode cX10_wouldBreak 146 = .ok (.goto (-131), 3) := by decide +kernel
theorem dX10_wouldBreak_149 : decode cX10_wouldBreak 149 = .ok (.iinc 4 1, 3) := by decide +kernel
theorem dX10_wouldBreak_152 : decode cX10_wouldBreak 152 = .ok (.goto (-149), 3) := by decide +kernel
theorem dX10_wouldBreak_155 : decode cX10_wouldBreak 155 = .ok (.iconst 0, 1) := by decide +kernel
theorem dX10_wouldBreak_156 : decode cX10_wouldBreak 156 = .ok (.ireturn, 1) := by decide +kernel
theorem dX10_separate_0 : decode cX10_separate 0 = .ok (.aload_n 0, 1) := by decide +kernel
theorem dX10_separate_1 : decode cX10_separate 1 = .ok (.aload_n 0, 1) := by decide +kernel
theorem dX10_separate_2 : decode cX10_separate 2 = .ok (.iload_n 1, 1) := by decide +kernel
theorem dX10_separate_3 : decode cX10_separate 3 = .ok (.invokevirtual 127, 3) := by decide +kernel
theorem dX10_separate_6 : decode cX10_separate 6 = .ok (.ifCond .eq 11, 3) := by decide +kernel
theorem dX10_separate_9 : decode cX10_separate 9 = .ok (.aload_n 0, 1) := by decide +kernel
theorem dX10_separate_10 : decode cX10_separate 10 = .ok (.iload_n 2, 1) := by decide +kernel
theorem dX10_separate_11 : decode cX10_separate 11 = .ok (.invokevirtual 127, 3) := by decide +kernel
theorem dX10_separate_14 : decode cX10_separate 14 = .ok (.ifCond .ne 7, 3) := by decide +kernel
theorem dX10_separate_17 : decode cX10_separate 17 = .ok (.iconst 1, 1) := by decide +kernel
theorem dX10_separate_18 : decode cX10_separate 18 = .ok (.goto 39, 3) := by decide +kernel
theorem dX10_separate_21 : decode cX10_separate 21 = .ok (.iload_n 1, 1) := by decide +kernel
theorem dX10_separate_22 : decode cX10_separate 22 = .ok (.iload_n 2, 1) := by decide +kernel
theorem dX10_separate_23 : decode cX10_separate 23 = .ok (.if_icmp .eq 15, 3) := by decide +kernel
theorem dX10_separate_26 : decode cX10_separate 26 = .ok (.iload_n 3, 1) := by decide +kernel
theorem dX10_separate_27 : decode cX10_separate 27 = .ok (.bipush 114, 2) := by decide +kernel
theorem dX10_separate_29 : decode cX10_separate 29 = .ok (.if_icmp .eq 13, 3) := by decide +kernel
theorem dX10_separate_32 : decode cX10_separate 32 = .ok (.iload_n 3, 1) := by decide +kernel
theorem dX10_separate_33 : decode cX10_separate 33 = .ok (.bipush 119, 2) := by decide +kernel
theorem dX10_separate_35 : decode cX10_separate 35 = .ok (.if_icmp .eq 7, 3) := by decide +kernel
theorem dX10_separate_38 : decode cX10_separate 38 = .ok (.iconst 2, 1) := by decide +kernel
theorem dX10_separate_39 : decode cX10_separate 39 = .ok (.goto 18, 3) := by decide +kernel
theorem dX10_separate_42 : decode cX10_separate 42 = .ok (.aload_n 0, 1) := by decide +kernel
theorem dX10_separate_43 : decode cX10_separate 43 = .ok (.iload_n 1, 1) := by decide +kernel
theorem dX10_separate_44 : decode cX10_separate 44 = .ok (.iload_n 2, 1) := by decide +kernel
theorem dX10_separate_45 : decode cX10_separate 45 = .ok (.iload_n 3, 1) := by decide +kernel
theorem dX10_separate_46 : decode cX10_separate 46 = .ok (.invokevirtual 130, 3) := by decide +kernel
theorem dX10_separate_49 : decode cX10_separate 49 = .ok (.ifCond .eq 7, 3) := by decide +kernel
theorem dX10_separate_52 : decode cX10_separate 52 = .ok (.iconst 3, 1) := by decide +kernel
theorem dX10_separate_53 : decode cX10_separate 53 = .ok (.goto 4, 3) := by decide +kernel
theorem dX10_separate_56 : decode cX10_separate 56 = .ok (.iconst 0, 1) := by decide +kernel
theorem dX10_separate_57 : decode cX10_separate 57 = .ok (.putfield 79, 3) := by decide +kernel
theorem dX10_separate_60 : decode cX10_separate 60 = .ok (.aload_n 0, 1) := by decide +kernel
theorem dX10_separate_61 : decode cX10_separate 61 = .ok (.getfield 79, 3) := by decide +kernel
theorem dX10_separate_64 : decode cX10_separate 64 = .ok (.ifCond .le 5, 3) := by decide +kernel
theorem dX10_separate_67 : decode cX10_separate 67 = .ok (.iconst 0, 1) := by decide +kernel
theorem dX10_separate_68 : decode cX10_separate 68 = .ok (.ireturn, 1) := by decide +kernel
theorem dX10_separate_69 : decode cX10_separate 69 = .ok (.aload_n 0, 1) := by decide +kernel
theorem dX10_separate_70 : decode cX10_separate 70 = .ok (.getfield 46, 3) := by decide +kernel
theorem dX10_separate_73 : decode cX10_separate 73 = .ok (.bipush 12, 2) := by decide +kernel
theorem dX10_separate_75 : decode cX10_separate 75 = .ok (.iload_n 1, 1) := by decide +kernel
theorem dX10_separate_76 : decode cX10_separate 76 = .ok (.imul, 1) := by decide +kernel
theorem dX10_separate_77 : decode cX10_separate 77 = .ok (.iload_n 2, 1) := by decide +kernel
theorem dX10_separate_78 : decode cX10_separate 78 = .ok (.iadd, 1) := by decide +kernel
theorem dX10_separate_79 : decode cX10_separate 79 = .ok (.iload_n 3, 1) := by decide +kernel
theorem dX10_separate_80 : decode cX10_separate 80 = .ok (.iastore, 1) := by decide +kernel
theorem dX10_separate_81 : decode cX10_separate 81 = .ok (.aload_n 0, 1) := by decide +kernel
theorem dX10_separate_82 : decode cX10_separate 82 = .ok (.getfield 46, 3) := by decide +kernel
theorem dX10_separate_85 : decode cX10_separate 85 = .ok (.bipush 12, 2) := by decide +kernel
theorem dX10_separate_87 : decode cX10_separate 87 = .ok (.iload_n 2, 1) := by decide +kernel
theorem dX10_separate_88 : decode cX10_separate 88 = .ok (.imul, 1) := by decide +kernel
theorem dX10_separate_89 : decode cX10_separate 89 = .ok (.iload_n 1, 1) := by decide +kernel
theorem dX10_separate_90 : decode cX10_separate 90 = .ok (.iadd, 1) := by decide +kernel
theorem dX10_separate_91 : decode cX10_separate 91 = .ok (.iload_n 3, 1) := by decide +kernel
theorem dX10_separate_92 : decode cX10_separate 92 = .ok (.iastore, 1) := by decide +kernel
theorem dX10_separate_93 : decode cX10_separate 93 = .ok (.iconst 0, 1) := by decide +kernel
theorem dX10_separate_94 : decode cX10_separate 94 = .ok (.istore 4, 2) := by decide +kernel
theorem dX10_separate_96 : decode cX10_separate 96 = .ok (.iconst 0, 1) := by decide +kernel
theorem dX10_separate_97 : decode cX10_separate 97 = .ok (.istore 5, 2) := by decide +kernel
theorem dX10_separate_99 : decode cX10_separate 99 = .ok (.iload 5, 2) := by decide +kernel
theorem dX10_separate_101 : decode cX10_separate 101 = .ok (.aload_n 0, 1) := by decide +kernel
theorem dX10_separate_102 : decode cX10_separate 102 = .ok (.getfield 89, 3) := by decide +kernel
theorem dX10_separate_105 : decode cX10_separate 105 = .ok (.if_icmp .ge 51, 3) := by decide +kernel
theorem dX10_separate_108 : decode cX10_separate 108 = .ok (.iconst 0, 1) := by decide +kernel
theorem dX10_separate_109 : decode cX10_separate 109 = .ok (.istore 6, 2) := by decide +kernel
theorem dX10_separate_111 : decode cX10_separate 111 = .ok (.iload 6, 2) := by decide +kernel
theorem dX10_separate_113 : decode cX10_separate 113 = .ok (.iload 5, 2) := by decide +kernel
theorem dX10_separate_115 : decode cX10_separate 115 = .ok (.if_icmp .ge 35, 3) := by decide +kernel
theorem dX10_separate_118 : decode cX10_separate 118 = .ok (.iload 4, 2) := by decide +kernel
theorem dX10_separate_120 : decode cX10_separate 120 = .ok (.aload_n 0, 1) := by decide +kernel
theorem dX10_separate_121 : decode cX10_separate 121 = .ok (.getfield 46, 3) := by decide +kernel
theorem dX10_separate_124 : decode cX10_separate 124 = .ok (.bipush 12, 2) := by decide +kernel
theorem dX10_separate_126 : decode cX10_separate 126 = .ok (.iload 5, 2) := by decide +kernel
theorem dX10_separate_128 : decode cX10_separate 128 = .ok (.imul, 1) := by decide +kernel
theorem dX10_separate_129 : decode cX10_separate 129 = .ok (.iload 6, 2) := by decide +kernel
theorem dX10_separate_131 : decode cX10_separate 131 = .ok (.iadd, 1) := by decide +kernel
theorem dX10_separate_132 : decode cX10_separate 132 = .ok (.iaload, 1) := by decide +kernel
theorem dX10_separate_133 : decode cX10_separate 133 = .ok (.ifCond .le 7, 3) := by decide +kernel
theorem dX10_separate_136 : decode cX10_separate 136 = .ok (.iconst 1, 1) := by decide +kernel
theorem dX10_separate_137 : decode cX10_separate 137 = .ok (.goto 4, 3) := by decide +kernel
theorem dX10_separate_140 : decode cX10_separate 140 = .ok (.iconst 0, 1) := by decide +kernel
theorem dX10_separate_141 : decode cX10_separate 141 = .ok (.iadd, 1) := by decide +kernel
theorem dX10_separate_142 : decode cX10_separate 142 = .ok (.istore 4, 2) := by decide +kernel
theorem dX10_separate_144 : decode cX10_separate 144 = .ok (.iinc 6 1, 3) := by decide +kernel
theorem dX10_separate_147 : decode cX10_separate 147 = .ok (.goto (-36), 3) := by decide +kernel
theorem dX10_separate_150 : decode cX10_separate 150 = .ok (.iinc 5 1, 3) := by decide +kernel
theorem dX10_separate_153 : decode cX10_separate 153 = .ok (.goto (-54), 3) := by decide +kernel
theorem dX10_separate_156 : decode cX10_separate 156 = .ok (.aload_n 0, 1) := by decide +kernel
theorem dX10_separate_157 : decode cX10_separate 157 = .ok (.invokevirtual 102, 3) := by decide +kernel
theorem dX10_separate_160 : decode cX10_separate 160 = .ok (.istore 5, 2) := by decide +kernel
theorem dX10_separate_162 : decode cX10_separate 162 = .ok (.iload 4, 2) := by decide +kernel
theorem dX10_separate_164 : decode cX10_separate 164 = .ok (.ireturn, 1) := by decide +kernel
theorem dX10_rooms_0 : decode cX10_rooms 0 = .ok (.aload_n 0, 1) := by decide +kernel
theorem dX10_rooms_1 : decode cX10_rooms 1 = .ok (.aload_n 0, 1) := by decide +kernel
theorem dX10_rooms_2 : decode cX10_rooms 2 = .ok (.getfield 83, 3) := by decide +kernel
theorem dX10_rooms_5 : decode cX10_rooms 5 = .ok (.invokevirtual 133, 3) := by decide +kernel
theorem dX10_rooms_8 : decode cX10_rooms 8 = .ok (.ireturn, 1) := by decide +kernel
theorem dX10_works_0 : decode cX10_works 0 = .ok (.aload_n 0, 1) := by decide +kernel
theorem dX10_works_1 : decode cX10_works 1 = .ok (.aload_n 0, 1) := by decide +kernel
theorem dX10_works_2 : decode cX10_works 2 = .ok (.getfield 89, 3) := by decide +kernel
theorem dX10_works_5 : decode cX10_works 5 = .ok (.invokevirtual 133, 3) := by decide +kernel
theorem dX10_works_8 : decode cX10_works 8 = .ok (.ireturn, 1) := by decide +kernel
theorem dX10_separation_0 : decode cX10_separation 0 = .ok (.aload_n 0, 1) := by decide +kernel
theorem dX10_separation_1 : decode cX10_separation 1 = .ok (.aload_n 0, 1) := by decide +kernel
theorem dX10_separation_2 : decode cX10_separation 2 = .ok (.iload_n 1, 1) := by decide +kernel
theorem dX10_separation_3 : decode cX10_separation 3 = .ok (.invokevirtual 127, 3) := by decide +kernel
theorem dX10_separation_6 : decode cX10_separation 6 = .ok (.ifCond .eq 15, 3) := by decide +kernel
theorem dX10_separation_9 : decode cX10_separation 9 = .ok (.aload_n 0, 1) := by decide +kernel
theorem dX10_separation_10 : decode cX10_separation 10 = .ok (.iload_n 2, 1) := by decide +kernel
theorem dX10_separation_11 : decode cX10_separation 11 = .ok (.invokevirtual 127, 3) := by decide +kernel
theorem dX10_separation_14 : decode cX10_separation 14 = .ok (.ifCond .eq 7, 3) := by decide +kernel
theorem dX10_separation_17 : decode cX10_separation 17 = .ok (.iconst 1, 1) := by decide +kernel
theorem dX10_separation_18 : decode cX10_separation 18 = .ok (.goto 4, 3) := by decide +kernel
theorem dX10_separation_21 : decode cX10_separation 21 = .ok (.iconst 0, 1) := by decide +kernel
theorem dX10_separation_22 : decode cX10_separation 22 = .ok (.invokevirtual 137, 3) := by decide +kernel
theorem dX10_separation_25 : decode cX10_separation 25 = .ok (.ifCond .le 6, 3) := by decide +kernel
theorem dX10_separation_28 : decode cX10_separation 28 = .ok (.bipush 97, 2) := by decide +kernel
theorem dX10_separation_30 : decode cX10_separation 30 = .ok (.ireturn, 1) := by decide +kernel
theorem dX10_separation_31 : decode cX10_separation 31 = .ok (.aload_n 0, 1) := by decide +kernel
theorem dX10_separation_32 : decode cX10_separation 32 = .ok (.getfield 46, 3) := by decide +kernel
theorem dX10_separation_35 : decode cX10_separation 35 = .ok (.bipush 12, 2) := by decide +kernel
theorem dX10_separation_37 : decode cX10_separation 37 = .ok (.iload_n 1, 1) := by decide +kernel
theorem dX10_separation_38 : decode cX10_separation 38 = .ok (.imul, 1) := by decide +kernel
theorem dX10_separation_39 : decode cX10_separation 39 = .ok (.iload_n 2, 1) := by decide +kernel
theorem dX10_separation_40 : decode cX10_separation 40 = .ok (.iadd, 1) := by decide +kernel
theorem dX10_separation_41 : decode cX10_separation 41 = .ok (.iaload, 1) := by decide +kernel
theorem dX10_separation_42 : decode cX10_separation 42 = .ok (.istore_n 3, 1) := by decide +kernel
theorem dX10_separation_43 : decode cX10_separation 43 = .ok (.iload_n 3, 1) := by decide +kernel
theorem dX10_separation_44 : decode cX10_separation 44 = .ok (.ifCond .ne 8, 3) := by decide +kernel
theorem dX10_separation_47 : decode cX10_separation 47 = .ok (.bipush 110, 2) := by decide +kernel
theorem dX10_separation_49 : decode cX10_separation 49 = .ok (.goto 5, 3) := by decide +kernel
theorem dX10_separation_52 : decode cX10_separation 52 = .ok (.iload_n 3, 1) := by decide +kernel
theorem dX10_separation_53 : decode cX10_separation 53 = .ok (.i2c, 1) := by decide +kernel
theorem dX10_separation_54 : decode cX10_separation 54 = .ok (.ireturn, 1) := by decide +kernel
theorem dX10_canHang_0 : decode cX10_canHang 0 = .ok (.aload_n 0, 1) := by decide +kernel
theorem dX10_canHang_1 : decode cX10_canHang 1 = .ok (.aload_n 0, 1) := by decide +kernel
theorem dX10_canHang_2 : decode cX10_canHang 2 = .ok (.iload_n 1, 1) := by decide +kernel
theorem dX10_canHang_3 : decode cX10_canHang 3 = .ok (.invokevirtual 127, 3) := by decide +kernel
theorem dX10_canHang_6 : decode cX10_canHang 6 = .ok (.ifCond .eq 15, 3) := by decide +kernel
theorem dX10_canHang_9 : decode cX10_canHang 9 = .ok (.aload_n 0, 1) := by decide +kernel
theorem dX10_canHang_10 : decode cX10_canHang 10 = .ok (.iload_n 2, 1) := by decide +kernel
theorem dX10_canHang_11 : decode cX10_canHang 11 = .ok (.invokevirtual 110, 3) := by decide +kernel
theorem dX10_canHang_14 : decode cX10_canHang 14 = .ok (.ifCond .eq 7, 3) := by decide +kernel
theorem dX10_canHang_17 : decode cX10_canHang 17 = .ok (.iconst 1, 1) := by decide +kernel
theorem dX10_canHang_18 : decode cX10_canHang 18 = .ok (.goto 4, 3) := by decide +kernel
theorem dX10_canHang_21 : decode cX10_canHang 21 = .ok (.iconst 0, 1) := by decide +kernel
theorem dX10_canHang_22 : decode cX10_canHang 22 = .ok (.invokevirtual 137, 3) := by decide +kernel
theorem dX10_canHang_25 : decode cX10_canHang 25 = .ok (.ifCond .ne 16, 3) := by decide +kernel
theorem dX10_canHang_28 : decode cX10_canHang 28 = .ok (.aload_n 0, 1) := by decide +kernel
theorem dX10_canHang_29 : decode cX10_canHang 29 = .ok (.iload_n 1, 1) := by decide +kernel
theorem dX10_canHang_30 : decode cX10_canHang 30 = .ok (.iload_n 2, 1) := by decide +kernel
theorem dX10_canHang_31 : decode cX10_canHang 31 = .ok (.invokevirtual 106, 3) := by decide +kernel
theorem dX10_canHang_34 : decode cX10_canHang 34 = .ok (.ifCond .eq 7, 3) := by decide +kernel
theorem dX10_canHang_37 : decode cX10_canHang 37 = .ok (.iconst 1, 1) := by decide +kernel
theorem dX10_canHang_38 : decode cX10_canHang 38 = .ok (.goto 4, 3) := by decide +kernel
theorem dX10_canHang_41 : decode cX10_canHang 41 = .ok (.iconst 0, 1) := by decide +kernel
theorem dX10_canHang_42 : decode cX10_canHang 42 = .ok (.ireturn, 1) := by decide +kernel
theorem dX10_addExhibition_0 : decode cX10_addExhibition 0 = .ok (.aload_n 0, 1) := by decide +kernel
theorem dX10_addExhibition_1 : decode cX10_addExhibition 1 = .ok (.iload_n 1, 1) := by decide +kernel
theorem dX10_addExhibition_2 : decode cX10_addExhibition 2 = .ok (.iconst 0, 1) := by decide +kernel
theorem dX10_addExhibition_3 : decode cX10_addExhibition 3 = .ok (.bipush 99, 2) := by decide +kernel
theorem dX10_addExhibition_5 : decode cX10_addExhibition 5 = .ok (.invokestatic 98, 3) := by decide +kernel
theorem dX10_addExhibition_8 : decode cX10_addExhibition 8 = .ok (.ifCond .eq 23, 3) := by decide +kernel
theorem dX10_addExhibition_11 : decode cX10_addExhibition 11 = .ok (.iload_n 2, 1) := by decide +kernel
theorem dX10_addExhibition_12 : decode cX10_addExhibition 12 = .ok (.iload_n 1, 1) := by decide +kernel
theorem dX10_addExhibition_13 : decode cX10_addExhibition 13 = .ok (.bipush 99, 2) := by decide +kernel
theorem dX10_addExhibition_15 : decode cX10_addExhibition 15 = .ok (.invokestatic 98, 3) := by decide +kernel
theorem dX10_addExhibition_18 : decode cX10_addExhibition 18 = .ok (.ifCond .eq 13, 3) := by decide +kernel
theorem dX10_addExhibition_21 : decode cX10_addExhibition 21 = .ok (.iload_n 3, 1) := by decide +kernel
theorem dX10_addExhibition_22 : decode cX10_addExhibition 22 = .ok (.iconst 0, 1) := by decide +kernel
theorem dX10_addExhibition_23 : decode cX10_addExhibition 23 = .ok (.bipush 50, 2) := by decide +kernel
theorem dX10_addExhibition_25 : decode cX10_addExhibition 25 = .ok (.invokestatic 98, 3) := by decide +kernel
theorem dX10_addExhibition_28 : decode cX10_addExhibition 28 = .ok (.ifCond .ne 7, 3) := by decide +kernel
theorem dX10_addExhibition_31 : decode cX10_addExhibition 31 = .ok (.iconst 1, 1) := by decide +kernel
theorem dX10_addExhibition_32 : decode cX10_addExhibition 32 = .ok (.goto 17, 3) := by decide +kernel
theorem dX10_addExhibition_35 : decode cX10_addExhibition 35 = .ok (.aload_n 0, 1) := by decide +kernel
theorem dX10_addExhibition_36 : decode cX10_addExhibition 36 = .ok (.getfield 92, 3) := by decide +kernel
theorem dX10_addExhibition_39 : decode cX10_addExhibition 39 = .ok (.bipush 8, 2) := by decide +kernel
theorem dX10_addExhibition_41 : decode cX10_addExhibition 41 = .ok (.if_icmp .ne 7, 3) := by decide +kernel
theorem dX10_addExhibition_44 : decode cX10_addExhibition 44 = .ok (.iconst 2, 1) := by decide +kernel
theorem dX10_addExhibition_45 : decode cX10_addExhibition 45 = .ok (.goto 4, 3) := by decide +kernel
theorem dX10_addExhibition_48 : decode cX10_addExhibition 48 = .ok (.iconst 0, 1) := by decide +kernel
theorem dX10_addExhibition_49 : decode cX10_addExhibition 49 = .ok (.putfield 79, 3) := by decide +kernel
theorem dX10_addExhibition_52 : decode cX10_addExhibition 52 = .ok (.aload_n 0, 1) := by decide +kernel
theorem dX10_addExhibition_53 : decode cX10_addExhibition 53 = .ok (.getfield 79, 3) := by decide +kernel
theorem dX10_addExhibition_56 : decode cX10_addExhibition 56 = .ok (.ifCond .le 5, 3) := by decide +kernel
theorem dX10_addExhibition_59 : decode cX10_addExhibition 59 = .ok (.iconst 0, 1) := by decide +kernel
theorem dX10_addExhibition_60 : decode cX10_addExhibition 60 = .ok (.ireturn, 1) := by decide +kernel
theorem dX10_addExhibition_61 : decode cX10_addExhibition 61 = .ok (.aload_n 0, 1) := by decide +kernel
theorem dX10_addExhibition_62 : decode cX10_addExhibition 62 = .ok (.getfield 49, 3) := by decide +kernel
theorem dX10_addExhibition_65 : decode cX10_addExhibition 65 = .ok (.aload_n 0, 1) := by decide +kernel
theorem dX10_addExhibition_66 : decode cX10_addExhibition 66 = .ok (.getfield 92, 3) := by decide +kernel
theorem dX10_addExhibition_69 : decode cX10_addExhibition 69 = .ok (.iload_n 1, 1) := by decide +kernel
theorem dX10_addExhibition_70 : decode cX10_addExhibition 70 = .ok (.iastore, 1) := by decide +kernel
theorem dX10_addExhibition_71 : decode cX10_addExhibition 71 = .ok (.aload_n 0, 1) := by decide +kernel
theorem dX10_addExhibition_72 : decode cX10_addExhibition 72 = .ok (.getfield 52, 3) := by decide +kernel
theorem dX10_addExhibition_75 : decode cX10_addExhibition 75 = .ok (.aload_n 0, 1) := by decide +kernel
theorem dX10_addExhibition_76 : decode cX10_addExhibition 76 = .ok (.getfield 92, 3) := by decide +kernel
theorem dX10_addExhibition_79 : decode cX10_addExhibition 79 = .ok (.iload_n 2, 1) := by decide +kernel
theorem dX10_addExhibition_80 : decode cX10_addExhibition 80 = .ok (.iastore, 1) := by decide +kernel
theorem dX10_addExhibition_81 : decode cX10_addExhibition 81 = .ok (.aload_n 0, 1) := by decide +kernel
theorem dX10_addExhibition_82 : decode cX10_addExhibition 82 = .ok (.getfield 55, 3) := by decide +kernel
theorem dX10_addExhibition_85 : decode cX10_addExhibition 85 = .ok (.aload_n 0, 1) := by decide +kernel
theorem dX10_addExhibition_86 : decode cX10_addExhibition 86 = .ok (.getfield 92, 3) := by decide +kernel
theorem dX10_addExhibition_89 : decode cX10_addExhibition 89 = .ok (.iload_n 3, 1) := by decide +kernel
theorem dX10_addExhibition_90 : decode cX10_addExhibition 90 = .ok (.iastore, 1) := by decide +kernel
theorem dX10_addExhibition_91 : decode cX10_addExhibition 91 = .ok (.aload_n 0, 1) := by decide +kernel
theorem dX10_addExhibition_92 : decode cX10_addExhibition 92 = .ok (.getfield 58, 3) := by decide +kernel
theorem dX10_addExhibition_95 : decode cX10_addExhibition 95 = .ok (.aload_n 0, 1) := by decide +kernel
theorem dX10_addExhibition_96 : decode cX10_addExhibition 96 = .ok (.getfield 92, 3) := by decide +kernel
theorem dX10_addExhibition_99 : decode cX10_addExhibition 99 = .ok (.bipush 100, 2) := by decide +kernel
theorem dX10_addExhibition_101 : decode cX10_addExhibition 101 = .ok (.iastore, 1) := by decide +kernel
theorem dX10_addExhibition_102 : decode cX10_addExhibition 102 = .ok (.aload_n 0, 1) := by decide +kernel
theorem dX10_addExhibition_103 : decode cX10_addExhibition 103 = .ok (.dup, 1) := by decide +kernel
theorem dX10_addExhibition_104 : decode cX10_addExhibition 104 = .ok (.getfield 92, 3) := by decide +kernel
theorem dX10_addExhibition_107 : decode cX10_addExhibition 107 = .ok (.iconst 1, 1) := by decide +kernel
theorem dX10_addExhibition_108 : decode cX10_addExhibition 108 = .ok (.iadd, 1) := by decide +kernel
theorem dX10_addExhibition_109 : decode cX10_addExhibition 109 = .ok (.putfield 92, 3) := by decide +kernel
theorem dX10_addExhibition_112 : decode cX10_addExhibition 112 = .ok (.aload_n 0, 1) := by decide +kernel
theorem dX10_addExhibition_113 : decode cX10_addExhibition 113 = .ok (.getfield 92, 3) := by decide +kernel
theorem dX10_addExhibition_116 : decode cX10_addExhibition 116 = .ok (.iconst 1, 1) := by decide +kernel
theorem dX10_addExhibition_117 : decode cX10_addExhibition 117 = .ok (.isub, 1) := by decide +kernel
theorem dX10_addExhibition_118 : decode cX10_addExhibition 118 = .ok (.ireturn, 1) := by decide +kernel
theorem dX10_includes_0 : decode cX10_includes 0 = .ok (.iconst 0, 1) := by decide +kernel
theorem dX10_includes_1 : decode cX10_includes 1 = .ok (.istore_n 3, 1) := by decide +kernel
theorem dX10_includes_2 : decode cX10_includes 2 = .ok (.iload_n 3, 1) := by decide +kernel
theorem dX10_includes_3 : decode cX10_includes 3 = .ok (.aload_n 0, 1) := by decide +kernel
theorem dX10_includes_4 : decode cX10_includes 4 = .ok (.getfield 61, 3) := by decide +kernel
theorem dX10_includes_7 : decode cX10_includes 7 = .ok (.iload_n 1, 1) := by decide +kernel
theorem dX10_includes_8 : decode cX10_includes 8 = .ok (.iaload, 1) := by decide +kernel
theorem dX10_includes_9 : decode cX10_includes 9 = .ok (.if_icmp .ge 25, 3) := by decide +kernel
theorem dX10_includes_12 : decode cX10_includes 12 = .ok (.aload_n 0, 1) := by decide +kernel
theorem dX10_includes_13 : decode cX10_includes 13 = .ok (.getfield 64, 3) := by decide +kernel
theorem dX10_includes_16 : decode cX10_includes 16 = .ok (.iconst 5, 1) := by decide +kernel
theorem dX10_includes_17 : decode cX10_includes 17 = .ok (.iload_n 1, 1) := by decide +kernel
theorem dX10_includes_18 : decode cX10_includes 18 = .ok (.imul, 1) := by decide +kernel
theorem dX10_includes_19 : decode cX10_includes 19 = .ok (.iload_n 3, 1) := by decide +kernel
theorem dX10_includes_20 : decode cX10_includes 20 = .ok (.iadd, 1) := by decide +kernel
theorem dX10_includes_21 : decode cX10_includes 21 = .ok (.iaload, 1) := by decide +kernel
theorem dX10_includes_22 : decode cX10_includes 22 = .ok (.iload_n 2, 1) := by decide +kernel
theorem dX10_includes_23 : decode cX10_includes 23 = .ok (.if_icmp .ne 5, 3) := by decide +kernel
theorem dX10_includes_26 : decode cX10_includes 26 = .ok (.iconst 1, 1) := by decide +kernel
theorem dX10_includes_27 : decode cX10_includes 27 = .ok (.ireturn, 1) := by decide +kernel
theorem dX10_includes_28 : decode cX10_includes 28 = .ok (.iinc 3 1, 3) := by decide +kernel
theorem dX10_includes_31 : decode cX10_includes 31 = .ok (.goto (-29), 3) := by decide +kernel
theorem dX10_includes_34 : decode cX10_includes 34 = .ok (.iconst 0, 1) := by decide +kernel
theorem dX10_includes_35 : decode cX10_includes 35 = .ok (.ireturn, 1) := by decide +kernel
theorem dX10_include_0 : decode cX10_include 0 = .ok (.aload_n 0, 1) := by decide +kernel
theorem dX10_include_1 : decode cX10_include 1 = .ok (.aload_n 0, 1) := by decide +kernel
theorem dX10_include_2 : decode cX10_include 2 = .ok (.iload_n 1, 1) := by decide +kernel
theorem dX10_include_3 : decode cX10_include 3 = .ok (.invokevirtual 141, 3) := by decide +kernel
theorem dX10_include_6 : decode cX10_include 6 = .ok (.ifCond .ne 7, 3) := by decide +kernel
theorem dX10_include_9 : decode cX10_include 9 = .ok (.iconst 1, 1) := by decide +kernel
theorem dX10_include_10 : decode cX10_include 10 = .ok (.goto 50, 3) := by decide +kernel
theorem dX10_include_13 : decode cX10_include 13 = .ok (.aload_n 0, 1) := by decide +kernel
theorem dX10_include_14 : decode cX10_include 14 = .ok (.iload_n 2, 1) := by decide +kernel
theorem dX10_include_15 : decode cX10_include 15 = .ok (.invokevirtual 127, 3) := by decide +kernel
theorem dX10_include_18 : decode cX10_include 18 = .ok (.ifCond .ne 7, 3) := by decide +kernel
theorem dX10_include_21 : decode cX10_include 21 = .ok (.iconst 2, 1) := by decide +kernel
theorem dX10_include_22 : decode cX10_include 22 = .ok (.goto 38, 3) := by decide +kernel
theorem dX10_include_25 : decode cX10_include 25 = .ok (.aload_n 0, 1) := by decide +kernel
theorem dX10_include_26 : decode cX10_include 26 = .ok (.getfield 58, 3) := by decide +kernel
theorem dX10_include_29 : decode cX10_include 29 = .ok (.iload_n 1, 1) := by decide +kernel
theorem dX10_include_30 : decode cX10_include 30 = .ok (.iaload, 1) := by decide +kernel
theorem dX10_include_31 : decode cX10_include 31 = .ok (.bipush 100, 2) := by decide +kernel
theorem dX10_include_33 : decode cX10_include 33 = .ok (.if_icmp .ne 22, 3) := by decide +kernel
theorem dX10_include_36 : decode cX10_include 36 = .ok (.aload_n 0, 1) := by decide +kernel
theorem dX10_include_37 : decode cX10_include 37 = .ok (.getfield 61, 3) := by decide +kernel
theorem dX10_include_40 : decode cX10_include 40 = .ok (.iload_n 1, 1) := by decide +kernel
theorem dX10_include_41 : decode cX10_include 41 = .ok (.iaload, 1) := by decide +kernel
theorem dX10_include_42 : decode cX10_include 42 = .ok (.iconst 5, 1) := by decide +kernel
theorem dX10_include_43 : decode cX10_include 43 = .ok (.if_icmp .eq 12, 3) := by decide +kernel
theorem dX10_include_46 : decode cX10_include 46 = .ok (.aload_n 0, 1) := by decide +kernel
theorem dX10_include_47 : decode cX10_include 47 = .ok (.iload_n 1, 1) := by decide +kernel
theorem dX10_include_48 : decode cX10_include 48 = .ok (.iload_n 2, 1) := by decide +kernel
theorem dX10_include_49 : decode cX10_include 49 = .ok (.invokevirtual 144, 3) := by decide +kernel
theorem dX10_include_52 : decode cX10_include 52 = .ok (.ifCond .eq 7, 3) := by decide +kernel
theorem dX10_include_55 : decode cX10_include 55 = .ok (.iconst 3, 1) := by decide +kernel
theorem dX10_include_56 : decode cX10_include 56 = .ok (.goto 4, 3) := by decide +kernel
theorem dX10_include_59 : decode cX10_include 59 = .ok (.iconst 0, 1) := by decide +kernel
theorem dX10_include_60 : decode cX10_include 60 = .ok (.putfield 79, 3) := by decide +kernel
theorem dX10_include_63 : decode cX10_include 63 = .ok (.aload_n 0, 1) := by decide +kernel
theorem dX10_include_64 : decode cX10_include 64 = .ok (.getfield 79, 3) := by decide +kernel
theorem dX10_include_67 : decode cX10_include 67 = .ok (.ifCond .le 5, 3) := by decide +kernel
theorem dX10_include_70 : decode cX10_include 70 = .ok (.iconst 0, 1) := by decide +kernel
theorem dX10_include_71 : decode cX10_include 71 = .ok (.ireturn, 1) := by decide +kernel
theorem dX10_include_72 : decode cX10_include 72 = .ok (.aload_n 0, 1) := by decide +kernel
theorem dX10_include_73 : decode cX10_include 73 = .ok (.getfield 64, 3) := by decide +kernel
theorem dX10_include_76 : decode cX10_include 76 = .ok (.iconst 5, 1) := by decide +kernel
theorem dX10_include_77 : decode cX10_include 77 = .ok (.iload_n 1, 1) := by decide +kernel
theorem dX10_include_78 : decode cX10_include 78 = .ok (.imul, 1) := by decide +kernel
theorem dX10_include_79 : decode cX10_include 79 = .ok (.aload_n 0, 1) := by decide +kernel
theorem dX10_include_80 : decode cX10_include 80 = .ok (.getfield 61, 3) := by decide +kernel
theorem dX10_include_83 : decode cX10_include 83 = .ok (.iload_n 1, 1) := by decide +kernel
theorem dX10_include_84 : decode cX10_include 84 = .ok (.iaload, 1) := by decide +kernel
theorem dX10_include_85 : decode cX10_include 85 = .ok (.iadd, 1) := by decide +kernel
theorem dX10_include_86 : decode cX10_include 86 = .ok (.iload_n 2, 1) := by decide +kernel
theorem dX10_include_87 : decode cX10_include 87 = .ok (.iastore, 1) := by decide +kernel
theorem dX10_include_88 : decode cX10_include 88 = .ok (.aload_n 0, 1) := by decide +kernel
theorem dX10_include_89 : decode cX10_include 89 = .ok (.getfield 61, 3) := by decide +kernel
theorem dX10_include_92 : decode cX10_include 92 = .ok (.iload_n 1, 1) := by decide +kernel
theorem dX10_include_93 : decode cX10_include 93 = .ok (.dup2, 1) := by decide +kernel
theorem dX10_include_94 : decode cX10_include 94 = .ok (.iaload, 1) := by decide +kernel
theorem dX10_include_95 : decode cX10_include 95 = .ok (.iconst 1, 1) := by decide +kernel
theorem dX10_include_96 : decode cX10_include 96 = .ok (.iadd, 1) := by decide +kernel
theorem dX10_include_97 : decode cX10_include 97 = .ok (.iastore, 1) := by decide +kernel
theorem dX10_include_98 : decode cX10_include 98 = .ok (.aload_n 0, 1) := by decide +kernel
theorem dX10_include_99 : decode cX10_include 99 = .ok (.getfield 61, 3) := by decide +kernel
theorem dX10_include_102 : decode cX10_include 102 = .ok (.iload_n 1, 1) := by decide +kernel
theorem dX10_include_103 : decode cX10_include 103 = .ok (.iaload, 1) := by decide +kernel
theorem dX10_include_104 : decode cX10_include 104 = .ok (.ireturn, 1) := by decide +kernel
theorem dX10_travelOf_0 : decode cX10_travelOf 0 = .ok (.aload_n 0, 1) := by decide +kernel
theorem dX10_travelOf_1 : decode cX10_travelOf 1 = .ok (.getfield 43, 3) := by decide +kernel
theorem dX10_travelOf_4 : decode cX10_travelOf 4 = .ok (.iload_n 1, 1) := by decide +kernel
theorem dX10_travelOf_5 : decode cX10_travelOf 5 = .ok (.iaload, 1) := by decide +kernel
theorem dX10_travelOf_6 : decode cX10_travelOf 6 = .ok (.ifCond .ge 7, 3) := by decide +kernel
theorem dX10_travelOf_9 : decode cX10_travelOf 9 = .ok (.iconst 0, 1) := by decide +kernel
theorem dX10_travelOf_10 : decode cX10_travelOf 10 = .ok (.goto 14, 3) := by decide +kernel
theorem dX10_travelOf_13 : decode cX10_travelOf 13 = .ok (.aload_n 0, 1) := by decide +kernel
theorem dX10_travelOf_14 : decode cX10_travelOf 14 = .ok (.getfield 22, 3) := by decide +kernel
theorem dX10_travelOf_17 : decode cX10_travelOf 17 = .ok (.aload_n 0, 1) := by decide +kernel
theorem dX10_travelOf_18 : decode cX10_travelOf 18 = .ok (.getfield 43, 3) := by decide +kernel
theorem dX10_travelOf_21 : decode cX10_travelOf 21 = .ok (.iload_n 1, 1) := by decide +kernel
theorem dX10_travelOf_22 : decode cX10_travelOf 22 = .ok (.iaload, 1) := by decide +kernel
theorem dX10_travelOf_23 : decode cX10_travelOf 23 = .ok (.iaload, 1) := by decide +kernel
theorem dX10_travelOf_24 : decode cX10_travelOf 24 = .ok (.ireturn, 1) := by decide +kernel
theorem dX10_isElsewhere_0 : decode cX10_isElsewhere 0 = .ok (.iconst 2, 1) := by decide +kernel
theorem dX10_isElsewhere_1 : decode cX10_isElsewhere 1 = .ok (.aload_n 0, 1) := by decide +kernel
theorem dX10_isElsewhere_2 : decode cX10_isElsewhere 2 = .ok (.iload_n 2, 1) := by decide +kernel
theorem dX10_isElsewhere_3 : decode cX10_isElsewhere 3 = .ok (.invokevirtual 147, 3) := by decide +kernel
theorem dX10_isElsewhere_6 : decode cX10_isElsewhere 6 = .ok (.imul, 1) := by decide +kernel
theorem dX10_isElsewhere_7 : decode cX10_isElsewhere 7 = .ok (.istore_n 3, 1) := by decide +kernel
theorem dX10_isElsewhere_8 : decode cX10_isElsewhere 8 = .ok (.iconst 0, 1) := by decide +kernel
theorem dX10_isElsewhere_9 : decode cX10_isElsewhere 9 = .ok (.istore 4, 2) := by decide +kernel
theorem dX10_isElsewhere_11 : decode cX10_isElsewhere 11 = .ok (.iload 4, 2) := by decide +kernel
theorem dX10_isElsewhere_13 : decode cX10_isElsewhere 13 = .ok (.aload_n 0, 1) := by decide +kernel
theorem dX10_isElsewhere_14 : decode cX10_isElsewhere 14 = .ok (.getfield 92, 3) := by decide +kernel
theorem dX10_isElsewhere_17 : decode cX10_isElsewhere 17 = .ok (.if_icmp .ge 78, 3) := by decide +kernel
theorem dX10_isElsewhere_20 : decode cX10_isElsewhere 20 = .ok (.iload 4, 2) := by decide +kernel
theorem dX10_isElsewhere_22 : decode cX10_isElsewhere 22 = .ok (.iload_n 1, 1) := by decide +kernel
theorem dX10_isElsewhere_23 : decode cX10_isElsewhere 23 = .ok (.if_icmp .eq 66, 3) := by decide +kernel
theorem dX10_isElsewhere_26 : decode cX10_isElsewhere 26 = .ok (.aload_n 0, 1) := by decide +kernel
theorem dX10_isElsewhere_27 : decode cX10_isElsewhere 27 = .ok (.getfield 58, 3) := by decide +kernel
theorem dX10_isElsewhere_30 : decode cX10_isElsewhere 30 = .ok (.iload 4, 2) := by decide +kernel
theorem dX10_isElsewhere_32 : decode cX10_isElsewhere 32 = .ok (.iaload, 1) := by decide +kernel
theorem dX10_isElsewhere_33 : decode cX10_isElsewhere 33 = .ok (.bipush 112, 2) := by decide +kernel
theorem dX10_isElsewhere_35 : decode cX10_isElsewhere 35 = .ok (.if_icmp .ne 54, 3) := by decide +kernel
theorem dX10_isElsewhere_38 : decode cX10_isElsewhere 38 = .ok (.aload_n 0, 1) := by decide +kernel
theorem dX10_isElsewhere_39 : decode cX10_isElsewhere 39 = .ok (.iload 4, 2) := by decide +kernel
theorem dX10_isElsewhere_41 : decode cX10_isElsewhere 41 = .ok (.iload_n 2, 1) := by decide +kernel
theorem dX10_isElsewhere_42 : decode cX10_isElsewhere 42 = .ok (.invokevirtual 144, 3) := by decide +kernel
theorem dX10_isElsewhere_45 : decode cX10_isElsewhere 45 = .ok (.ifCond .ne 6, 3) := by decide +kernel
theorem dX10_isElsewhere_48 : decode cX10_isElsewhere 48 = .ok (.goto 41, 3) := by decide +kernel
theorem dX10_isElsewhere_51 : decode cX10_isElsewhere 51 = .ok (.aload_n 0, 1) := by decide +kernel
theorem dX10_isElsewhere_52 : decode cX10_isElsewhere 52 = .ok (.getfield 49, 3) := by decide +kernel
theorem dX10_isElsewhere_55 : decode cX10_isElsewhere 55 = .ok (.iload_n 1, 1) := by decide +kernel
theorem dX10_isElsewhere_56 : decode cX10_isElsewhere 56 = .ok (.iaload, 1) := by decide +kernel
theorem dX10_isElsewhere_57 : decode cX10_isElsewhere 57 = .ok (.iload_n 3, 1) := by decide +kernel
theorem dX10_isElsewhere_58 : decode cX10_isElsewhere 58 = .ok (.isub, 1) := by decide +kernel
theorem dX10_isElsewhere_59 : decode cX10_isElsewhere 59 = .ok (.aload_n 0, 1) := by decide +kernel
theorem dX10_isElsewhere_60 : decode cX10_isElsewhere 60 = .ok (.getfield 52, 3) := by decide +kernel
theorem dX10_isElsewhere_63 : decode cX10_isElsewhere 63 = .ok (.iload 4, 2) := by decide +kernel
theorem dX10_isElsewhere_65 : decode cX10_isElsewhere 65 = .ok (.iaload, 1) := by decide +kernel
theorem dX10_isElsewhere_66 : decode cX10_isElsewhere 66 = .ok (.if_icmp .gt 23, 3) := by decide +kernel
theorem dX10_isElsewhere_69 : decode cX10_isElsewhere 69 = .ok (.aload_n 0, 1) := by decide +kernel
theorem dX10_isElsewhere_70 : decode cX10_isElsewhere 70 = .ok (.getfield 49, 3) := by decide +kernel
theorem dX10_isElsewhere_73 : decode cX10_isElsewhere 73 = .ok (.iload 4, 2) := by decide +kernel
theorem dX10_isElsewhere_75 : decode cX10_isElsewhere 75 = .ok (.iaload, 1) := by decide +kernel
theorem dX10_isElsewhere_76 : decode cX10_isElsewhere 76 = .ok (.iload_n 3, 1) := by decide +kernel
theorem dX10_isElsewhere_77 : decode cX10_isElsewhere 77 = .ok (.isub, 1) := by decide +kernel
theorem dX10_isElsewhere_78 : decode cX10_isElsewhere 78 = .ok (.aload_n 0, 1) := by decide +kernel
theorem dX10_isElsewhere_79 : decode cX10_isElsewhere 79 = .ok (.getfield 52, 3) := by decide +kernel
theorem dX10_isElsewhere_82 : decode cX10_isElsewhere 82 = .ok (.iload_n 1, 1) := by decide +kernel
theorem dX10_isElsewhere_83 : decode cX10_isElsewhere 83 = .ok (.iaload, 1) := by decide +kernel
theorem dX10_isElsewhere_84 : decode cX10_isElsewhere 84 = .ok (.if_icmp .gt 5, 3) := by decide +kernel
theorem dX10_isElsewhere_87 : decode cX10_isElsewhere 87 = .ok (.iconst 1, 1) := by decide +kernel
theorem dX10_isElsewhere_88 : decode cX10_isElsewhere 88 = .ok (.ireturn, 1) := by decide +kernel
theorem dX10_isElsewhere_89 : decode cX10_isElsewhere 89 = .ok (.iinc 4 1, 3) := by decide +kernel
theorem dX10_isElsewhere_92 : decode cX10_isElsewhere 92 = .ok (.goto (-81), 3) := by decide +kernel
theorem dX10_isElsewhere_95 : decode cX10_isElsewhere 95 = .ok (.iconst 0, 1) := by decide +kernel
theorem dX10_isElsewhere_96 : decode cX10_isElsewhere 96 = .ok (.ireturn, 1) := by decide +kernel
theorem dX10_takes_0 : decode cX10_takes 0 = .ok (.aload_n 0, 1) := by decide +kernel
theorem dX10_takes_1 : decode cX10_takes 1 = .ok (.iload_n 1, 1) := by decide +kernel
theorem dX10_takes_2 : decode cX10_takes 2 = .ok (.iload_n 2, 1) := by decide +kernel
theorem dX10_takes_3 : decode cX10_takes 3 = .ok (.invokevirtual 150, 3) := by decide +kernel
theorem dX10_takes_6 : decode cX10_takes 6 = .ok (.ifCond .eq 5, 3) := by decide +kernel
theorem dX10_takes_9 : decode cX10_takes 9 = .ok (.iconst 0, 1) := by decide +kernel
theorem dX10_takes_10 : decode cX10_takes 10 = .ok (.ireturn, 1) := by decide +kernel
theorem dX10_takes_11 : decode cX10_takes 11 = .ok (.aload_n 0, 1) := by decide +kernel
theorem dX10_takes_12 : decode cX10_takes 12 = .ok (.getfield 43, 3) := by decide +kernel
theorem dX10_takes_15 : decode cX10_takes 15 = .ok (.iload_n 2, 1) := by decide +kernel
theorem dX10_takes_16 : decode cX10_takes 16 = .ok (.iaload, 1) := by decide +kernel
theorem dX10_takes_17 : decode cX10_takes 17 = .ok (.istore_n 3, 1) := by decide +kernel
theorem dX10_takes_18 : decode cX10_takes 18 = .ok (.iload_n 3, 1) := by decide +kernel
theorem dX10_takes_19 : decode cX10_takes 19 = .ok (.ifCond .lt 55, 3) := by decide +kernel
theorem dX10_takes_22 : decode cX10_takes 22 = .ok (.aload_n 0, 1) := by decide +kernel
theorem dX10_takes_23 : decode cX10_takes 23 = .ok (.getfield 40, 3) := by decide +kernel
theorem dX10_takes_26 : decode cX10_takes 26 = .ok (.iload_n 2, 1) := by decide +kernel
theorem dX10_takes_27 : decode cX10_takes 27 = .ok (.iaload, 1) := by decide +kernel
theorem dX10_takes_28 : decode cX10_takes 28 = .ok (.aload_n 0, 1) := by decide +kernel
theorem dX10_takes_29 : decode cX10_takes 29 = .ok (.getfield 19, 3) := by decide +kernel
theorem dX10_takes_32 : decode cX10_takes 32 = .ok (.iload_n 3, 1) := by decide +kernel
theorem dX10_takes_33 : decode cX10_takes 33 = .ok (.iaload, 1) := by decide +kernel
theorem dX10_takes_34 : decode cX10_takes 34 = .ok (.if_icmp .gt 44, 3) := by decide +kernel
theorem dX10_takes_37 : decode cX10_takes 37 = .ok (.aload_n 0, 1) := by decide +kernel
theorem dX10_takes_38 : decode cX10_takes 38 = .ok (.getfield 52, 3) := by decide +kernel
theorem dX10_takes_41 : decode cX10_takes 41 = .ok (.iload_n 1, 1) := by decide +kernel
theorem dX10_takes_42 : decode cX10_takes 42 = .ok (.iaload, 1) := by decide +kernel
theorem dX10_takes_43 : decode cX10_takes 43 = .ok (.aload_n 0, 1) := by decide +kernel
theorem dX10_takes_44 : decode cX10_takes 44 = .ok (.getfield 49, 3) := by decide +kernel
theorem dX10_takes_47 : decode cX10_takes 47 = .ok (.iload_n 1, 1) := by decide +kernel
theorem dX10_takes_48 : decode cX10_takes 48 = .ok (.iaload, 1) := by decide +kernel
theorem dX10_takes_49 : decode cX10_takes 49 = .ok (.isub, 1) := by decide +kernel
theorem dX10_takes_50 : decode cX10_takes 50 = .ok (.aload_n 0, 1) := by decide +kernel
theorem dX10_takes_51 : decode cX10_takes 51 = .ok (.getfield 25, 3) := by decide +kernel
theorem dX10_takes_54 : decode cX10_takes 54 = .ok (.iload_n 3, 1) := by decide +kernel
theorem dX10_takes_55 : decode cX10_takes 55 = .ok (.iaload, 1) := by decide +kernel
theorem dX10_takes_56 : decode cX10_takes 56 = .ok (.if_icmp .ge 22, 3) := by decide +kernel
theorem dX10_takes_59 : decode cX10_takes 59 = .ok (.aload_n 0, 1) := by decide +kernel
theorem dX10_takes_60 : decode cX10_takes 60 = .ok (.getfield 49, 3) := by decide +kernel
theorem dX10_takes_63 : decode cX10_takes 63 = .ok (.iload_n 1, 1) := by decide +kernel
theorem dX10_takes_64 : decode cX10_takes 64 = .ok (.iaload, 1) := by decide +kernel
theorem dX10_takes_65 : decode cX10_takes 65 = .ok (.aload_n 0, 1) := by decide +kernel
theorem dX10_takes_66 : decode cX10_takes 66 = .ok (.getfield 22, 3) := by decide +kernel
theorem dX10_takes_69 : decode cX10_takes 69 = .ok (.iload_n 3, 1) := by decide +kernel
theorem dX10_takes_70 : decode cX10_takes 70 = .ok (.iaload, 1) := by decide +kernel
theorem dX10_takes_71 : decode cX10_takes 71 = .ok (.if_icmp .lt 7, 3) := by decide +kernel
theorem dX10_takes_74 : decode cX10_takes 74 = .ok (.iconst 1, 1) := by decide +kernel
theorem dX10_takes_75 : decode cX10_takes 75 = .ok (.goto 4, 3) := by decide +kernel
theorem dX10_takes_78 : decode cX10_takes 78 = .ok (.iconst 0, 1) := by decide +kernel
theorem dX10_takes_79 : decode cX10_takes 79 = .ok (.ireturn, 1) := by decide +kernel
theorem dX10_takenOn_0 : decode cX10_takenOn 0 = .ok (.iconst 0, 1) := by decide +kernel
theorem dX10_takenOn_1 : decode cX10_takenOn 1 = .ok (.istore 4, 2) := by decide +kernel
theorem dX10_takenOn_3 : decode cX10_takenOn 3 = .ok (.iconst 0, 1) := by decide +kernel
theorem dX10_takenOn_4 : decode cX10_takenOn 4 = .ok (.istore 5, 2) := by decide +kernel
theorem dX10_takenOn_6 : decode cX10_takenOn 6 = .ok (.iload 5, 2) := by decide +kernel
theorem dX10_takenOn_8 : decode cX10_takenOn 8 = .ok (.aload_n 0, 1) := by decide +kernel
theorem dX10_takenOn_9 : decode cX10_takenOn 9 = .ok (.getfield 92, 3) := by decide +kernel
theorem dX10_takenOn_12 : decode cX10_takenOn 12 = .ok (.if_icmp .ge 122, 3) := by decide +kernel
theorem dX10_takenOn_15 : decode cX10_takenOn 15 = .ok (.iload 5, 2) := by decide +kernel
theorem dX10_takenOn_17 : decode cX10_takenOn 17 = .ok (.iload_n 3, 1) := by decide +kernel
theorem dX10_takenOn_18 : decode cX10_takenOn 18 = .ok (.if_icmp .eq 110, 3) := by decide +kernel
theorem dX10_takenOn_21 : decode cX10_takenOn 21 = .ok (.aload_n 0, 1) := by decide +kernel
theorem dX10_takenOn_22 : decode cX10_takenOn 22 = .ok (.getfield 58, 3) := by decide +kernel
theorem dX10_takenOn_25 : decode cX10_takenOn 25 = .ok (.iload 5, 2) := by decide +kernel
theorem dX10_takenOn_27 : decode cX10_takenOn 27 = .ok (.iaload, 1) := by decide +kernel
theorem dX10_takenOn_28 : decode cX10_takenOn 28 = .ok (.bipush 112, 2) := by decide +kernel
theorem dX10_takenOn_30 : decode cX10_takenOn 30 = .ok (.if_icmp .ne 98, 3) := by decide +kernel
theorem dX10_takenOn_33 : decode cX10_takenOn 33 = .ok (.iload_n 2, 1) := by decide +kernel
theorem dX10_takenOn_34 : decode cX10_takenOn 34 = .ok (.aload_n 0, 1) := by decide +kernel
theorem dX10_takenOn_35 : decode cX10_takenOn 35 = .ok (.getfield 49, 3) := by decide +kernel
theorem dX10_takenOn_38 : decode cX10_takenOn 38 = .ok (.iload 5, 2) := by decide +kernel
theorem dX10_takenOn_40 : decode cX10_takenOn 40 = .ok (.iaload, 1) := by decide +kernel
theorem dX10_takenOn_41 : decode cX10_takenOn 41 = .ok (.aload_n 0, 1) := by decide +kernel
theorem dX10_takenOn_42 : decode cX10_takenOn 42 = .ok (.getfield 52, 3) := by decide +kernel
theorem dX10_takenOn_45 : decode cX10_takenOn 45 = .ok (.iload 5, 2) := by decide +kernel
theorem dX10_takenOn_47 : decode cX10_takenOn 47 = .ok (.iaload, 1) := by decide +kernel
theorem dX10_takenOn_48 : decode cX10_takenOn 48 = .ok (.invokestatic 98, 3) := by decide +kernel
theorem dX10_takenOn_51 : decode cX10_takenOn 51 = .ok (.ifCond .ne 6, 3) := by decide +kernel
theorem dX10_takenOn_54 : decode cX10_takenOn 54 = .ok (.goto 74, 3) := by decide +kernel
theorem dX10_takenOn_57 : decode cX10_takenOn 57 = .ok (.iconst 0, 1) := by decide +kernel
theorem dX10_takenOn_58 : decode cX10_takenOn 58 = .ok (.istore 6, 2) := by decide +kernel
theorem dX10_takenOn_60 : decode cX10_takenOn 60 = .ok (.iload 6, 2) := by decide +kernel
theorem dX10_takenOn_62 : decode cX10_takenOn 62 = .ok (.aload_n 0, 1) := by decide +kernel
theorem dX10_takenOn_63 : decode cX10_takenOn 63 = .ok (.getfield 61, 3) := by decide +kernel
theorem dX10_takenOn_66 : decode cX10_takenOn 66 = .ok (.iload 5, 2) := by decide +kernel
theorem dX10_takenOn_68 : decode cX10_takenOn 68 = .ok (.iaload, 1) := by decide +kernel
theorem dX10_takenOn_69 : decode cX10_takenOn 69 = .ok (.if_icmp .ge 59, 3) := by decide +kernel
theorem dX10_takenOn_72 : decode cX10_takenOn 72 = .ok (.iload 4, 2) := by decide +kernel
theorem dX10_takenOn_74 : decode cX10_takenOn 74 = .ok (.aload_n 0, 1) := by decide +kernel
theorem dX10_takenOn_75 : decode cX10_takenOn 75 = .ok (.getfield 67, 3) := by decide +kernel
theorem dX10_takenOn_78 : decode cX10_takenOn 78 = .ok (.iconst 5, 1) := by decide +kernel
theorem dX10_takenOn_79 : decode cX10_takenOn 79 = .ok (.iload 5, 2) := by decide +kernel
theorem dX10_takenOn_81 : decode cX10_takenOn 81 = .ok (.imul, 1) := by decide +kernel
theorem dX10_takenOn_82 : decode cX10_takenOn 82 = .ok (.iload 6, 2) := by decide +kernel
theorem dX10_takenOn_84 : decode cX10_takenOn 84 = .ok (.iadd, 1) := by decide +kernel
theorem dX10_takenOn_85 : decode cX10_takenOn 85 = .ok (.iaload, 1) := by decide +kernel
theorem dX10_takenOn_86 : decode cX10_takenOn 86 = .ok (.iload_n 1, 1) := by decide +kernel
theorem dX10_takenOn_87 : decode cX10_takenOn 87 = .ok (.if_icmp .ne 31, 3) := by decide +kernel
theorem dX10_takenOn_90 : decode cX10_takenOn 90 = .ok (.aload_n 0, 1) := by decide +kernel
theorem dX10_takenOn_91 : decode cX10_takenOn 91 = .ok (.getfield 28, 3) := by decide +kernel
theorem dX10_takenOn_94 : decode cX10_takenOn 94 = .ok (.aload_n 0, 1) := by decide +kernel
theorem dX10_takenOn_95 : decode cX10_takenOn 95 = .ok (.getfield 64, 3) := by decide +kernel
theorem dX10_takenOn_98 : decode cX10_takenOn 98 = .ok (.iconst 5, 1) := by decide +kernel
theorem dX10_takenOn_99 : decode cX10_takenOn 99 = .ok (.iload 5, 2) := by decide +kernel
theorem dX10_takenOn_101 : decode cX10_takenOn 101 = .ok (.imul, 1) := by decide +kernel
theorem dX10_takenOn_102 : decode cX10_takenOn 102 = .ok (.iload 6, 2) := by decide +kernel
theorem dX10_takenOn_104 : decode cX10_takenOn 104 = .ok (.iadd, 1) := by decide +kernel
theorem dX10_takenOn_105 : decode cX10_takenOn 105 = .ok (.iaload, 1) := by decide +kernel
theorem dX10_takenOn_106 : decode cX10_takenOn 106 = .ok (.iaload, 1) := by decide +kernel
theorem dX10_takenOn_107 : decode cX10_takenOn 107 = .ok (.aload_n 0, 1) := by decide +kernel
theorem dX10_takenOn_108 : decode cX10_takenOn 108 = .ok (.getfield 55, 3) := by decide +kernel
theorem dX10_takenOn_111 : decode cX10_takenOn 111 = .ok (.iload 5, 2) := by decide +kernel
theorem dX10_takenOn_113 : decode cX10_takenOn 113 = .ok (.iaload, 1) := by decide +kernel
theorem dX10_takenOn_114 : decode cX10_takenOn 114 = .ok (.iadd, 1) := by decide +kernel
theorem dX10_takenOn_115 : decode cX10_takenOn 115 = .ok (.goto 4, 3) := by decide +kernel
theorem dX10_takenOn_118 : decode cX10_takenOn 118 = .ok (.iconst 0, 1) := by decide +kernel
theorem dX10_takenOn_119 : decode cX10_takenOn 119 = .ok (.iadd, 1) := by decide +kernel
theorem dX10_takenOn_120 : decode cX10_takenOn 120 = .ok (.istore 4, 2) := by decide +kernel
theorem dX10_takenOn_122 : decode cX10_takenOn 122 = .ok (.iinc 6 1, 3) := by decide +kernel
theorem dX10_takenOn_125 : decode cX10_takenOn 125 = .ok (.goto (-65), 3) := by decide +kernel
theorem dX10_takenOn_128 : decode cX10_takenOn 128 = .ok (.iinc 5 1, 3) := by decide +kernel
theorem dX10_takenOn_131 : decode cX10_takenOn 131 = .ok (.goto (-125), 3) := by decide +kernel
theorem dX10_takenOn_134 : decode cX10_takenOn 134 = .ok (.iload 4, 2) := by decide +kernel
theorem dX10_takenOn_136 : decode cX10_takenOn 136 = .ok (.ireturn, 1) := by decide +kernel
theorem dX10_isTooShort_0 : decode cX10_isTooShort 0 = .ok (.aload_n 0, 1) := by decide +kernel
theorem dX10_isTooShort_1 : decode cX10_isTooShort 1 = .ok (.getfield 70, 3) := by decide +kernel
theorem dX10_isTooShort_4 : decode cX10_isTooShort 4 = .ok (.iload_n 2, 1) := by decide +kernel
theorem dX10_isTooShort_5 : decode cX10_isTooShort 5 = .ok (.iaload, 1) := by decide +kernel
theorem dX10_isTooShort_6 : decode cX10_isTooShort 6 = .ok (.istore_n 3, 1) := by decide +kernel
theorem dX10_isTooShort_7 : decode cX10_isTooShort 7 = .ok (.iconst 0, 1) := by decide +kernel
theorem dX10_isTooShort_8 : decode cX10_isTooShort 8 = .ok (.istore 4, 2) := by decide +kernel
theorem dX10_isTooShort_10 : decode cX10_isTooShort 10 = .ok (.iconst 0, 1) := by decide +kernel
theorem dX10_isTooShort_11 : decode cX10_isTooShort 11 = .ok (.istore 5, 2) := by decide +kernel
theorem dX10_isTooShort_13 : decode cX10_isTooShort 13 = .ok (.iload 5, 2) := by decide +kernel
theorem dX10_isTooShort_15 : decode cX10_isTooShort 15 = .ok (.iload_n 2, 1) := by decide +kernel
theorem dX10_isTooShort_16 : decode cX10_isTooShort 16 = .ok (.if_icmp .gt 52, 3) := by decide +kernel
theorem dX10_isTooShort_19 : decode cX10_isTooShort 19 = .ok (.iload 4, 2) := by decide +kernel
theorem dX10_isTooShort_21 : decode cX10_isTooShort 21 = .ok (.aload_n 0, 1) := by decide +kernel
theorem dX10_isTooShort_22 : decode cX10_isTooShort 22 = .ok (.getfield 70, 3) := by decide +kernel
theorem dX10_isTooShort_25 : decode cX10_isTooShort 25 = .ok (.iload 5, 2) := by decide +kernel
theorem dX10_isTooShort_27 : decode cX10_isTooShort 27 = .ok (.iaload, 1) := by decide +kernel
theorem dX10_isTooShort_28 : decode cX10_isTooShort 28 = .ok (.iload_n 3, 1) := by decide +kernel
theorem dX10_isTooShort_29 : decode cX10_isTooShort 29 = .ok (.if_icmp .ne 29, 3) := by decide +kernel
theorem dX10_isTooShort_32 : decode cX10_isTooShort 32 = .ok (.aload_n 0, 1) := by decide +kernel
theorem dX10_isTooShort_33 : decode cX10_isTooShort 33 = .ok (.getfield 28, 3) := by decide +kernel
theorem dX10_isTooShort_36 : decode cX10_isTooShort 36 = .ok (.aload_n 0, 1) := by decide +kernel
theorem dX10_isTooShort_37 : decode cX10_isTooShort 37 = .ok (.getfield 64, 3) := by decide +kernel
theorem dX10_isTooShort_40 : decode cX10_isTooShort 40 = .ok (.iconst 5, 1) := by decide +kernel
theorem dX10_isTooShort_41 : decode cX10_isTooShort 41 = .ok (.iload_n 1, 1) := by decide +kernel
theorem dX10_isTooShort_42 : decode cX10_isTooShort 42 = .ok (.imul, 1) := by decide +kernel
theorem dX10_isTooShort_43 : decode cX10_isTooShort 43 = .ok (.iload 5, 2) := by decide +kernel
theorem dX10_isTooShort_45 : decode cX10_isTooShort 45 = .ok (.iadd, 1) := by decide +kernel
theorem dX10_isTooShort_46 : decode cX10_isTooShort 46 = .ok (.iaload, 1) := by decide +kernel
theorem dX10_isTooShort_47 : decode cX10_isTooShort 47 = .ok (.iaload, 1) := by decide +kernel
theorem dX10_isTooShort_48 : decode cX10_isTooShort 48 = .ok (.aload_n 0, 1) := by decide +kernel
theorem dX10_isTooShort_49 : decode cX10_isTooShort 49 = .ok (.getfield 55, 3) := by decide +kernel
theorem dX10_isTooShort_52 : decode cX10_isTooShort 52 = .ok (.iload_n 1, 1) := by decide +kernel
theorem dX10_isTooShort_53 : decode cX10_isTooShort 53 = .ok (.iaload, 1) := by decide +kernel
theorem dX10_isTooShort_54 : decode cX10_isTooShort 54 = .ok (.iadd, 1) := by decide +kernel
theorem dX10_isTooShort_55 : decode cX10_isTooShort 55 = .ok (.goto 4, 3) := by decide +kernel
theorem dX10_isTooShort_58 : decode cX10_isTooShort 58 = .ok (.iconst 0, 1) := by decide +kernel
theorem dX10_isTooShort_59 : decode cX10_isTooShort 59 = .ok (.iadd, 1) := by decide +kernel
theorem dX10_isTooShort_60 : decode cX10_isTooShort 60 = .ok (.istore 4, 2) := by decide +kernel
theorem dX10_isTooShort_62 : decode cX10_isTooShort 62 = .ok (.iinc 5 1, 3) := by decide +kernel
theorem dX10_isTooShort_65 : decode cX10_isTooShort 65 = .ok (.goto (-52), 3) := by decide +kernel
theorem dX10_isTooShort_68 : decode cX10_isTooShort 68 = .ok (.aload_n 0, 1) := by decide +kernel
theorem dX10_isTooShort_69 : decode cX10_isTooShort 69 = .ok (.getfield 49, 3) := by decide +kernel
theorem dX10_isTooShort_72 : decode cX10_isTooShort 72 = .ok (.iload_n 1, 1) := by decide +kernel
theorem dX10_isTooShort_73 : decode cX10_isTooShort 73 = .ok (.iaload, 1) := by decide +kernel
theorem dX10_isTooShort_74 : decode cX10_isTooShort 74 = .ok (.istore 5, 2) := by decide +kernel
theorem dX10_isTooShort_76 : decode cX10_isTooShort 76 = .ok (.iload 5, 2) := by decide +kernel
theorem dX10_isTooShort_78 : decode cX10_isTooShort 78 = .ok (.aload_n 0, 1) := by decide +kernel
theorem dX10_isTooShort_79 : decode cX10_isTooShort 79 = .ok (.getfield 52, 3) := by decide +kernel
theorem dX10_isTooShort_82 : decode cX10_isTooShort 82 = .ok (.iload_n 1, 1) := by decide +kernel
theorem dX10_isTooShort_83 : decode cX10_isTooShort 83 = .ok (.iaload, 1) := by decide +kernel
theorem dX10_isTooShort_84 : decode cX10_isTooShort 84 = .ok (.if_icmp .gt 31, 3) := by decide +kernel
theorem dX10_isTooShort_87 : decode cX10_isTooShort 87 = .ok (.aload_n 0, 1) := by decide +kernel
theorem dX10_isTooShort_88 : decode cX10_isTooShort 88 = .ok (.iload_n 3, 1) := by decide +kernel
theorem dX10_isTooShort_89 : decode cX10_isTooShort 89 = .ok (.iload 5, 2) := by decide +kernel
theorem dX10_isTooShort_91 : decode cX10_isTooShort 91 = .ok (.iload_n 1, 1) := by decide +kernel
theorem dX10_isTooShort_92 : decode cX10_isTooShort 92 = .ok (.invokevirtual 153, 3) := by decide +kernel
theorem dX10_isTooShort_95 : decode cX10_isTooShort 95 = .ok (.iload 4, 2) := by decide +kernel
theorem dX10_isTooShort_97 : decode cX10_isTooShort 97 = .ok (.iadd, 1) := by decide +kernel
theorem dX10_isTooShort_98 : decode cX10_isTooShort 98 = .ok (.aload_n 0, 1) := by decide +kernel
theorem dX10_isTooShort_99 : decode cX10_isTooShort 99 = .ok (.getfield 16, 3) := by decide +kernel
theorem dX10_isTooShort_102 : decode cX10_isTooShort 102 = .ok (.iload_n 3, 1) := by decide +kernel
theorem dX10_isTooShort_103 : decode cX10_isTooShort 103 = .ok (.iaload, 1) := by decide +kernel
theorem dX10_isTooShort_104 : decode cX10_isTooShort 104 = .ok (.if_icmp .le 5, 3) := by decide +kernel
theorem dX10_isTooShort_107 : decode cX10_isTooShort 107 = .ok (.iconst 1, 1) := by decide +kernel
theorem dX10_isTooShort_108 : decode cX10_isTooShort 108 = .ok (.ireturn, 1) := by decide +kernel
theorem dX10_isTooShort_109 : decode cX10_isTooShort 109 = .ok (.iinc 5 1, 3) := by decide +kernel
theorem dX10_isTooShort_112 : decode cX10_isTooShort 112 = .ok (.goto (-36), 3) := by decide +kernel
theorem dX10_isTooShort_115 : decode cX10_isTooShort 115 = .ok (.iconst 0, 1) := by decide +kernel
theorem dX10_isTooShort_116 : decode cX10_isTooShort 116 = .ok (.ireturn, 1) := by decide +kernel
theorem dX10_breaksOthers_0 : decode cX10_breaksOthers 0 = .ok (.iconst 0, 1) := by decide +kernel
theorem dX10_breaksOthers_1 : decode cX10_breaksOthers 1 = .ok (.istore 4, 2) := by decide +kernel
theorem dX10_breaksOthers_3 : decode cX10_breaksOthers 3 = .ok (.iload 4, 2) := by decide +kernel
theorem dX10_breaksOthers_5 : decode cX10_breaksOthers 5 = .ok (.aload_n 0, 1) := by decide +kernel
theorem dX10_breaksOthers_6 : decode cX10_breaksOthers 6 = .ok (.getfield 92, 3) := by decide +kernel
theorem dX10_breaksOthers_9 : decode cX10_breaksOthers 9 = .ok (.if_icmp .ge 104, 3) := by decide +kernel
theorem dX10_breaksOthers_12 : decode cX10_breaksOthers 12 = .ok (.iload 4, 2) := by decide +kernel
theorem dX10_breaksOthers_14 : decode cX10_breaksOthers 14 = .ok (.iload_n 1, 1) := by decide +kernel
theorem dX10_breaksOthers_15 : decode cX10_breaksOthers 15 = .ok (.if_icmp .eq 92, 3) := by decide +kernel
theorem dX10_breaksOthers_18 : decode cX10_breaksOthers 18 = .ok (.aload_n 0, 1) := by decide +kernel
theorem dX10_breaksOthers_19 : decode cX10_breaksOthers 19 = .ok (.getfield 58, 3) := by decide +kernel
theorem dX10_breaksOthers_22 : decode cX10_breaksOthers 22 = .ok (.iload 4, 2) := by decide +kernel
theorem dX10_breaksOthers_24 : decode cX10_breaksOthers 24 = .ok (.iaload, 1) := by decide +kernel
theorem dX10_breaksOthers_25 : decode cX10_breaksOthers 25 = .ok (.bipush 112, 2) := by decide +kernel
theorem dX10_breaksOthers_27 : decode cX10_breaksOthers 27 = .ok (.if_icmp .ne 80, 3) := by decide +kernel
theorem dX10_breaksOthers_30 : decode cX10_breaksOthers 30 = .ok (.aload_n 0, 1) := by decide +kernel
theorem dX10_breaksOthers_31 : decode cX10_breaksOthers 31 = .ok (.iload 4, 2) := by decide +kernel
theorem dX10_breaksOthers_33 : decode cX10_breaksOthers 33 = .ok (.iload_n 1, 1) := by decide +kernel
theorem dX10_breaksOthers_34 : decode cX10_breaksOthers 34 = .ok (.invokevirtual 117, 3) := by decide +kernel
theorem dX10_breaksOthers_37 : decode cX10_breaksOthers 37 = .ok (.ifCond .ne 6, 3) := by decide +kernel
theorem dX10_breaksOthers_40 : decode cX10_breaksOthers 40 = .ok (.goto 67, 3) := by decide +kernel
theorem dX10_breaksOthers_43 : decode cX10_breaksOthers 43 = .ok (.iconst 0, 1) := by decide +kernel
theorem dX10_breaksOthers_44 : decode cX10_breaksOthers 44 = .ok (.istore 5, 2) := by decide +kernel
theorem dX10_breaksOthers_46 : decode cX10_breaksOthers 46 = .ok (.iload 5, 2) := by decide +kernel
theorem dX10_breaksOthers_48 : decode cX10_breaksOthers 48 = .ok (.aload_n 0, 1) := by decide +kernel
theorem dX10_breaksOthers_49 : decode cX10_breaksOthers 49 = .ok (.getfield 61, 3) := by decide +kernel
theorem dX10_breaksOthers_52 : decode cX10_breaksOthers 52 = .ok (.iload 4, 2) := by decide +kernel
theorem dX10_breaksOthers_54 : decode cX10_breaksOthers 54 = .ok (.iaload, 1) := by decide +kernel
theorem dX10_breaksOthers_55 : decode cX10_breaksOthers 55 = .ok (.if_icmp .ge 52, 3) := by decide +kernel
theorem dX10_breaksOthers_58 : decode cX10_breaksOthers 58 = .ok (.aload_n 0, 1) := by decide +kernel
theorem dX10_breaksOthers_59 : decode cX10_breaksOthers 59 = .ok (.getfield 46, 3) := by decide +kernel
theorem dX10_breaksOthers_62 : decode cX10_breaksOthers 62 = .ok (.bipush 12, 2) := by decide +kernel
theorem dX10_breaksOthers_64 : decode cX10_breaksOthers 64 = .ok (.iload_n 2, 1) := by decide +kernel
theorem dX10_breaksOthers_65 : decode cX10_breaksOthers 65 = .ok (.imul, 1) := by decide +kernel
theorem dX10_breaksOthers_66 : decode cX10_breaksOthers 66 = .ok (.aload_n 0, 1) := by decide +kernel
theorem dX10_breaksOthers_67 : decode cX10_breaksOthers 67 = .ok (.getfield 64, 3) := by decide +kernel
theorem dX10_breaksOthers_70 : decode cX10_breaksOthers 70 = .ok (.iconst 5, 1) := by decide +kernel
theorem dX10_breaksOthers_71 : decode cX10_breaksOthers 71 = .ok (.iload 4, 2) := by decide +kernel
theorem dX10_breaksOthers_73 : decode cX10_breaksOthers 73 = .ok (.imul, 1) := by decide +kernel
theorem dX10_breaksOthers_74 : decode cX10_breaksOthers 74 = .ok (.iload 5, 2) := by decide +kernel
theorem dX10_breaksOthers_76 : decode cX10_breaksOthers 76 = .ok (.iadd, 1) := by decide +kernel
theorem dX10_breaksOthers_77 : decode cX10_breaksOthers 77 = .ok (.iaload, 1) := by decide +kernel
theorem dX10_breaksOthers_78 : decode cX10_breaksOthers 78 = .ok (.iadd, 1) := by decide +kernel
theorem dX10_breaksOthers_79 : decode cX10_breaksOthers 79 = .ok (.iaload, 1) := by decide +kernel
theorem dX10_breaksOthers_80 : decode cX10_breaksOthers 80 = .ok (.iload_n 3, 1) := by decide +kernel
theorem dX10_breaksOthers_81 : decode cX10_breaksOthers 81 = .ok (.aload_n 0, 1) := by decide +kernel
theorem dX10_breaksOthers_82 : decode cX10_breaksOthers 82 = .ok (.getfield 67, 3) := by decide +kernel
theorem dX10_breaksOthers_85 : decode cX10_breaksOthers 85 = .ok (.iconst 5, 1) := by decide +kernel
theorem dX10_breaksOthers_86 : decode cX10_breaksOthers 86 = .ok (.iload 4, 2) := by decide +kernel
theorem dX10_breaksOthers_88 : decode cX10_breaksOthers 88 = .ok (.imul, 1) := by decide +kernel
theorem dX10_breaksOthers_89 : decode cX10_breaksOthers 89 = .ok (.iload 5, 2) := by decide +kernel
theorem dX10_breaksOthers_91 : decode cX10_breaksOthers 91 = .ok (.iadd, 1) := by decide +kernel
theorem dX10_breaksOthers_92 : decode cX10_breaksOthers 92 = .ok (.iaload, 1) := by decide +kernel
theorem dX10_breaksOthers_93 : decode cX10_breaksOthers 93 = .ok (.invokestatic 120, 3) := by decide +kernel
theorem dX10_breaksOthers_96 : decode cX10_breaksOthers 96 = .ok (.ifCond .eq 5, 3) := by decide +kernel
theorem dX10_breaksOthers_99 : decode cX10_breaksOthers 99 = .ok (.iconst 1, 1) := by decide +kernel
theorem dX10_breaksOthers_100 : decode cX10_breaksOthers 100 = .ok (.ireturn, 1) := by decide +kernel
theorem dX10_breaksOthers_101 : decode cX10_breaksOthers 101 = .ok (.iinc 5 1, 3) := by decide +kernel
theorem dX10_breaksOthers_104 : decode cX10_breaksOthers 104 = .ok (.goto (-58), 3) := by decide +kernel
theorem dX10_breaksOthers_107 : decode cX10_breaksOthers 107 = .ok (.iinc 4 1, 3) := by decide +kernel
theorem dX10_breaksOthers_110 : decode cX10_breaksOthers 110 = .ok (.goto (-107), 3) := by decide +kernel
theorem dX10_breaksOthers_113 : decode cX10_breaksOthers 113 = .ok (.iconst 0, 1) := by decide +kernel
theorem dX10_breaksOthers_114 : decode cX10_breaksOthers 114 = .ok (.ireturn, 1) := by decide +kernel
theorem dX10_hangs_0 : decode cX10_hangs 0 = .ok (.aload_n 0, 1) := by decide +kernel
theorem dX10_hangs_1 : decode cX10_hangs 1 = .ok (.getfield 64, 3) := by decide +kernel
theorem dX10_hangs_4 : decode cX10_hangs 4 = .ok (.iconst 5, 1) := by decide +kernel
theorem dX10_hangs_5 : decode cX10_hangs 5 = .ok (.iload_n 1, 1) := by decide +kernel
theorem dX10_hangs_6 : decode cX10_hangs 6 = .ok (.imul, 1) := by decide +kernel
theorem dX10_hangs_7 : decode cX10_hangs 7 = .ok (.iload_n 2, 1) := by decide +kernel
theorem dX10_hangs_8 : decode cX10_hangs 8 = .ok (.iadd, 1) := by decide +kernel
theorem dX10_hangs_9 : decode cX10_hangs 9 = .ok (.iaload, 1) := by decide +kernel
theorem dX10_hangs_10 : decode cX10_hangs 10 = .ok (.istore_n 3, 1) := by decide +kernel
theorem dX10_hangs_11 : decode cX10_hangs 11 = .ok (.aload_n 0, 1) := by decide +kernel
theorem dX10_hangs_12 : decode cX10_hangs 12 = .ok (.getfield 70, 3) := by decide +kernel
theorem dX10_hangs_15 : decode cX10_hangs 15 = .ok (.iload_n 2, 1) := by decide +kernel
theorem dX10_hangs_16 : decode cX10_hangs 16 = .ok (.iaload, 1) := by decide +kernel
theorem dX10_hangs_17 : decode cX10_hangs 17 = .ok (.istore 4, 2) := by decide +kernel
theorem dX10_hangs_19 : decode cX10_hangs 19 = .ok (.aload_n 0, 1) := by decide +kernel
theorem dX10_hangs_20 : decode cX10_hangs 20 = .ok (.iload_n 3, 1) := by decide +kernel
theorem dX10_hangs_21 : decode cX10_hangs 21 = .ok (.iload 4, 2) := by decide +kernel
theorem dX10_hangs_23 : decode cX10_hangs 23 = .ok (.iconst 2, 1) := by decide +kernel
theorem dX10_hangs_24 : decode cX10_hangs 24 = .ok (.idiv, 1) := by decide +kernel
theorem dX10_hangs_25 : decode cX10_hangs 25 = .ok (.invokevirtual 106, 3) := by decide +kernel
theorem dX10_hangs_28 : decode cX10_hangs 28 = .ok (.ifCond .eq 23, 3) := by decide +kernel
theorem dX10_hangs_31 : decode cX10_hangs 31 = .ok (.aload_n 0, 1) := by decide +kernel
theorem dX10_hangs_32 : decode cX10_hangs 32 = .ok (.iload_n 1, 1) := by decide +kernel
theorem dX10_hangs_33 : decode cX10_hangs 33 = .ok (.iload_n 3, 1) := by decide +kernel
theorem dX10_hangs_34 : decode cX10_hangs 34 = .ok (.iload 4, 2) := by decide +kernel
theorem dX10_hangs_36 : decode cX10_hangs 36 = .ok (.invokevirtual 157, 3) := by decide +kernel
theorem dX10_hangs_39 : decode cX10_hangs 39 = .ok (.ifCond .ne 12, 3) := by decide +kernel
theorem dX10_hangs_42 : decode cX10_hangs 42 = .ok (.aload_n 0, 1) := by decide +kernel
theorem dX10_hangs_43 : decode cX10_hangs 43 = .ok (.iload_n 1, 1) := by decide +kernel
theorem dX10_hangs_44 : decode cX10_hangs 44 = .ok (.iload_n 2, 1) := by decide +kernel
theorem dX10_hangs_45 : decode cX10_hangs 45 = .ok (.invokevirtual 160, 3) := by decide +kernel
theorem dX10_hangs_48 : decode cX10_hangs 48 = .ok (.ifCond .eq 5, 3) := by decide +kernel
theorem dX10_hangs_51 : decode cX10_hangs 51 = .ok (.iconst 0, 1) := by decide +kernel
theorem dX10_hangs_52 : decode cX10_hangs 52 = .ok (.ireturn, 1) := by decide +kernel
theorem dX10_hangs_53 : decode cX10_hangs 53 = .ok (.iconst 0, 1) := by decide +kernel
theorem dX10_hangs_54 : decode cX10_hangs 54 = .ok (.istore 5, 2) := by decide +kernel
theorem dX10_hangs_56 : decode cX10_hangs 56 = .ok (.iload 5, 2) := by decide +kernel
theorem dX10_hangs_58 : decode cX10_hangs 58 = .ok (.iload_n 2, 1) := by decide +kernel
theorem dX10_hangs_59 : decode cX10_hangs 59 = .ok (.if_icmp .ge 47, 3) := by decide +kernel
theorem dX10_hangs_62 : decode cX10_hangs 62 = .ok (.aload_n 0, 1) := by decide +kernel
theorem dX10_hangs_63 : decode cX10_hangs 63 = .ok (.getfield 46, 3) := by decide +kernel
theorem dX10_hangs_66 : decode cX10_hangs 66 = .ok (.bipush 12, 2) := by decide +kernel
theorem dX10_hangs_68 : decode cX10_hangs 68 = .ok (.iload_n 3, 1) := by decide +kernel
theorem dX10_hangs_69 : decode cX10_hangs 69 = .ok (.imul, 1) := by decide +kernel
theorem dX10_hangs_70 : decode cX10_hangs 70 = .ok (.aload_n 0, 1) := by decide +kernel
theorem dX10_hangs_71 : decode cX10_hangs 71 = .ok (.getfield 64, 3) := by decide +kernel
theorem dX10_hangs_74 : decode cX10_hangs 74 = .ok (.iconst 5, 1) := by decide +kernel
theorem dX10_hangs_75 : decode cX10_hangs 75 = .ok (.iload_n 1, 1) := by decide +kernel
theorem dX10_hangs_76 : decode cX10_hangs 76 = .ok (.imul, 1) := by decide +kernel
theorem dX10_hangs_77 : decode cX10_hangs 77 = .ok (.iload 5, 2) := by decide +kernel
theorem dX10_hangs_79 : decode cX10_hangs 79 = .ok (.iadd, 1) := by decide +kernel
theorem dX10_hangs_80 : decode cX10_hangs 80 = .ok (.iaload, 1) := by decide +kernel
theorem dX10_hangs_81 : decode cX10_hangs 81 = .ok (.iadd, 1) := by decide +kernel
theorem dX10_hangs_82 : decode cX10_hangs 82 = .ok (.iaload, 1) := by decide +kernel
theorem dX10_hangs_83 : decode cX10_hangs 83 = .ok (.iload 4, 2) := by decide +kernel
theorem dX10_hangs_85 : decode cX10_hangs 85 = .ok (.aload_n 0, 1) := by decide +kernel
theorem dX10_hangs_86 : decode cX10_hangs 86 = .ok (.getfield 70, 3) := by decide +kernel
theorem dX10_hangs_89 : decode cX10_hangs 89 = .ok (.iload 5, 2) := by decide +kernel
theorem dX10_hangs_91 : decode cX10_hangs 91 = .ok (.iaload, 1) := by decide +kernel
theorem dX10_hangs_92 : decode cX10_hangs 92 = .ok (.invokestatic 120, 3) := by decide +kernel
theorem dX10_hangs_95 : decode cX10_hangs 95 = .ok (.ifCond .eq 5, 3) := by decide +kernel
theorem dX10_hangs_98 : decode cX10_hangs 98 = .ok (.iconst 0, 1) := by decide +kernel
theorem dX10_hangs_99 : decode cX10_hangs 99 = .ok (.ireturn, 1) := by decide +kernel
theorem dX10_hangs_100 : decode cX10_hangs 100 = .ok (.iinc 5 1, 3) := by decide +kernel
theorem dX10_hangs_103 : decode cX10_hangs 103 = .ok (.goto (-47), 3) := by decide +kernel
theorem dX10_hangs_106 : decode cX10_hangs 106 = .ok (.iconst 1, 1) := by decide +kernel
theorem dX10_hangs_107 : decode cX10_hangs 107 = .ok (.ireturn, 1) := by decide +kernel
theorem dX10_plans_0 : decode cX10_plans 0 = .ok (.iconst 0, 1) := by decide +kernel
theorem dX10_plans_1 : decode cX10_plans 1 = .ok (.istore_n 2, 1) := by decide +kernel
theorem dX10_plans_2 : decode cX10_plans 2 = .ok (.iload_n 2, 1) := by decide +kernel
theorem dX10_plans_3 : decode cX10_plans 3 = .ok (.aload_n 0, 1) := by decide +kernel
theorem dX10_plans_4 : decode cX10_plans 4 = .ok (.getfield 61, 3) := by decide +kernel
theorem dX10_plans_7 : decode cX10_plans 7 = .ok (.iload_n 1, 1) := by decide +kernel
theorem dX10_plans_8 : decode cX10_plans 8 = .ok (.iaload, 1) := by decide +kernel
theorem dX10_plans_9 : decode cX10_plans 9 = .ok (.if_icmp .ge 29, 3) := by decide +kernel
theorem dX10_plans_12 : decode cX10_plans 12 = .ok (.aload_n 0, 1) := by decide +kernel
theorem dX10_plans_13 : decode cX10_plans 13 = .ok (.iload_n 1, 1) := by decide +kernel
theorem dX10_plans_14 : decode cX10_plans 14 = .ok (.aload_n 0, 1) := by decide +kernel
theorem dX10_plans_15 : decode cX10_plans 15 = .ok (.getfield 64, 3) := by decide +kernel
theorem dX10_plans_18 : decode cX10_plans 18 = .ok (.iconst 5, 1) := by decide +kernel
theorem dX10_plans_19 : decode cX10_plans 19 = .ok (.iload_n 1, 1) := by decide +kernel
theorem dX10_plans_20 : decode cX10_plans 20 = .ok (.imul, 1) := by decide +kernel
theorem dX10_plans_21 : decode cX10_plans 21 = .ok (.iload_n 2, 1) := by decide +kernel
theorem dX10_plans_22 : decode cX10_plans 22 = .ok (.iadd, 1) := by decide +kernel
theorem dX10_plans_23 : decode cX10_plans 23 = .ok (.iaload, 1) := by decide +kernel
theorem dX10_plans_24 : decode cX10_plans 24 = .ok (.invokevirtual 163, 3) := by decide +kernel
theorem dX10_plans_27 : decode cX10_plans 27 = .ok (.ifCond .ne 5, 3) := by decide +kernel
theorem dX10_plans_30 : decode cX10_plans 30 = .ok (.iconst 0, 1) := by decide +kernel
theorem dX10_plans_31 : decode cX10_plans 31 = .ok (.ireturn, 1) := by decide +kernel
theorem dX10_plans_32 : decode cX10_plans 32 = .ok (.iinc 2 1, 3) := by decide +kernel
theorem dX10_plans_35 : decode cX10_plans 35 = .ok (.goto (-33), 3) := by decide +kernel
theorem dX10_plans_38 : decode cX10_plans 38 = .ok (.iconst 0, 1) := by decide +kernel
theorem dX10_plans_39 : decode cX10_plans 39 = .ok (.istore_n 2, 1) := by decide +kernel
theorem dX10_plans_40 : decode cX10_plans 40 = .ok (.aload_n 0, 1) := by decide +kernel
theorem dX10_plans_41 : decode cX10_plans 41 = .ok (.getfield 70, 3) := by decide +kernel
theorem dX10_plans_44 : decode cX10_plans 44 = .ok (.iconst 0, 1) := by decide +kernel
theorem dX10_plans_45 : decode cX10_plans 45 = .ok (.iconst (-1), 1) := by decide +kernel
theorem dX10_plans_46 : decode cX10_plans 46 = .ok (.iastore, 1) := by decide +kernel
theorem dX10_plans_47 : decode cX10_plans 47 = .ok (.iload_n 2, 1) := by decide +kernel
theorem dX10_plans_48 : decode cX10_plans 48 = .ok (.ifCond .lt 76, 3) := by decide +kernel
theorem dX10_plans_51 : decode cX10_plans 51 = .ok (.iload_n 2, 1) := by decide +kernel
theorem dX10_plans_52 : decode cX10_plans 52 = .ok (.aload_n 0, 1) := by decide +kernel
theorem dX10_plans_53 : decode cX10_plans 53 = .ok (.getfield 61, 3) := by decide +kernel
theorem dX10_plans_56 : decode cX10_plans 56 = .ok (.iload_n 1, 1) := by decide +kernel
theorem dX10_plans_57 : decode cX10_plans 57 = .ok (.iaload, 1) := by decide +kernel
theorem dX10_plans_58 : decode cX10_plans 58 = .ok (.if_icmp .ge 66, 3) := by decide +kernel
theorem dX10_plans_61 : decode cX10_plans 61 = .ok (.aload_n 0, 1) := by decide +kernel
theorem dX10_plans_62 : decode cX10_plans 62 = .ok (.getfield 70, 3) := by decide +kernel
theorem dX10_plans_65 : decode cX10_plans 65 = .ok (.iload_n 2, 1) := by decide +kernel
theorem dX10_plans_66 : decode cX10_plans 66 = .ok (.dup2, 1) := by decide +kernel
theorem dX10_plans_67 : decode cX10_plans 67 = .ok (.iaload, 1) := by decide +kernel
theorem dX10_plans_68 : decode cX10_plans 68 = .ok (.iconst 1, 1) := by decide +kernel
theorem dX10_plans_69 : decode cX10_plans 69 = .ok (.iadd, 1) := by decide +kernel
theorem dX10_plans_70 : decode cX10_plans 70 = .ok (.iastore, 1) := by decide +kernel
theorem dX10_plans_71 : decode cX10_plans 71 = .ok (.aload_n 0, 1) := by decide +kernel
theorem dX10_plans_72 : decode cX10_plans 72 = .ok (.getfield 70, 3) := by decide +kernel
theorem dX10_plans_75 : decode cX10_plans 75 = .ok (.iload_n 2, 1) := by decide +kernel
theorem dX10_plans_76 : decode cX10_plans 76 = .ok (.iaload, 1) := by decide +kernel
theorem dX10_plans_77 : decode cX10_plans 77 = .ok (.iconst 2, 1) := by decide +kernel
theorem dX10_plans_78 : decode cX10_plans 78 = .ok (.aload_n 0, 1) := by decide +kernel
theorem dX10_plans_79 : decode cX10_plans 79 = .ok (.getfield 83, 3) := by decide +kernel
theorem dX10_plans_82 : decode cX10_plans 82 = .ok (.imul, 1) := by decide +kernel
theorem dX10_plans_83 : decode cX10_plans 83 = .ok (.if_icmp .ne 9, 3) := by decide +kernel
theorem dX10_plans_86 : decode cX10_plans 86 = .ok (.iinc 2 (-1), 3) := by decide +kernel
theorem dX10_plans_89 : decode cX10_plans 89 = .ok (.goto (-42), 3) := by decide +kernel
theorem dX10_plans_92 : decode cX10_plans 92 = .ok (.aload_n 0, 1) := by decide +kernel
theorem dX10_plans_93 : decode cX10_plans 93 = .ok (.iload_n 1, 1) := by decide +kernel
theorem dX10_plans_94 : decode cX10_plans 94 = .ok (.iload_n 2, 1) := by decide +kernel
theorem dX10_plans_95 : decode cX10_plans 95 = .ok (.invokevirtual 166, 3) := by decide +kernel
theorem dX10_plans_98 : decode cX10_plans 98 = .ok (.ifCond .eq (-51), 3) := by decide +kernel
theorem dX10_plans_101 : decode cX10_plans 101 = .ok (.iinc 2 1, 3) := by decide +kernel
theorem dX10_plans_104 : decode cX10_plans 104 = .ok (.iload_n 2, 1) := by decide +kernel
theorem dX10_plans_105 : decode cX10_plans 105 = .ok (.aload_n 0, 1) := by decide +kernel
theorem dX10_plans_106 : decode cX10_plans 106 = .ok (.getfield 61, 3) := by decide +kernel
theorem dX10_plans_109 : decode cX10_plans 109 = .ok (.iload_n 1, 1) := by decide +kernel
theorem dX10_plans_110 : decode cX10_plans 110 = .ok (.iaload, 1) := by decide +kernel
theorem dX10_plans_111 : decode cX10_plans 111 = .ok (.if_icmp .ge (-64), 3) := by decide +kernel
theorem dX10_plans_114 : decode cX10_plans 114 = .ok (.aload_n 0, 1) := by decide +kernel
theorem dX10_plans_115 : decode cX10_plans 115 = .ok (.getfield 70, 3) := by decide +kernel
theorem dX10_plans_118 : decode cX10_plans 118 = .ok (.iload_n 2, 1) := by decide +kernel
theorem dX10_plans_119 : decode cX10_plans 119 = .ok (.iconst (-1), 1) := by decide +kernel
theorem dX10_plans_120 : decode cX10_plans 120 = .ok (.iastore, 1) := by decide +kernel
theorem dX10_plans_121 : decode cX10_plans 121 = .ok (.goto (-74), 3) := by decide +kernel
theorem dX10_plans_124 : decode cX10_plans 124 = .ok (.iload_n 2, 1) := by decide +kernel
theorem dX10_plans_125 : decode cX10_plans 125 = .ok (.ifCond .gt 12, 3) := by decide +kernel
theorem dX10_plans_128 : decode cX10_plans 128 = .ok (.aload_n 0, 1) := by decide +kernel
theorem dX10_plans_129 : decode cX10_plans 129 = .ok (.getfield 61, 3) := by decide +kernel
theorem dX10_plans_132 : decode cX10_plans 132 = .ok (.iload_n 1, 1) := by decide +kernel
theorem dX10_plans_133 : decode cX10_plans 133 = .ok (.iaload, 1) := by decide +kernel
theorem dX10_plans_134 : decode cX10_plans 134 = .ok (.ifCond .ne 7, 3) := by decide +kernel
theorem dX10_plans_137 : decode cX10_plans 137 = .ok (.iconst 1, 1) := by decide +kernel
theorem dX10_plans_138 : decode cX10_plans 138 = .ok (.goto 4, 3) := by decide +kernel
theorem dX10_plans_141 : decode cX10_plans 141 = .ok (.iconst 0, 1) := by decide +kernel
theorem dX10_plans_142 : decode cX10_plans 142 = .ok (.ireturn, 1) := by decide +kernel
theorem dX10_settles_0 : decode cX10_settles 0 = .ok (.aload_n 0, 1) := by decide +kernel
theorem dX10_settles_1 : decode cX10_settles 1 = .ok (.iload_n 1, 1) := by decide +kernel
theorem dX10_settles_2 : decode cX10_settles 2 = .ok (.invokevirtual 169, 3) := by decide +kernel
theorem dX10_settles_5 : decode cX10_settles 5 = .ok (.ifCond .ne 5, 3) := by decide +kernel
theorem dX10_settles_8 : decode cX10_settles 8 = .ok (.iconst 0, 1) := by decide +kernel
theorem dX10_settles_9 : decode cX10_settles 9 = .ok (.ireturn, 1) := by decide +kernel
theorem dX10_settles_10 : decode cX10_settles 10 = .ok (.iconst 0, 1) := by decide +kernel
theorem dX10_settles_11 : decode cX10_settles 11 = .ok (.istore_n 2, 1) := by decide +kernel
theorem dX10_settles_12 : decode cX10_settles 12 = .ok (.iload_n 2, 1) := by decide +kernel
theorem dX10_settles_13 : decode cX10_settles 13 = .ok (.aload_n 0, 1) := by decide +kernel
theorem dX10_settles_14 : decode cX10_settles 14 = .ok (.getfield 61, 3) := by decide +kernel
theorem dX10_settles_17 : decode cX10_settles 17 = .ok (.iload_n 1, 1) := by decide +kernel
theorem dX10_settles_18 : decode cX10_settles 18 = .ok (.iaload, 1) := by decide +kernel
theorem dX10_settles_19 : decode cX10_settles 19 = .ok (.if_icmp .ge 25, 3) := by decide +kernel
theorem dX10_settles_22 : decode cX10_settles 22 = .ok (.aload_n 0, 1) := by decide +kernel
theorem dX10_settles_23 : decode cX10_settles 23 = .ok (.getfield 67, 3) := by decide +kernel
theorem dX10_settles_26 : decode cX10_settles 26 = .ok (.iconst 5, 1) := by decide +kernel
theorem dX10_settles_27 : decode cX10_settles 27 = .ok (.iload_n 1, 1) := by decide +kernel
theorem dX10_settles_28 : decode cX10_settles 28 = .ok (.imul, 1) := by decide +kernel
theorem dX10_settles_29 : decode cX10_settles 29 = .ok (.iload_n 2, 1) := by decide +kernel
theorem dX10_settles_30 : decode cX10_settles 30 = .ok (.iadd, 1) := by decide +kernel
theorem dX10_settles_31 : decode cX10_settles 31 = .ok (.aload_n 0, 1) := by decide +kernel
theorem dX10_settles_32 : decode cX10_settles 32 = .ok (.getfield 70, 3) := by decide +kernel
theorem dX10_settles_35 : decode cX10_settles 35 = .ok (.iload_n 2, 1) := by decide +kernel
theorem dX10_settles_36 : decode cX10_settles 36 = .ok (.iaload, 1) := by decide +kernel
theorem dX10_settles_37 : decode cX10_settles 37 = .ok (.iastore, 1) := by decide +kernel
theorem dX10_settles_38 : decode cX10_settles 38 = .ok (.iinc 2 1, 3) := by decide +kernel
theorem dX10_settles_41 : decode cX10_settles 41 = .ok (.goto (-29), 3) := by decide +kernel
theorem dX10_settles_44 : decode cX10_settles 44 = .ok (.aload_n 0, 1) := by decide +kernel
theorem dX10_settles_45 : decode cX10_settles 45 = .ok (.getfield 58, 3) := by decide +kernel
theorem dX10_settles_48 : decode cX10_settles 48 = .ok (.iload_n 1, 1) := by decide +kernel
theorem dX10_settles_49 : decode cX10_settles 49 = .ok (.bipush 112, 2) := by decide +kernel
theorem dX10_settles_51 : decode cX10_settles 51 = .ok (.iastore, 1) := by decide +kernel
theorem dX10_settles_52 : decode cX10_settles 52 = .ok (.aload_n 0, 1) := by decide +kernel
theorem dX10_settles_53 : decode cX10_settles 53 = .ok (.dup, 1) := by decide +kernel
theorem dX10_settles_54 : decode cX10_settles 54 = .ok (.getfield 95, 3) := by decide +kernel
theorem dX10_settles_57 : decode cX10_settles 57 = .ok (.iconst 1, 1) := by decide +kernel
theorem dX10_settles_58 : decode cX10_settles 58 = .ok (.iadd, 1) := by decide +kernel
theorem dX10_settles_59 : decode cX10_settles 59 = .ok (.putfield 95, 3) := by decide +kernel
theorem dX10_settles_62 : decode cX10_settles 62 = .ok (.iconst 1, 1) := by decide +kernel
theorem dX10_settles_63 : decode cX10_settles 63 = .ok (.ireturn, 1) := by decide +kernel
theorem dX10_looks_0 : decode cX10_looks 0 = .ok (.iconst 0, 1) := by decide +kernel
theorem dX10_looks_1 : decode cX10_looks 1 = .ok (.istore_n 1, 1) := by decide +kernel
theorem dX10_looks_2 : decode cX10_looks 2 = .ok (.iconst 0, 1) := by decide +kernel
theorem dX10_looks_3 : decode cX10_looks 3 = .ok (.istore_n 2, 1) := by decide +kernel
theorem dX10_looks_4 : decode cX10_looks 4 = .ok (.iload_n 2, 1) := by decide +kernel
theorem dX10_looks_5 : decode cX10_looks 5 = .ok (.aload_n 0, 1) := by decide +kernel
theorem dX10_looks_6 : decode cX10_looks 6 = .ok (.getfield 92, 3) := by decide +kernel
theorem dX10_looks_9 : decode cX10_looks 9 = .ok (.if_icmp .ge 36, 3) := by decide +kernel
theorem dX10_looks_12 : decode cX10_looks 12 = .ok (.iload_n 1, 1) := by decide +kernel
theorem dX10_looks_13 : decode cX10_looks 13 = .ok (.aload_n 0, 1) := by decide +kernel
theorem dX10_looks_14 : decode cX10_looks 14 = .ok (.getfield 58, 3) := by decide +kernel
theorem dX10_looks_17 : decode cX10_looks 17 = .ok (.iload_n 2, 1) := by decide +kernel
theorem dX10_looks_18 : decode cX10_looks 18 = .ok (.iaload, 1) := by decide +kernel
theorem dX10_looks_19 : decode cX10_looks 19 = .ok (.bipush 119, 2) := by decide +kernel
theorem dX10_looks_21 : decode cX10_looks 21 = .ok (.if_icmp .ne 15, 3) := by decide +kernel
theorem dX10_looks_24 : decode cX10_looks 24 = .ok (.aload_n 0, 1) := by decide +kernel
theorem dX10_looks_25 : decode cX10_looks 25 = .ok (.iload_n 2, 1) := by decide +kernel
theorem dX10_looks_26 : decode cX10_looks 26 = .ok (.invokevirtual 172, 3) := by decide +kernel
theorem dX10_looks_29 : decode cX10_looks 29 = .ok (.ifCond .eq 7, 3) := by decide +kernel
theorem dX10_looks_32 : decode cX10_looks 32 = .ok (.iconst 1, 1) := by decide +kernel
theorem dX10_looks_33 : decode cX10_looks 33 = .ok (.goto 4, 3) := by decide +kernel
theorem dX10_looks_36 : decode cX10_looks 36 = .ok (.iconst 0, 1) := by decide +kernel
theorem dX10_looks_37 : decode cX10_looks 37 = .ok (.iadd, 1) := by decide +kernel
theorem dX10_looks_38 : decode cX10_looks 38 = .ok (.istore_n 1, 1) := by decide +kernel
theorem dX10_looks_39 : decode cX10_looks 39 = .ok (.iinc 2 1, 3) := by decide +kernel
theorem dX10_looks_42 : decode cX10_looks 42 = .ok (.goto (-38), 3) := by decide +kernel
theorem dX10_looks_45 : decode cX10_looks 45 = .ok (.iload_n 1, 1) := by decide +kernel
theorem dX10_looks_46 : decode cX10_looks 46 = .ok (.ireturn, 1) := by decide +kernel
theorem dX10_request_0 : decode cX10_request 0 = .ok (.aload_n 0, 1) := by decide +kernel
theorem dX10_request_1 : decode cX10_request 1 = .ok (.aload_n 0, 1) := by decide +kernel
theorem dX10_request_2 : decode cX10_request 2 = .ok (.iload_n 1, 1) := by decide +kernel
theorem dX10_request_3 : decode cX10_request 3 = .ok (.invokevirtual 141, 3) := by decide +kernel
theorem dX10_request_6 : decode cX10_request 6 = .ok (.ifCond .ne 7, 3) := by decide +kernel
theorem dX10_request_9 : decode cX10_request 9 = .ok (.iconst 1, 1) := by decide +kernel
theorem dX10_request_10 : decode cX10_request 10 = .ok (.goto 32, 3) := by decide +kernel
theorem dX10_request_13 : decode cX10_request 13 = .ok (.aload_n 0, 1) := by decide +kernel
theorem dX10_request_14 : decode cX10_request 14 = .ok (.getfield 58, 3) := by decide +kernel
theorem dX10_request_17 : decode cX10_request 17 = .ok (.iload_n 1, 1) := by decide +kernel
theorem dX10_request_18 : decode cX10_request 18 = .ok (.iaload, 1) := by decide +kernel
theorem dX10_request_19 : decode cX10_request 19 = .ok (.bipush 100, 2) := by decide +kernel
theorem dX10_request_21 : decode cX10_request 21 = .ok (.if_icmp .eq 7, 3) := by decide +kernel
theorem dX10_request_24 : decode cX10_request 24 = .ok (.iconst 2, 1) := by decide +kernel
theorem dX10_request_25 : decode cX10_request 25 = .ok (.goto 17, 3) := by decide +kernel
theorem dX10_request_28 : decode cX10_request 28 = .ok (.aload_n 0, 1) := by decide +kernel
theorem dX10_request_29 : decode cX10_request 29 = .ok (.getfield 61, 3) := by decide +kernel
theorem dX10_request_32 : decode cX10_request 32 = .ok (.iload_n 1, 1) := by decide +kernel
theorem dX10_request_33 : decode cX10_request 33 = .ok (.iaload, 1) := by decide +kernel
theorem dX10_request_34 : decode cX10_request 34 = .ok (.ifCond .ne 7, 3) := by decide +kernel
theorem dX10_request_37 : decode cX10_request 37 = .ok (.iconst 3, 1) := by decide +kernel
theorem dX10_request_38 : decode cX10_request 38 = .ok (.goto 4, 3) := by decide +kernel
theorem dX10_request_41 : decode cX10_request 41 = .ok (.iconst 0, 1) := by decide +kernel
theorem dX10_request_42 : decode cX10_request 42 = .ok (.putfield 79, 3) := by decide +kernel
theorem dX10_request_45 : decode cX10_request 45 = .ok (.aload_n 0, 1) := by decide +kernel
theorem dX10_request_46 : decode cX10_request 46 = .ok (.getfield 79, 3) := by decide +kernel
theorem dX10_request_49 : decode cX10_request 49 = .ok (.ifCond .le 6, 3) := by decide +kernel
theorem dX10_request_52 : decode cX10_request 52 = .ok (.bipush 97, 2) := by decide +kernel
theorem dX10_request_54 : decode cX10_request 54 = .ok (.ireturn, 1) := by decide +kernel
theorem dX10_request_55 : decode cX10_request 55 = .ok (.aload_n 0, 1) := by decide +kernel
theorem dX10_request_56 : decode cX10_request 56 = .ok (.getfield 58, 3) := by decide +kernel
theorem dX10_request_59 : decode cX10_request 59 = .ok (.iload_n 1, 1) := by decide +kernel
theorem dX10_request_60 : decode cX10_request 60 = .ok (.bipush 119, 2) := by decide +kernel
theorem dX10_request_62 : decode cX10_request 62 = .ok (.iastore, 1) := by decide +kernel
theorem dX10_request_63 : decode cX10_request 63 = .ok (.aload_n 0, 1) := by decide +kernel
theorem dX10_request_64 : decode cX10_request 64 = .ok (.iload_n 1, 1) := by decide +kernel
theorem dX10_request_65 : decode cX10_request 65 = .ok (.invokevirtual 172, 3) := by decide +kernel
theorem dX10_request_68 : decode cX10_request 68 = .ok (.ifCond .eq 8, 3) := by decide +kernel
theorem dX10_request_71 : decode cX10_request 71 = .ok (.bipush 112, 2) := by decide +kernel
theorem dX10_request_73 : decode cX10_request 73 = .ok (.goto 5, 3) := by decide +kernel
theorem dX10_request_76 : decode cX10_request 76 = .ok (.bipush 119, 2) := by decide +kernel
theorem dX10_request_78 : decode cX10_request 78 = .ok (.ireturn, 1) := by decide +kernel
theorem dX10_cancel_0 : decode cX10_cancel 0 = .ok (.aload_n 0, 1) := by decide +kernel
theorem dX10_cancel_1 : decode cX10_cancel 1 = .ok (.aload_n 0, 1) := by decide +kernel
theorem dX10_cancel_2 : decode cX10_cancel 2 = .ok (.iload_n 1, 1) := by decide +kernel
theorem dX10_cancel_3 : decode cX10_cancel 3 = .ok (.invokevirtual 141, 3) := by decide +kernel
theorem dX10_cancel_6 : decode cX10_cancel 6 = .ok (.ifCond .ne 7, 3) := by decide +kernel
theorem dX10_cancel_9 : decode cX10_cancel 9 = .ok (.iconst 1, 1) := by decide +kernel
theorem dX10_cancel_10 : decode cX10_cancel 10 = .ok (.goto 19, 3) := by decide +kernel
theorem dX10_cancel_13 : decode cX10_cancel 13 = .ok (.aload_n 0, 1) := by decide +kernel
theorem dX10_cancel_14 : decode cX10_cancel 14 = .ok (.getfield 58, 3) := by decide +kernel
theorem dX10_cancel_17 : decode cX10_cancel 17 = .ok (.iload_n 1, 1) := by decide +kernel
theorem dX10_cancel_18 : decode cX10_cancel 18 = .ok (.iaload, 1) := by decide +kernel
theorem dX10_cancel_19 : decode cX10_cancel 19 = .ok (.bipush 99, 2) := by decide +kernel
theorem dX10_cancel_21 : decode cX10_cancel 21 = .ok (.if_icmp .ne 7, 3) := by decide +kernel
theorem dX10_cancel_24 : decode cX10_cancel 24 = .ok (.iconst 2, 1) := by decide +kernel
theorem dX10_cancel_25 : decode cX10_cancel 25 = .ok (.goto 4, 3) := by decide +kernel
theorem dX10_cancel_28 : decode cX10_cancel 28 = .ok (.iconst 0, 1) := by decide +kernel
theorem dX10_cancel_29 : decode cX10_cancel 29 = .ok (.putfield 79, 3) := by decide +kernel
theorem dX10_cancel_32 : decode cX10_cancel 32 = .ok (.aload_n 0, 1) := by decide +kernel
theorem dX10_cancel_33 : decode cX10_cancel 33 = .ok (.getfield 79, 3) := by decide +kernel
theorem dX10_cancel_36 : decode cX10_cancel 36 = .ok (.ifCond .le 5, 3) := by decide +kernel
theorem dX10_cancel_39 : decode cX10_cancel 39 = .ok (.iconst 0, 1) := by decide +kernel
theorem dX10_cancel_40 : decode cX10_cancel 40 = .ok (.ireturn, 1) := by decide +kernel
theorem dX10_cancel_41 : decode cX10_cancel 41 = .ok (.aload_n 0, 1) := by decide +kernel
theorem dX10_cancel_42 : decode cX10_cancel 42 = .ok (.getfield 58, 3) := by decide +kernel
theorem dX10_cancel_45 : decode cX10_cancel 45 = .ok (.iload_n 1, 1) := by decide +kernel
theorem dX10_cancel_46 : decode cX10_cancel 46 = .ok (.bipush 99, 2) := by decide +kernel
theorem dX10_cancel_48 : decode cX10_cancel 48 = .ok (.iastore, 1) := by decide +kernel
theorem dX10_cancel_49 : decode cX10_cancel 49 = .ok (.aload_n 0, 1) := by decide +kernel
theorem dX10_cancel_50 : decode cX10_cancel 50 = .ok (.invokevirtual 102, 3) := by decide +kernel
theorem dX10_cancel_53 : decode cX10_cancel 53 = .ok (.ireturn, 1) := by decide +kernel
theorem dX10_stateOf_0 : decode cX10_stateOf 0 = .ok (.aload_n 0, 1) := by decide +kernel
theorem dX10_stateOf_1 : decode cX10_stateOf 1 = .ok (.aload_n 0, 1) := by decide +kernel
theorem dX10_stateOf_2 : decode cX10_stateOf 2 = .ok (.iload_n 1, 1) := by decide +kernel
theorem dX10_stateOf_3 : decode cX10_stateOf 3 = .ok (.invokevirtual 141, 3) := by decide +kernel
theorem dX10_stateOf_6 : decode cX10_stateOf 6 = .ok (.invokevirtual 137, 3) := by decide +kernel
theorem dX10_stateOf_9 : decode cX10_stateOf 9 = .ok (.ifCond .le 8, 3) := by decide +kernel
theorem dX10_stateOf_12 : decode cX10_stateOf 12 = .ok (.bipush 97, 2) := by decide +kernel
theorem dX10_stateOf_14 : decode cX10_stateOf 14 = .ok (.goto 10, 3) := by decide +kernel
theorem dX10_stateOf_17 : decode cX10_stateOf 17 = .ok (.aload_n 0, 1) := by decide +kernel
theorem dX10_stateOf_18 : decode cX10_stateOf 18 = .ok (.getfield 58, 3) := by decide +kernel
theorem dX10_stateOf_21 : decode cX10_stateOf 21 = .ok (.iload_n 1, 1) := by decide +kernel
theorem dX10_stateOf_22 : decode cX10_stateOf 22 = .ok (.iaload, 1) := by decide +kernel
theorem dX10_stateOf_23 : decode cX10_stateOf 23 = .ok (.i2c, 1) := by decide +kernel
theorem dX10_stateOf_24 : decode cX10_stateOf 24 = .ok (.ireturn, 1) := by decide +kernel
theorem dX10_worksOf_0 : decode cX10_worksOf 0 = .ok (.aload_n 0, 1) := by decide +kernel
theorem dX10_worksOf_1 : decode cX10_worksOf 1 = .ok (.aload_n 0, 1) := by decide +kernel
theorem dX10_worksOf_2 : decode cX10_worksOf 2 = .ok (.iload_n 1, 1) := by decide +kernel
theorem dX10_worksOf_3 : decode cX10_worksOf 3 = .ok (.invokevirtual 141, 3) := by decide +kernel
theorem dX10_worksOf_6 : decode cX10_worksOf 6 = .ok (.invokevirtual 137, 3) := by decide +kernel
theorem dX10_worksOf_9 : decode cX10_worksOf 9 = .ok (.ifCond .le 7, 3) := by decide +kernel
theorem dX10_worksOf_12 : decode cX10_worksOf 12 = .ok (.iconst 0, 1) := by decide +kernel
theorem dX10_worksOf_13 : decode cX10_worksOf 13 = .ok (.goto 9, 3) := by decide +kernel
theorem dX10_worksOf_16 : decode cX10_worksOf 16 = .ok (.aload_n 0, 1) := by decide +kernel
theorem dX10_worksOf_17 : decode cX10_worksOf 17 = .ok (.getfield 61, 3) := by decide +kernel
theorem dX10_worksOf_20 : decode cX10_worksOf 20 = .ok (.iload_n 1, 1) := by decide +kernel
theorem dX10_worksOf_21 : decode cX10_worksOf 21 = .ok (.iaload, 1) := by decide +kernel
theorem dX10_worksOf_22 : decode cX10_worksOf 22 = .ok (.ireturn, 1) := by decide +kernel
theorem dX10_hasNo_0 : decode cX10_hasNo 0 = .ok (.aload_n 0, 1) := by decide +kernel
theorem dX10_hasNo_1 : decode cX10_hasNo 1 = .ok (.aload_n 0, 1) := by decide +kernel
theorem dX10_hasNo_2 : decode cX10_hasNo 2 = .ok (.iload_n 1, 1) := by decide +kernel
theorem dX10_hasNo_3 : decode cX10_hasNo 3 = .ok (.invokevirtual 141, 3) := by decide +kernel
theorem dX10_hasNo_6 : decode cX10_hasNo 6 = .ok (.ifCond .ne 7, 3) := by decide +kernel
theorem dX10_hasNo_9 : decode cX10_hasNo 9 = .ok (.iconst 1, 1) := by decide +kernel
theorem dX10_hasNo_10 : decode cX10_hasNo 10 = .ok (.goto 24, 3) := by decide +kernel
theorem dX10_hasNo_13 : decode cX10_hasNo 13 = .ok (.iload_n 2, 1) := by decide +kernel
theorem dX10_hasNo_14 : decode cX10_hasNo 14 = .ok (.iconst 0, 1) := by decide +kernel
theorem dX10_hasNo_15 : decode cX10_hasNo 15 = .ok (.aload_n 0, 1) := by decide +kernel
theorem dX10_hasNo_16 : decode cX10_hasNo 16 = .ok (.getfield 61, 3) := by decide +kernel
theorem dX10_hasNo_19 : decode cX10_hasNo 19 = .ok (.iload_n 1, 1) := by decide +kernel
theorem dX10_hasNo_20 : decode cX10_hasNo 20 = .ok (.iaload, 1) := by decide +kernel
theorem dX10_hasNo_21 : decode cX10_hasNo 21 = .ok (.iconst 1, 1) := by decide +kernel
theorem dX10_hasNo_22 : decode cX10_hasNo 22 = .ok (.isub, 1) := by decide +kernel
theorem dX10_hasNo_23 : decode cX10_hasNo 23 = .ok (.invokestatic 98, 3) := by decide +kernel
theorem dX10_hasNo_26 : decode cX10_hasNo 26 = .ok (.ifCond .ne 7, 3) := by decide +kernel
theorem dX10_hasNo_29 : decode cX10_hasNo 29 = .ok (.iconst 2, 1) := by decide +kernel
theorem dX10_hasNo_30 : decode cX10_hasNo 30 = .ok (.goto 4, 3) := by decide +kernel
theorem dX10_hasNo_33 : decode cX10_hasNo 33 = .ok (.iconst 0, 1) := by decide +kernel
theorem dX10_hasNo_34 : decode cX10_hasNo 34 = .ok (.putfield 79, 3) := by decide +kernel
theorem dX10_hasNo_37 : decode cX10_hasNo 37 = .ok (.aload_n 0, 1) := by decide +kernel
theorem dX10_hasNo_38 : decode cX10_hasNo 38 = .ok (.getfield 79, 3) := by decide +kernel
theorem dX10_hasNo_41 : decode cX10_hasNo 41 = .ok (.ifCond .le 7, 3) := by decide +kernel
theorem dX10_hasNo_44 : decode cX10_hasNo 44 = .ok (.iconst 1, 1) := by decide +kernel
theorem dX10_hasNo_45 : decode cX10_hasNo 45 = .ok (.goto 4, 3) := by decide +kernel
theorem dX10_hasNo_48 : decode cX10_hasNo 48 = .ok (.iconst 0, 1) := by decide +kernel
theorem dX10_hasNo_49 : decode cX10_hasNo 49 = .ok (.ireturn, 1) := by decide +kernel
theorem dX10_workOf_0 : decode cX10_workOf 0 = .ok (.aload_n 0, 1) := by decide +kernel
theorem dX10_workOf_1 : decode cX10_workOf 1 = .ok (.iload_n 1, 1) := by decide +kernel
theorem dX10_workOf_2 : decode cX10_workOf 2 = .ok (.iload_n 2, 1) := by decide +kernel
theorem dX10_workOf_3 : decode cX10_workOf 3 = .ok (.invokevirtual 175, 3) := by decide +kernel
theorem dX10_workOf_6 : decode cX10_workOf 6 = .ok (.ifCond .eq 7, 3) := by decide +kernel
theorem dX10_workOf_9 : decode cX10_workOf 9 = .ok (.iconst 0, 1) := by decide +kernel
theorem dX10_workOf_10 : decode cX10_workOf 10 = .ok (.goto 13, 3) := by decide +kernel
theorem dX10_workOf_13 : decode cX10_workOf 13 = .ok (.aload_n 0, 1) := by decide +kernel
theorem dX10_workOf_14 : decode cX10_workOf 14 = .ok (.getfield 64, 3) := by decide +kernel
theorem dX10_workOf_17 : decode cX10_workOf 17 = .ok (.iconst 5, 1) := by decide +kernel
theorem dX10_workOf_18 : decode cX10_workOf 18 = .ok (.iload_n 1, 1) := by decide +kernel
theorem dX10_workOf_19 : decode cX10_workOf 19 = .ok (.imul, 1) := by decide +kernel
theorem dX10_workOf_20 : decode cX10_workOf 20 = .ok (.iload_n 2, 1) := by decide +kernel
theorem dX10_workOf_21 : decode cX10_workOf 21 = .ok (.iadd, 1) := by decide +kernel
theorem dX10_workOf_22 : decode cX10_workOf 22 = .ok (.iaload, 1) := by decide +kernel
theorem dX10_workOf_23 : decode cX10_workOf 23 = .ok (.ireturn, 1) := by decide +kernel
theorem dX10_wallOf_0 : decode cX10_wallOf 0 = .ok (.aload_n 0, 1) := by decide +kernel
theorem dX10_wallOf_1 : decode cX10_wallOf 1 = .ok (.iload_n 1, 1) := by decide +kernel
theorem dX10_wallOf_2 : decode cX10_wallOf 2 = .ok (.iload_n 2, 1) := by decide +kernel
theorem dX10_wallOf_3 : decode cX10_wallOf 3 = .ok (.invokevirtual 175, 3) := by decide +kernel
theorem dX10_wallOf_6 : decode cX10_wallOf 6 = .ok (.ifCond .eq 5, 3) := by decide +kernel
theorem dX10_wallOf_9 : decode cX10_wallOf 9 = .ok (.iconst 0, 1) := by decide +kernel
theorem dX10_wallOf_10 : decode cX10_wallOf 10 = .ok (.ireturn, 1) := by decide +kernel
theorem dX10_wallOf_11 : decode cX10_wallOf 11 = .ok (.aload_n 0, 1) := by decide +kernel
theorem dX10_wallOf_12 : decode cX10_wallOf 12 = .ok (.aload_n 0, 1) := by decide +kernel
theorem dX10_wallOf_13 : decode cX10_wallOf 13 = .ok (.getfield 58, 3) := by decide +kernel
theorem dX10_wallOf_16 : decode cX10_wallOf 16 = .ok (.iload_n 1, 1) := by decide +kernel
theorem dX10_wallOf_17 : decode cX10_wallOf 17 = .ok (.iaload, 1) := by decide +kernel
theorem dX10_wallOf_18 : decode cX10_wallOf 18 = .ok (.bipush 112, 2) := by decide +kernel
theorem dX10_wallOf_20 : decode cX10_wallOf 20 = .ok (.if_icmp .ne 7, 3) := by decide +kernel
theorem dX10_wallOf_23 : decode cX10_wallOf 23 = .ok (.iconst 0, 1) := by decide +kernel
theorem dX10_wallOf_24 : decode cX10_wallOf 24 = .ok (.goto 4, 3) := by decide +kernel
theorem dX10_wallOf_27 : decode cX10_wallOf 27 = .ok (.iconst 3, 1) := by decide +kernel
theorem dX10_wallOf_28 : decode cX10_wallOf 28 = .ok (.putfield 79, 3) := by decide +kernel
theorem dX10_wallOf_31 : decode cX10_wallOf 31 = .ok (.aload_n 0, 1) := by decide +kernel
theorem dX10_wallOf_32 : decode cX10_wallOf 32 = .ok (.getfield 79, 3) := by decide +kernel
theorem dX10_wallOf_35 : decode cX10_wallOf 35 = .ok (.ifCond .le 7, 3) := by decide +kernel
theorem dX10_wallOf_38 : decode cX10_wallOf 38 = .ok (.iconst 0, 1) := by decide +kernel
theorem dX10_wallOf_39 : decode cX10_wallOf 39 = .ok (.goto 13, 3) := by decide +kernel
theorem dX10_wallOf_42 : decode cX10_wallOf 42 = .ok (.aload_n 0, 1) := by decide +kernel
theorem dX10_wallOf_43 : decode cX10_wallOf 43 = .ok (.getfield 67, 3) := by decide +kernel
theorem dX10_wallOf_46 : decode cX10_wallOf 46 = .ok (.iconst 5, 1) := by decide +kernel
theorem dX10_wallOf_47 : decode cX10_wallOf 47 = .ok (.iload_n 1, 1) := by decide +kernel
theorem dX10_wallOf_48 : decode cX10_wallOf 48 = .ok (.imul, 1) := by decide +kernel
theorem dX10_wallOf_49 : decode cX10_wallOf 49 = .ok (.iload_n 2, 1) := by decide +kernel
theorem dX10_wallOf_50 : decode cX10_wallOf 50 = .ok (.iadd, 1) := by decide +kernel
theorem dX10_wallOf_51 : decode cX10_wallOf 51 = .ok (.iaload, 1) := by decide +kernel
theorem dX10_wallOf_52 : decode cX10_wallOf 52 = .ok (.ireturn, 1) := by decide +kernel
theorem dX10_canTake_0 : decode cX10_canTake 0 = .ok (.aload_n 0, 1) := by decide +kernel
theorem dX10_canTake_1 : decode cX10_canTake 1 = .ok (.iload_n 1, 1) := by decide +kernel
theorem dX10_canTake_2 : decode cX10_canTake 2 = .ok (.iload_n 2, 1) := by decide +kernel
theorem dX10_canTake_3 : decode cX10_canTake 3 = .ok (.invokevirtual 175, 3) := by decide +kernel
theorem dX10_canTake_6 : decode cX10_canTake 6 = .ok (.ifCond .eq 5, 3) := by decide +kernel
theorem dX10_canTake_9 : decode cX10_canTake 9 = .ok (.iconst 0, 1) := by decide +kernel
theorem dX10_canTake_10 : decode cX10_canTake 10 = .ok (.ireturn, 1) := by decide +kernel
theorem dX10_canTake_11 : decode cX10_canTake 11 = .ok (.aload_n 0, 1) := by decide +kernel
theorem dX10_canTake_12 : decode cX10_canTake 12 = .ok (.aload_n 0, 1) := by decide +kernel
theorem dX10_canTake_13 : decode cX10_canTake 13 = .ok (.getfield 58, 3) := by decide +kernel
theorem dX10_canTake_16 : decode cX10_canTake 16 = .ok (.iload_n 1, 1) := by decide +kernel
theorem dX10_canTake_17 : decode cX10_canTake 17 = .ok (.iaload, 1) := by decide +kernel
theorem dX10_canTake_18 : decode cX10_canTake 18 = .ok (.bipush 99, 2) := by decide +kernel
theorem dX10_canTake_20 : decode cX10_canTake 20 = .ok (.if_icmp .ne 7, 3) := by decide +kernel
theorem dX10_canTake_23 : decode cX10_canTake 23 = .ok (.iconst 3, 1) := by decide +kernel
theorem dX10_canTake_24 : decode cX10_canTake 24 = .ok (.goto 4, 3) := by decide +kernel
theorem dX10_canTake_27 : decode cX10_canTake 27 = .ok (.iconst 0, 1) := by decide +kernel
theorem dX10_canTake_28 : decode cX10_canTake 28 = .ok (.putfield 79, 3) := by decide +kernel
theorem dX10_canTake_31 : decode cX10_canTake 31 = .ok (.aload_n 0, 1) := by decide +kernel
theorem dX10_canTake_32 : decode cX10_canTake 32 = .ok (.getfield 79, 3) := by decide +kernel
theorem dX10_canTake_35 : decode cX10_canTake 35 = .ok (.ifCond .ne 25, 3) := by decide +kernel
theorem dX10_canTake_38 : decode cX10_canTake 38 = .ok (.aload_n 0, 1) := by decide +kernel
theorem dX10_canTake_39 : decode cX10_canTake 39 = .ok (.iload_n 1, 1) := by decide +kernel
theorem dX10_canTake_40 : decode cX10_canTake 40 = .ok (.aload_n 0, 1) := by decide +kernel
theorem dX10_canTake_41 : decode cX10_canTake 41 = .ok (.getfield 64, 3) := by decide +kernel
theorem dX10_canTake_44 : decode cX10_canTake 44 = .ok (.iconst 5, 1) := by decide +kernel
theorem dX10_canTake_45 : decode cX10_canTake 45 = .ok (.iload_n 1, 1) := by decide +kernel
theorem dX10_canTake_46 : decode cX10_canTake 46 = .ok (.imul, 1) := by decide +kernel
theorem dX10_canTake_47 : decode cX10_canTake 47 = .ok (.iload_n 2, 1) := by decide +kernel
theorem dX10_canTake_48 : decode cX10_canTake 48 = .ok (.iadd, 1) := by decide +kernel
theorem dX10_canTake_49 : decode cX10_canTake 49 = .ok (.iaload, 1) := by decide +kernel
theorem dX10_canTake_50 : decode cX10_canTake 50 = .ok (.invokevirtual 163, 3) := by decide +kernel
theorem dX10_canTake_53 : decode cX10_canTake 53 = .ok (.ifCond .eq 7, 3) := by decide +kernel
theorem dX10_canTake_56 : decode cX10_canTake 56 = .ok (.iconst 1, 1) := by decide +kernel
theorem dX10_canTake_57 : decode cX10_canTake 57 = .ok (.goto 4, 3) := by decide +kernel
theorem dX10_canTake_60 : decode cX10_canTake 60 = .ok (.iconst 0, 1) := by decide +kernel
theorem dX10_canTake_61 : decode cX10_canTake 61 = .ok (.ireturn, 1) := by decide +kernel
theorem dX10_wallFor_0 : decode cX10_wallFor 0 = .ok (.aload_n 0, 1) := by decide +kernel
theorem dX10_wallFor_1 : decode cX10_wallFor 1 = .ok (.iload_n 1, 1) := by decide +kernel
theorem dX10_wallFor_2 : decode cX10_wallFor 2 = .ok (.iload_n 2, 1) := by decide +kernel
theorem dX10_wallFor_3 : decode cX10_wallFor 3 = .ok (.invokevirtual 175, 3) := by decide +kernel
theorem dX10_wallFor_6 : decode cX10_wallFor 6 = .ok (.ifCond .eq 5, 3) := by decide +kernel
theorem dX10_wallFor_9 : decode cX10_wallFor 9 = .ok (.iconst 0, 1) := by decide +kernel
theorem dX10_wallFor_10 : decode cX10_wallFor 10 = .ok (.ireturn, 1) := by decide +kernel
theorem dX10_wallFor_11 : decode cX10_wallFor 11 = .ok (.aload_n 0, 1) := by decide +kernel
theorem dX10_wallFor_12 : decode cX10_wallFor 12 = .ok (.aload_n 0, 1) := by decide +kernel
theorem dX10_wallFor_13 : decode cX10_wallFor 13 = .ok (.getfield 58, 3) := by decide +kernel
theorem dX10_wallFor_16 : decode cX10_wallFor 16 = .ok (.iload_n 1, 1) := by decide +kernel
theorem dX10_wallFor_17 : decode cX10_wallFor 17 = .ok (.iaload, 1) := by decide +kernel
theorem dX10_wallFor_18 : decode cX10_wallFor 18 = .ok (.bipush 112, 2) := by decide +kernel
theorem dX10_wallFor_20 : decode cX10_wallFor 20 = .ok (.if_icmp .eq 14, 3) := by decide +kernel
theorem dX10_wallFor_23 : decode cX10_wallFor 23 = .ok (.aload_n 0, 1) := by decide +kernel
theorem dX10_wallFor_24 : decode cX10_wallFor 24 = .ok (.getfield 58, 3) := by decide +kernel
theorem dX10_wallFor_27 : decode cX10_wallFor 27 = .ok (.iload_n 1, 1) := by decide +kernel
theorem dX10_wallFor_28 : decode cX10_wallFor 28 = .ok (.iaload, 1) := by decide +kernel
theorem dX10_wallFor_29 : decode cX10_wallFor 29 = .ok (.bipush 99, 2) := by decide +kernel
theorem dX10_wallFor_31 : decode cX10_wallFor 31 = .ok (.if_icmp .ne 7, 3) := by decide +kernel
theorem dX10_wallFor_34 : decode cX10_wallFor 34 = .ok (.iconst 3, 1) := by decide +kernel
theorem dX10_wallFor_35 : decode cX10_wallFor 35 = .ok (.goto 16, 3) := by decide +kernel
theorem dX10_wallFor_38 : decode cX10_wallFor 38 = .ok (.aload_n 0, 1) := by decide +kernel
theorem dX10_wallFor_39 : decode cX10_wallFor 39 = .ok (.iload_n 1, 1) := by decide +kernel
theorem dX10_wallFor_40 : decode cX10_wallFor 40 = .ok (.invokevirtual 169, 3) := by decide +kernel
theorem dX10_wallFor_43 : decode cX10_wallFor 43 = .ok (.ifCond .ne 7, 3) := by decide +kernel
theorem dX10_wallFor_46 : decode cX10_wallFor 46 = .ok (.iconst 4, 1) := by decide +kernel
theorem dX10_wallFor_47 : decode cX10_wallFor 47 = .ok (.goto 4, 3) := by decide +kernel
theorem dX10_wallFor_50 : decode cX10_wallFor 50 = .ok (.iconst 0, 1) := by decide +kernel
theorem dX10_wallFor_51 : decode cX10_wallFor 51 = .ok (.putfield 79, 3) := by decide +kernel
theorem dX10_wallFor_54 : decode cX10_wallFor 54 = .ok (.aload_n 0, 1) := by decide +kernel
theorem dX10_wallFor_55 : decode cX10_wallFor 55 = .ok (.getfield 79, 3) := by decide +kernel
theorem dX10_wallFor_58 : decode cX10_wallFor 58 = .ok (.ifCond .le 7, 3) := by decide +kernel
theorem dX10_wallFor_61 : decode cX10_wallFor 61 = .ok (.iconst 0, 1) := by decide +kernel
theorem dX10_wallFor_62 : decode cX10_wallFor 62 = .ok (.goto 9, 3) := by decide +kernel
theorem dX10_wallFor_65 : decode cX10_wallFor 65 = .ok (.aload_n 0, 1) := by decide +kernel
theorem dX10_wallFor_66 : decode cX10_wallFor 66 = .ok (.getfield 70, 3) := by decide +kernel
theorem dX10_wallFor_69 : decode cX10_wallFor 69 = .ok (.iload_n 2, 1) := by decide +kernel
theorem dX10_wallFor_70 : decode cX10_wallFor 70 = .ok (.iaload, 1) := by decide +kernel
theorem dX10_wallFor_71 : decode cX10_wallFor 71 = .ok (.ireturn, 1) := by decide +kernel
theorem dX10_wallForBySearch_0 : decode cX10_wallForBySearch 0 = .ok (.aload_n 0, 1) := by decide +kernel
theorem dX10_wallForBySearch_1 : decode cX10_wallForBySearch 1 = .ok (.iload_n 1, 1) := by decide +kernel
theorem dX10_wallForBySearch_2 : decode cX10_wallForBySearch 2 = .ok (.iload_n 2, 1) := by decide +kernel
theorem dX10_wallForBySearch_3 : decode cX10_wallForBySearch 3 = .ok (.invokevirtual 178, 3) := by decide +kernel
theorem dX10_wallForBySearch_6 : decode cX10_wallForBySearch 6 = .ok (.ireturn, 1) := by decide +kernel
theorem dX10_layLoads_0 : decode cX10_layLoads 0 = .ok (.iconst 0, 1) := by decide +kernel
theorem dX10_layLoads_1 : decode cX10_layLoads 1 = .ok (.istore_n 3, 1) := by decide +kernel
theorem dX10_layLoads_2 : decode cX10_layLoads 2 = .ok (.iconst 0, 1) := by decide +kernel
theorem dX10_layLoads_3 : decode cX10_layLoads 3 = .ok (.istore 4, 2) := by decide +kernel
theorem dX10_layLoads_5 : decode cX10_layLoads 5 = .ok (.iload 4, 2) := by decide +kernel
theorem dX10_layLoads_7 : decode cX10_layLoads 7 = .ok (.aload_n 0, 1) := by decide +kernel
theorem dX10_layLoads_8 : decode cX10_layLoads 8 = .ok (.getfield 61, 3) := by decide +kernel
theorem dX10_layLoads_11 : decode cX10_layLoads 11 = .ok (.iload_n 1, 1) := by decide +kernel
theorem dX10_layLoads_12 : decode cX10_layLoads 12 = .ok (.iaload, 1) := by decide +kernel
theorem dX10_layLoads_13 : decode cX10_layLoads 13 = .ok (.if_icmp .ge 57, 3) := by decide +kernel
theorem dX10_layLoads_16 : decode cX10_layLoads 16 = .ok (.aload_n 0, 1) := by decide +kernel
theorem dX10_layLoads_17 : decode cX10_layLoads 17 = .ok (.getfield 43, 3) := by decide +kernel
theorem dX10_layLoads_20 : decode cX10_layLoads 20 = .ok (.aload_n 0, 1) := by decide +kernel
theorem dX10_layLoads_21 : decode cX10_layLoads 21 = .ok (.getfield 64, 3) := by decide +kernel
theorem dX10_layLoads_24 : decode cX10_layLoads 24 = .ok (.iconst 5, 1) := by decide +kernel
theorem dX10_layLoads_25 : decode cX10_layLoads 25 = .ok (.iload_n 1, 1) := by decide +kernel
theorem dX10_layLoads_26 : decode cX10_layLoads 26 = .ok (.imul, 1) := by decide +kernel
theorem dX10_layLoads_27 : decode cX10_layLoads 27 = .ok (.iload 4, 2) := by decide +kernel
theorem dX10_layLoads_29 : decode cX10_layLoads 29 = .ok (.iadd, 1) := by decide +kernel
theorem dX10_layLoads_30 : decode cX10_layLoads 30 = .ok (.iaload, 1) := by decide +kernel
theorem dX10_layLoads_31 : decode cX10_layLoads 31 = .ok (.iaload, 1) := by decide +kernel
theorem dX10_layLoads_32 : decode cX10_layLoads 32 = .ok (.iload_n 2, 1) := by decide +kernel
theorem dX10_layLoads_33 : decode cX10_layLoads 33 = .ok (.if_icmp .eq 6, 3) := by decide +kernel
theorem dX10_layLoads_36 : decode cX10_layLoads 36 = .ok (.goto 28, 3) := by decide +kernel
theorem dX10_layLoads_39 : decode cX10_layLoads 39 = .ok (.aload_n 0, 1) := by decide +kernel
theorem dX10_layLoads_40 : decode cX10_layLoads 40 = .ok (.getfield 73, 3) := by decide +kernel
theorem dX10_layLoads_43 : decode cX10_layLoads 43 = .ok (.iload_n 3, 1) := by decide +kernel
theorem dX10_layLoads_44 : decode cX10_layLoads 44 = .ok (.aload_n 0, 1) := by decide +kernel
theorem dX10_layLoads_45 : decode cX10_layLoads 45 = .ok (.getfield 40, 3) := by decide +kernel
theorem dX10_layLoads_48 : decode cX10_layLoads 48 = .ok (.aload_n 0, 1) := by decide +kernel
theorem dX10_layLoads_49 : decode cX10_layLoads 49 = .ok (.getfield 64, 3) := by decide +kernel
theorem dX10_layLoads_52 : decode cX10_layLoads 52 = .ok (.iconst 5, 1) := by decide +kernel
theorem dX10_layLoads_53 : decode cX10_layLoads 53 = .ok (.iload_n 1, 1) := by decide +kernel
theorem dX10_layLoads_54 : decode cX10_layLoads 54 = .ok (.imul, 1) := by decide +kernel
theorem dX10_layLoads_55 : decode cX10_layLoads 55 = .ok (.iload 4, 2) := by decide +kernel
theorem dX10_layLoads_57 : decode cX10_layLoads 57 = .ok (.iadd, 1) := by decide +kernel
theorem dX10_layLoads_58 : decode cX10_layLoads 58 = .ok (.iaload, 1) := by decide +kernel
theorem dX10_layLoads_59 : decode cX10_layLoads 59 = .ok (.iaload, 1) := by decide +kernel
theorem dX10_layLoads_60 : decode cX10_layLoads 60 = .ok (.iastore, 1) := by decide +kernel
theorem dX10_layLoads_61 : decode cX10_layLoads 61 = .ok (.iinc 3 1, 3) := by decide +kernel
theorem dX10_layLoads_64 : decode cX10_layLoads 64 = .ok (.iinc 4 1, 3) := by decide +kernel
theorem dX10_layLoads_67 : decode cX10_layLoads 67 = .ok (.goto (-62), 3) := by decide +kernel
theorem dX10_layLoads_70 : decode cX10_layLoads 70 = .ok (.iload_n 3, 1) := by decide +kernel
theorem dX10_layLoads_71 : decode cX10_layLoads 71 = .ok (.ireturn, 1) := by decide +kernel
theorem dX10_loadOf_0 : decode cX10_loadOf 0 = .ok (.iconst 0, 1) := by decide +kernel
theorem dX10_loadOf_1 : decode cX10_loadOf 1 = .ok (.istore_n 2, 1) := by decide +kernel
theorem dX10_loadOf_2 : decode cX10_loadOf 2 = .ok (.iconst 0, 1) := by decide +kernel
theorem dX10_loadOf_3 : decode cX10_loadOf 3 = .ok (.istore_n 3, 1) := by decide +kernel
theorem dX10_loadOf_4 : decode cX10_loadOf 4 = .ok (.iload_n 3, 1) := by decide +kernel
theorem dX10_loadOf_5 : decode cX10_loadOf 5 = .ok (.iconst 5, 1) := by decide +kernel
theorem dX10_loadOf_6 : decode cX10_loadOf 6 = .ok (.if_icmp .ge 31, 3) := by decide +kernel
theorem dX10_loadOf_9 : decode cX10_loadOf 9 = .ok (.iload_n 2, 1) := by decide +kernel
theorem dX10_loadOf_10 : decode cX10_loadOf 10 = .ok (.iload_n 1, 1) := by decide +kernel
theorem dX10_loadOf_11 : decode cX10_loadOf 11 = .ok (.iload_n 3, 1) := by decide +kernel
theorem dX10_loadOf_12 : decode cX10_loadOf 12 = .ok (.ishr, 1) := by decide +kernel
theorem dX10_loadOf_13 : decode cX10_loadOf 13 = .ok (.iconst 1, 1) := by decide +kernel
theorem dX10_loadOf_14 : decode cX10_loadOf 14 = .ok (.iand, 1) := by decide +kernel
theorem dX10_loadOf_15 : decode cX10_loadOf 15 = .ok (.iconst 1, 1) := by decide +kernel
theorem dX10_loadOf_16 : decode cX10_loadOf 16 = .ok (.if_icmp .ne 12, 3) := by decide +kernel
theorem dX10_loadOf_19 : decode cX10_loadOf 19 = .ok (.aload_n 0, 1) := by decide +kernel
theorem dX10_loadOf_20 : decode cX10_loadOf 20 = .ok (.getfield 73, 3) := by decide +kernel
theorem dX10_loadOf_23 : decode cX10_loadOf 23 = .ok (.iload_n 3, 1) := by decide +kernel
theorem dX10_loadOf_24 : decode cX10_loadOf 24 = .ok (.iaload, 1) := by decide +kernel
theorem dX10_loadOf_25 : decode cX10_loadOf 25 = .ok (.goto 4, 3) := by decide +kernel
theorem dX10_loadOf_28 : decode cX10_loadOf 28 = .ok (.iconst 0, 1) := by decide +kernel
theorem dX10_loadOf_29 : decode cX10_loadOf 29 = .ok (.iadd, 1) := by decide +kernel
theorem dX10_loadOf_30 : decode cX10_loadOf 30 = .ok (.istore_n 2, 1) := by decide +kernel
theorem dX10_loadOf_31 : decode cX10_loadOf 31 = .ok (.iinc 3 1, 3) := by decide +kernel
theorem dX10_loadOf_34 : decode cX10_loadOf 34 = .ok (.goto (-30), 3) := by decide +kernel
theorem dX10_loadOf_37 : decode cX10_loadOf 37 = .ok (.iload_n 2, 1) := by decide +kernel
theorem dX10_loadOf_38 : decode cX10_loadOf 38 = .ok (.ireturn, 1) := by decide +kernel
theorem dX10_leastTrips_0 : decode cX10_leastTrips 0 = .ok (.aload_n 0, 1) := by decide +kernel
theorem dX10_leastTrips_1 : decode cX10_leastTrips 1 = .ok (.getfield 76, 3) := by decide +kernel
theorem dX10_leastTrips_4 : decode cX10_leastTrips 4 = .ok (.iconst 0, 1) := by decide +kernel
theorem dX10_leastTrips_5 : decode cX10_leastTrips 5 = .ok (.iconst 0, 1) := by decide +kernel
theorem dX10_leastTrips_6 : decode cX10_leastTrips 6 = .ok (.iastore, 1) := by decide +kernel
theorem dX10_leastTrips_7 : decode cX10_leastTrips 7 = .ok (.iconst 1, 1) := by decide +kernel
theorem dX10_leastTrips_8 : decode cX10_leastTrips 8 = .ok (.istore_n 3, 1) := by decide +kernel
theorem dX10_leastTrips_9 : decode cX10_leastTrips 9 = .ok (.iload_n 3, 1) := by decide +kernel
theorem dX10_leastTrips_10 : decode cX10_leastTrips 10 = .ok (.iconst 1, 1) := by decide +kernel
theorem dX10_leastTrips_11 : decode cX10_leastTrips 11 = .ok (.iload_n 1, 1) := by decide +kernel
theorem dX10_leastTrips_12 : decode cX10_leastTrips 12 = .ok (.ishl, 1) := by decide +kernel
theorem dX10_leastTrips_13 : decode cX10_leastTrips 13 = .ok (.if_icmp .ge 82, 3) := by decide +kernel
theorem dX10_leastTrips_16 : decode cX10_leastTrips 16 = .ok (.aload_n 0, 1) := by decide +kernel
theorem dX10_leastTrips_17 : decode cX10_leastTrips 17 = .ok (.getfield 76, 3) := by decide +kernel
theorem dX10_leastTrips_20 : decode cX10_leastTrips 20 = .ok (.iload_n 3, 1) := by decide +kernel
theorem dX10_leastTrips_21 : decode cX10_leastTrips 21 = .ok (.iconst 5, 1) := by decide +kernel
theorem dX10_leastTrips_22 : decode cX10_leastTrips 22 = .ok (.iastore, 1) := by decide +kernel
theorem dX10_leastTrips_23 : decode cX10_leastTrips 23 = .ok (.iload_n 3, 1) := by decide +kernel
theorem dX10_leastTrips_24 : decode cX10_leastTrips 24 = .ok (.istore 4, 2) := by decide +kernel
theorem dX10_leastTrips_26 : decode cX10_leastTrips 26 = .ok (.iload 4, 2) := by decide +kernel
theorem dX10_leastTrips_28 : decode cX10_leastTrips 28 = .ok (.ifCond .le 61, 3) := by decide +kernel
theorem dX10_leastTrips_31 : decode cX10_leastTrips 31 = .ok (.aload_n 0, 1) := by decide +kernel
theorem dX10_leastTrips_32 : decode cX10_leastTrips 32 = .ok (.iload 4, 2) := by decide +kernel
theorem dX10_leastTrips_34 : decode cX10_leastTrips 34 = .ok (.invokevirtual 182, 3) := by decide +kernel
theorem dX10_leastTrips_37 : decode cX10_leastTrips 37 = .ok (.iload_n 2, 1) := by decide +kernel
theorem dX10_leastTrips_38 : decode cX10_leastTrips 38 = .ok (.if_icmp .gt 40, 3) := by decide +kernel
theorem dX10_leastTrips_41 : decode cX10_leastTrips 41 = .ok (.aload_n 0, 1) := by decide +kernel
theorem dX10_leastTrips_42 : decode cX10_leastTrips 42 = .ok (.getfield 76, 3) := by decide +kernel
theorem dX10_leastTrips_45 : decode cX10_leastTrips 45 = .ok (.iload_n 3, 1) := by decide +kernel
theorem dX10_leastTrips_46 : decode cX10_leastTrips 46 = .ok (.iload 4, 2) := by decide +kernel
theorem dX10_leastTrips_48 : decode cX10_leastTrips 48 = .ok (.ixor, 1) := by decide +kernel
theorem dX10_leastTrips_49 : decode cX10_leastTrips 49 = .ok (.iaload, 1) := by decide +kernel
theorem dX10_leastTrips_50 : decode cX10_leastTrips 50 = .ok (.iconst 1, 1) := by decide +kernel
theorem dX10_leastTrips_51 : decode cX10_leastTrips 51 = .ok (.iadd, 1) := by decide +kernel
theorem dX10_leastTrips_52 : decode cX10_leastTrips 52 = .ok (.aload_n 0, 1) := by decide +kernel
theorem dX10_leastTrips_53 : decode cX10_leastTrips 53 = .ok (.getfield 76, 3) := by decide +kernel
theorem dX10_leastTrips_56 : decode cX10_leastTrips 56 = .ok (.iload_n 3, 1) := by decide +kernel
theorem dX10_leastTrips_57 : decode cX10_leastTrips 57 = .ok (.iaload, 1) := by decide +kernel
theorem dX10_leastTrips_58 : decode cX10_leastTrips 58 = .ok (.if_icmp .ge 20, 3) := by decide +kernel
theorem dX10_leastTrips_61 : decode cX10_leastTrips 61 = .ok (.aload_n 0, 1) := by decide +kernel
theorem dX10_leastTrips_62 : decode cX10_leastTrips 62 = .ok (.getfield 76, 3) := by decide +kernel
theorem dX10_leastTrips_65 : decode cX10_leastTrips 65 = .ok (.iload_n 3, 1) := by decide +kernel
theorem dX10_leastTrips_66 : decode cX10_leastTrips 66 = .ok (.aload_n 0, 1) := by decide +kernel
theorem dX10_leastTrips_67 : decode cX10_leastTrips 67 = .ok (.getfield 76, 3) := by decide +kernel
theorem dX10_leastTrips_70 : decode cX10_leastTrips 70 = .ok (.iload_n 3, 1) := by decide +kernel
theorem dX10_leastTrips_71 : decode cX10_leastTrips 71 = .ok (.iload 4, 2) := by decide +kernel
theorem dX10_leastTrips_73 : decode cX10_leastTrips 73 = .ok (.ixor, 1) := by decide +kernel
theorem dX10_leastTrips_74 : decode cX10_leastTrips 74 = .ok (.iaload, 1) := by decide +kernel
theorem dX10_leastTrips_75 : decode cX10_leastTrips 75 = .ok (.iconst 1, 1) := by decide +kernel
theorem dX10_leastTrips_76 : decode cX10_leastTrips 76 = .ok (.iadd, 1) := by decide +kernel
theorem dX10_leastTrips_77 : decode cX10_leastTrips 77 = .ok (.iastore, 1) := by decide +kernel
theorem dX10_leastTrips_78 : decode cX10_leastTrips 78 = .ok (.iload 4, 2) := by decide +kernel
theorem dX10_leastTrips_80 : decode cX10_leastTrips 80 = .ok (.iconst 1, 1) := by decide +kernel
theorem dX10_leastTrips_81 : decode cX10_leastTrips 81 = .ok (.isub, 1) := by decide +kernel
theorem dX10_leastTrips_82 : decode cX10_leastTrips 82 = .ok (.iload_n 3, 1) := by decide +kernel
theorem dX10_leastTrips_83 : decode cX10_leastTrips 83 = .ok (.iand, 1) := by decide +kernel
theorem dX10_leastTrips_84 : decode cX10_leastTrips 84 = .ok (.istore 4, 2) := by decide +kernel
theorem dX10_leastTrips_86 : decode cX10_leastTrips 86 = .ok (.goto (-60), 3) := by decide +kernel
theorem dX10_leastTrips_89 : decode cX10_leastTrips 89 = .ok (.iinc 3 1, 3) := by decide +kernel
theorem dX10_leastTrips_92 : decode cX10_leastTrips 92 = .ok (.goto (-83), 3) := by decide +kernel
theorem dX10_leastTrips_95 : decode cX10_leastTrips 95 = .ok (.aload_n 0, 1) := by decide +kernel
theorem dX10_leastTrips_96 : decode cX10_leastTrips 96 = .ok (.getfield 76, 3) := by decide +kernel
theorem dX10_leastTrips_99 : decode cX10_leastTrips 99 = .ok (.iconst 1, 1) := by decide +kernel
theorem dX10_leastTrips_100 : decode cX10_leastTrips 100 = .ok (.iload_n 1, 1) := by decide +kernel
theorem dX10_leastTrips_101 : decode cX10_leastTrips 101 = .ok (.ishl, 1) := by decide +kernel
theorem dX10_leastTrips_102 : decode cX10_leastTrips 102 = .ok (.iconst 1, 1) := by decide +kernel
theorem dX10_leastTrips_103 : decode cX10_leastTrips 103 = .ok (.isub, 1) := by decide +kernel
theorem dX10_leastTrips_104 : decode cX10_leastTrips 104 = .ok (.iaload, 1) := by decide +kernel
theorem dX10_leastTrips_105 : decode cX10_leastTrips 105 = .ok (.ireturn, 1) := by decide +kernel
theorem dX10_trips_0 : decode cX10_trips 0 = .ok (.aload_n 0, 1) := by decide +kernel
theorem dX10_trips_1 : decode cX10_trips 1 = .ok (.aload_n 0, 1) := by decide +kernel
theorem dX10_trips_2 : decode cX10_trips 2 = .ok (.iload_n 1, 1) := by decide +kernel
theorem dX10_trips_3 : decode cX10_trips 3 = .ok (.invokevirtual 141, 3) := by decide +kernel
theorem dX10_trips_6 : decode cX10_trips 6 = .ok (.ifCond .ne 7, 3) := by decide +kernel
theorem dX10_trips_9 : decode cX10_trips 9 = .ok (.iconst 1, 1) := by decide +kernel
theorem dX10_trips_10 : decode cX10_trips 10 = .ok (.goto 22, 3) := by decide +kernel
theorem dX10_trips_13 : decode cX10_trips 13 = .ok (.iload_n 2, 1) := by decide +kernel
theorem dX10_trips_14 : decode cX10_trips 14 = .ok (.iconst 0, 1) := by decide +kernel
theorem dX10_trips_15 : decode cX10_trips 15 = .ok (.aload_n 0, 1) := by decide +kernel
theorem dX10_trips_16 : decode cX10_trips 16 = .ok (.getfield 86, 3) := by decide +kernel
theorem dX10_trips_19 : decode cX10_trips 19 = .ok (.iconst 1, 1) := by decide +kernel
theorem dX10_trips_20 : decode cX10_trips 20 = .ok (.isub, 1) := by decide +kernel
theorem dX10_trips_21 : decode cX10_trips 21 = .ok (.invokestatic 98, 3) := by decide +kernel
theorem dX10_trips_24 : decode cX10_trips 24 = .ok (.ifCond .ne 7, 3) := by decide +kernel
theorem dX10_trips_27 : decode cX10_trips 27 = .ok (.iconst 2, 1) := by decide +kernel
theorem dX10_trips_28 : decode cX10_trips 28 = .ok (.goto 4, 3) := by decide +kernel
theorem dX10_trips_31 : decode cX10_trips 31 = .ok (.iconst 0, 1) := by decide +kernel
theorem dX10_trips_32 : decode cX10_trips 32 = .ok (.putfield 79, 3) := by decide +kernel
theorem dX10_trips_35 : decode cX10_trips 35 = .ok (.aload_n 0, 1) := by decide +kernel
theorem dX10_trips_36 : decode cX10_trips 36 = .ok (.getfield 79, 3) := by decide +kernel
theorem dX10_trips_39 : decode cX10_trips 39 = .ok (.ifCond .le 5, 3) := by decide +kernel
theorem dX10_trips_42 : decode cX10_trips 42 = .ok (.iconst 0, 1) := by decide +kernel
theorem dX10_trips_43 : decode cX10_trips 43 = .ok (.ireturn, 1) := by decide +kernel
theorem dX10_trips_44 : decode cX10_trips 44 = .ok (.aload_n 0, 1) := by decide +kernel
theorem dX10_trips_45 : decode cX10_trips 45 = .ok (.iload_n 1, 1) := by decide +kernel
theorem dX10_trips_46 : decode cX10_trips 46 = .ok (.iload_n 2, 1) := by decide +kernel
theorem dX10_trips_47 : decode cX10_trips 47 = .ok (.invokevirtual 185, 3) := by decide +kernel
theorem dX10_trips_50 : decode cX10_trips 50 = .ok (.istore_n 3, 1) := by decide +kernel
theorem dX10_trips_51 : decode cX10_trips 51 = .ok (.iconst 0, 1) := by decide +kernel
theorem dX10_trips_52 : decode cX10_trips 52 = .ok (.istore 4, 2) := by decide +kernel
theorem dX10_trips_54 : decode cX10_trips 54 = .ok (.iload 4, 2) := by decide +kernel
theorem dX10_trips_56 : decode cX10_trips 56 = .ok (.iload_n 3, 1) := by decide +kernel
theorem dX10_trips_57 : decode cX10_trips 57 = .ok (.if_icmp .ge 37, 3) := by decide +kernel
theorem dX10_trips_60 : decode cX10_trips 60 = .ok (.aload_n 0, 1) := by decide +kernel
theorem dX10_trips_61 : decode cX10_trips 61 = .ok (.aload_n 0, 1) := by decide +kernel
theorem dX10_trips_62 : decode cX10_trips 62 = .ok (.getfield 73, 3) := by decide +kernel
theorem dX10_trips_65 : decode cX10_trips 65 = .ok (.iload 4, 2) := by decide +kernel
theorem dX10_trips_67 : decode cX10_trips 67 = .ok (.iaload, 1) := by decide +kernel
theorem dX10_trips_68 : decode cX10_trips 68 = .ok (.aload_n 0, 1) := by decide +kernel
theorem dX10_trips_69 : decode cX10_trips 69 = .ok (.getfield 19, 3) := by decide +kernel
theorem dX10_trips_72 : decode cX10_trips 72 = .ok (.iload_n 2, 1) := by decide +kernel
theorem dX10_trips_73 : decode cX10_trips 73 = .ok (.iaload, 1) := by decide +kernel
theorem dX10_trips_74 : decode cX10_trips 74 = .ok (.if_icmp .le 7, 3) := by decide +kernel
theorem dX10_trips_77 : decode cX10_trips 77 = .ok (.iconst 3, 1) := by decide +kernel
theorem dX10_trips_78 : decode cX10_trips 78 = .ok (.goto 7, 3) := by decide +kernel
theorem dX10_trips_81 : decode cX10_trips 81 = .ok (.aload_n 0, 1) := by decide +kernel
theorem dX10_trips_82 : decode cX10_trips 82 = .ok (.getfield 79, 3) := by decide +kernel
theorem dX10_trips_85 : decode cX10_trips 85 = .ok (.putfield 79, 3) := by decide +kernel
theorem dX10_trips_88 : decode cX10_trips 88 = .ok (.iinc 4 1, 3) := by decide +kernel
theorem dX10_trips_91 : decode cX10_trips 91 = .ok (.goto (-37), 3) := by decide +kernel
theorem dX10_trips_94 : decode cX10_trips 94 = .ok (.aload_n 0, 1) := by decide +kernel
theorem dX10_trips_95 : decode cX10_trips 95 = .ok (.getfield 79, 3) := by decide +kernel
theorem dX10_trips_98 : decode cX10_trips 98 = .ok (.ifCond .le 7, 3) := by decide +kernel
theorem dX10_trips_101 : decode cX10_trips 101 = .ok (.iconst 0, 1) := by decide +kernel
theorem dX10_trips_102 : decode cX10_trips 102 = .ok (.goto 14, 3) := by decide +kernel
theorem dX10_trips_105 : decode cX10_trips 105 = .ok (.aload_n 0, 1) := by decide +kernel
theorem dX10_trips_106 : decode cX10_trips 106 = .ok (.iload_n 3, 1) := by decide +kernel
theorem dX10_trips_107 : decode cX10_trips 107 = .ok (.aload_n 0, 1) := by decide +kernel
theorem dX10_trips_108 : decode cX10_trips 108 = .ok (.getfield 19, 3) := by decide +kernel
theorem dX10_trips_111 : decode cX10_trips 111 = .ok (.iload_n 2, 1) := by decide +kernel
theorem dX10_trips_112 : decode cX10_trips 112 = .ok (.iaload, 1) := by decide +kernel
theorem dX10_trips_113 : decode cX10_trips 113 = .ok (.invokevirtual 188, 3) := by decide +kernel
theorem dX10_trips_116 : decode cX10_trips 116 = .ok (.ireturn, 1) := by decide +kernel
theorem dX10_tripsByTrying_0 : decode cX10_tripsByTrying 0 = .ok (.aload_n 0, 1) := by decide +kernel
theorem dX10_tripsByTrying_1 : decode cX10_tripsByTrying 1 = .ok (.iload_n 1, 1) := by decide +kernel
theorem dX10_tripsByTrying_2 : decode cX10_tripsByTrying 2 = .ok (.iload_n 2, 1) := by decide +kernel
theorem dX10_tripsByTrying_3 : decode cX10_tripsByTrying 3 = .ok (.invokevirtual 191, 3) := by decide +kernel
theorem dX10_tripsByTrying_6 : decode cX10_tripsByTrying 6 = .ok (.ireturn, 1) := by decide +kernel
theorem dX10_isOff_0 : decode cX10_isOff 0 = .ok (.aload_n 0, 1) := by decide +kernel
theorem dX10_isOff_1 : decode cX10_isOff 1 = .ok (.iload_n 1, 1) := by decide +kernel
theorem dX10_isOff_2 : decode cX10_isOff 2 = .ok (.iconst 0, 1) := by decide +kernel
theorem dX10_isOff_3 : decode cX10_isOff 3 = .ok (.iconst 2, 1) := by decide +kernel
theorem dX10_isOff_4 : decode cX10_isOff 4 = .ok (.aload_n 0, 1) := by decide +kernel
theorem dX10_isOff_5 : decode cX10_isOff 5 = .ok (.getfield 83, 3) := by decide +kernel
theorem dX10_isOff_8 : decode cX10_isOff 8 = .ok (.imul, 1) := by decide +kernel
theorem dX10_isOff_9 : decode cX10_isOff 9 = .ok (.iconst 1, 1) := by decide +kernel
theorem dX10_isOff_10 : decode cX10_isOff 10 = .ok (.isub, 1) := by decide +kernel
theorem dX10_isOff_11 : decode cX10_isOff 11 = .ok (.invokestatic 98, 3) := by decide +kernel
theorem dX10_isOff_14 : decode cX10_isOff 14 = .ok (.ifCond .ne 7, 3) := by decide +kernel
theorem dX10_isOff_17 : decode cX10_isOff 17 = .ok (.iconst 1, 1) := by decide +kernel
theorem dX10_isOff_18 : decode cX10_isOff 18 = .ok (.goto 18, 3) := by decide +kernel
theorem dX10_isOff_21 : decode cX10_isOff 21 = .ok (.iload_n 2, 1) := by decide +kernel
theorem dX10_isOff_22 : decode cX10_isOff 22 = .ok (.iconst 0, 1) := by decide +kernel
theorem dX10_isOff_23 : decode cX10_isOff 23 = .ok (.bipush 99, 2) := by decide +kernel
theorem dX10_isOff_25 : decode cX10_isOff 25 = .ok (.invokestatic 98, 3) := by decide +kernel
theorem dX10_isOff_28 : decode cX10_isOff 28 = .ok (.ifCond .ne 7, 3) := by decide +kernel
theorem dX10_isOff_31 : decode cX10_isOff 31 = .ok (.iconst 2, 1) := by decide +kernel
theorem dX10_isOff_32 : decode cX10_isOff 32 = .ok (.goto 4, 3) := by decide +kernel
theorem dX10_isOff_35 : decode cX10_isOff 35 = .ok (.iconst 0, 1) := by decide +kernel
theorem dX10_isOff_36 : decode cX10_isOff 36 = .ok (.putfield 79, 3) := by decide +kernel
theorem dX10_isOff_39 : decode cX10_isOff 39 = .ok (.aload_n 0, 1) := by decide +kernel
theorem dX10_isOff_40 : decode cX10_isOff 40 = .ok (.getfield 79, 3) := by decide +kernel
theorem dX10_isOff_43 : decode cX10_isOff 43 = .ok (.ifCond .le 7, 3) := by decide +kernel
theorem dX10_isOff_46 : decode cX10_isOff 46 = .ok (.iconst 1, 1) := by decide +kernel
theorem dX10_isOff_47 : decode cX10_isOff 47 = .ok (.goto 4, 3) := by decide +kernel
theorem dX10_isOff_50 : decode cX10_isOff 50 = .ok (.iconst 0, 1) := by decide +kernel
theorem dX10_isOff_51 : decode cX10_isOff 51 = .ok (.ireturn, 1) := by decide +kernel
theorem dX10_taken_0 : decode cX10_taken 0 = .ok (.aload_n 0, 1) := by decide +kernel
theorem dX10_taken_1 : decode cX10_taken 1 = .ok (.iload_n 1, 1) := by decide +kernel
theorem dX10_taken_2 : decode cX10_taken 2 = .ok (.iload_n 2, 1) := by decide +kernel
theorem dX10_taken_3 : decode cX10_taken 3 = .ok (.invokevirtual 194, 3) := by decide +kernel
theorem dX10_taken_6 : decode cX10_taken 6 = .ok (.ifCond .eq 7, 3) := by decide +kernel
theorem dX10_taken_9 : decode cX10_taken 9 = .ok (.iconst 0, 1) := by decide +kernel
theorem dX10_taken_10 : decode cX10_taken 10 = .ok (.goto 10, 3) := by decide +kernel
theorem dX10_taken_13 : decode cX10_taken 13 = .ok (.aload_n 0, 1) := by decide +kernel
theorem dX10_taken_14 : decode cX10_taken 14 = .ok (.iload_n 1, 1) := by decide +kernel
theorem dX10_taken_15 : decode cX10_taken 15 = .ok (.iload_n 2, 1) := by decide +kernel
theorem dX10_taken_16 : decode cX10_taken 16 = .ok (.iconst (-1), 1) := by decide +kernel
theorem dX10_taken_17 : decode cX10_taken 17 = .ok (.invokevirtual 153, 3) := by decide +kernel
theorem dX10_taken_20 : decode cX10_taken 20 = .ok (.ireturn, 1) := by decide +kernel
theorem dX10_hanging_0 : decode cX10_hanging 0 = .ok (.aload_n 0, 1) := by decide +kernel
theorem dX10_hanging_1 : decode cX10_hanging 1 = .ok (.iload_n 1, 1) := by decide +kernel
theorem dX10_hanging_2 : decode cX10_hanging 2 = .ok (.iload_n 2, 1) := by decide +kernel
theorem dX10_hanging_3 : decode cX10_hanging 3 = .ok (.invokevirtual 194, 3) := by decide +kernel
theorem dX10_hanging_6 : decode cX10_hanging 6 = .ok (.ifCond .eq 5, 3) := by decide +kernel
theorem dX10_hanging_9 : decode cX10_hanging 9 = .ok (.iconst 0, 1) := by decide +kernel
theorem dX10_hanging_10 : decode cX10_hanging 10 = .ok (.ireturn, 1) := by decide +kernel
theorem dX10_hanging_11 : decode cX10_hanging 11 = .ok (.iconst 0, 1) := by decide +kernel
theorem dX10_hanging_12 : decode cX10_hanging 12 = .ok (.istore_n 3, 1) := by decide +kernel
theorem dX10_hanging_13 : decode cX10_hanging 13 = .ok (.iconst 0, 1) := by decide +kernel
theorem dX10_hanging_14 : decode cX10_hanging 14 = .ok (.istore 4, 2) := by decide +kernel
theorem dX10_hanging_16 : decode cX10_hanging 16 = .ok (.iload 4, 2) := by decide +kernel
theorem dX10_hanging_18 : decode cX10_hanging 18 = .ok (.aload_n 0, 1) := by decide +kernel
theorem dX10_hanging_19 : decode cX10_hanging 19 = .ok (.getfield 92, 3) := by decide +kernel
theorem dX10_hanging_22 : decode cX10_hanging 22 = .ok (.if_icmp .ge 87, 3) := by decide +kernel
theorem dX10_hanging_25 : decode cX10_hanging 25 = .ok (.iconst 0, 1) := by decide +kernel
theorem dX10_hanging_26 : decode cX10_hanging 26 = .ok (.istore 5, 2) := by decide +kernel
theorem dX10_hanging_28 : decode cX10_hanging 28 = .ok (.iload 5, 2) := by decide +kernel
theorem dX10_hanging_30 : decode cX10_hanging 30 = .ok (.aload_n 0, 1) := by decide +kernel
theorem dX10_hanging_31 : decode cX10_hanging 31 = .ok (.getfield 61, 3) := by decide +kernel
theorem dX10_hanging_34 : decode cX10_hanging 34 = .ok (.iload 4, 2) := by decide +kernel
theorem dX10_hanging_36 : decode cX10_hanging 36 = .ok (.iaload, 1) := by decide +kernel
theorem dX10_hanging_37 : decode cX10_hanging 37 = .ok (.if_icmp .ge 66, 3) := by decide +kernel
theorem dX10_hanging_40 : decode cX10_hanging 40 = .ok (.iload_n 3, 1) := by decide +kernel
theorem dX10_hanging_41 : decode cX10_hanging 41 = .ok (.aload_n 0, 1) := by decide +kernel
theorem dX10_hanging_42 : decode cX10_hanging 42 = .ok (.getfield 58, 3) := by decide +kernel
theorem dX10_hanging_45 : decode cX10_hanging 45 = .ok (.iload 4, 2) := by decide +kernel
theorem dX10_hanging_47 : decode cX10_hanging 47 = .ok (.iaload, 1) := by decide +kernel
theorem dX10_hanging_48 : decode cX10_hanging 48 = .ok (.bipush 112, 2) := by decide +kernel
theorem dX10_hanging_50 : decode cX10_hanging 50 = .ok (.if_icmp .ne 44, 3) := by decide +kernel
theorem dX10_hanging_53 : decode cX10_hanging 53 = .ok (.iload_n 2, 1) := by decide +kernel
theorem dX10_hanging_54 : decode cX10_hanging 54 = .ok (.aload_n 0, 1) := by decide +kernel
theorem dX10_hanging_55 : decode cX10_hanging 55 = .ok (.getfield 49, 3) := by decide +kernel
theorem dX10_hanging_58 : decode cX10_hanging 58 = .ok (.iload 4, 2) := by decide +kernel
theorem dX10_hanging_60 : decode cX10_hanging 60 = .ok (.iaload, 1) := by decide +kernel
theorem dX10_hanging_61 : decode cX10_hanging 61 = .ok (.aload_n 0, 1) := by decide +kernel
theorem dX10_hanging_62 : decode cX10_hanging 62 = .ok (.getfield 52, 3) := by decide +kernel
theorem dX10_hanging_65 : decode cX10_hanging 65 = .ok (.iload 4, 2) := by decide +kernel
theorem dX10_hanging_67 : decode cX10_hanging 67 = .ok (.iaload, 1) := by decide +kernel
theorem dX10_hanging_68 : decode cX10_hanging 68 = .ok (.invokestatic 98, 3) := by decide +kernel
theorem dX10_hanging_71 : decode cX10_hanging 71 = .ok (.ifCond .eq 23, 3) := by decide +kernel
theorem dX10_hanging_74 : decode cX10_hanging 74 = .ok (.aload_n 0, 1) := by decide +kernel
theorem dX10_hanging_75 : decode cX10_hanging 75 = .ok (.getfield 67, 3) := by decide +kernel
theorem dX10_hanging_78 : decode cX10_hanging 78 = .ok (.iconst 5, 1) := by decide +kernel
theorem dX10_hanging_79 : decode cX10_hanging 79 = .ok (.iload 4, 2) := by decide +kernel
theorem dX10_hanging_81 : decode cX10_hanging 81 = .ok (.imul, 1) := by decide +kernel
theorem dX10_hanging_82 : decode cX10_hanging 82 = .ok (.iload 5, 2) := by decide +kernel
theorem dX10_hanging_84 : decode cX10_hanging 84 = .ok (.iadd, 1) := by decide +kernel
theorem dX10_hanging_85 : decode cX10_hanging 85 = .ok (.iaload, 1) := by decide +kernel
theorem dX10_hanging_86 : decode cX10_hanging 86 = .ok (.iload_n 1, 1) := by decide +kernel
theorem dX10_hanging_87 : decode cX10_hanging 87 = .ok (.if_icmp .ne 7, 3) := by decide +kernel
theorem dX10_hanging_90 : decode cX10_hanging 90 = .ok (.iconst 1, 1) := by decide +kernel
theorem dX10_hanging_91 : decode cX10_hanging 91 = .ok (.goto 4, 3) := by decide +kernel
theorem dX10_hanging_94 : decode cX10_hanging 94 = .ok (.iconst 0, 1) := by decide +kernel
theorem dX10_hanging_95 : decode cX10_hanging 95 = .ok (.iadd, 1) := by decide +kernel
theorem dX10_hanging_96 : decode cX10_hanging 96 = .ok (.istore_n 3, 1) := by decide +kernel
theorem dX10_hanging_97 : decode cX10_hanging 97 = .ok (.iinc 5 1, 3) := by decide +kernel
theorem dX10_hanging_100 : decode cX10_hanging 100 = .ok (.goto (-72), 3) := by decide +kernel
theorem dX10_hanging_103 : decode cX10_hanging 103 = .ok (.iinc 4 1, 3) := by decide +kernel
theorem dX10_hanging_106 : decode cX10_hanging 106 = .ok (.goto (-90), 3) := by decide +kernel
theorem dX10_hanging_109 : decode cX10_hanging 109 = .ok (.iload_n 3, 1) := by decide +kernel
theorem dX10_hanging_110 : decode cX10_hanging 110 = .ok (.ireturn, 1) := by decide +kernel
theorem dX10_awayFor_0 : decode cX10_awayFor 0 = .ok (.aload_n 0, 1) := by decide +kernel
theorem dX10_awayFor_1 : decode cX10_awayFor 1 = .ok (.aload_n 0, 1) := by decide +kernel
theorem dX10_awayFor_2 : decode cX10_awayFor 2 = .ok (.iload_n 1, 1) := by decide +kernel
theorem dX10_awayFor_3 : decode cX10_awayFor 3 = .ok (.invokevirtual 127, 3) := by decide +kernel
theorem dX10_awayFor_6 : decode cX10_awayFor 6 = .ok (.ifCond .ne 7, 3) := by decide +kernel
theorem dX10_awayFor_9 : decode cX10_awayFor 9 = .ok (.iconst 1, 1) := by decide +kernel
theorem dX10_awayFor_10 : decode cX10_awayFor 10 = .ok (.goto 19, 3) := by decide +kernel
theorem dX10_awayFor_13 : decode cX10_awayFor 13 = .ok (.iload_n 2, 1) := by decide +kernel
theorem dX10_awayFor_14 : decode cX10_awayFor 14 = .ok (.bipush (-9), 2) := by decide +kernel
theorem dX10_awayFor_16 : decode cX10_awayFor 16 = .ok (.bipush 108, 2) := by decide +kernel
theorem dX10_awayFor_18 : decode cX10_awayFor 18 = .ok (.invokestatic 98, 3) := by decide +kernel
theorem dX10_awayFor_21 : decode cX10_awayFor 21 = .ok (.ifCond .ne 7, 3) := by decide +kernel
theorem dX10_awayFor_24 : decode cX10_awayFor 24 = .ok (.iconst 2, 1) := by decide +kernel
theorem dX10_awayFor_25 : decode cX10_awayFor 25 = .ok (.goto 4, 3) := by decide +kernel
theorem dX10_awayFor_28 : decode cX10_awayFor 28 = .ok (.iconst 3, 1) := by decide +kernel
theorem dX10_awayFor_29 : decode cX10_awayFor 29 = .ok (.putfield 79, 3) := by decide +kernel
theorem dX10_awayFor_32 : decode cX10_awayFor 32 = .ok (.iconst 0, 1) := by decide +kernel
theorem dX10_awayFor_33 : decode cX10_awayFor 33 = .ok (.istore_n 3, 1) := by decide +kernel
theorem dX10_awayFor_34 : decode cX10_awayFor 34 = .ok (.iload_n 3, 1) := by decide +kernel
theorem dX10_awayFor_35 : decode cX10_awayFor 35 = .ok (.aload_n 0, 1) := by decide +kernel
theorem dX10_awayFor_36 : decode cX10_awayFor 36 = .ok (.getfield 92, 3) := by decide +kernel
theorem dX10_awayFor_39 : decode cX10_awayFor 39 = .ok (.if_icmp .ge 78, 3) := by decide +kernel
theorem dX10_awayFor_42 : decode cX10_awayFor 42 = .ok (.aload_n 0, 1) := by decide +kernel
theorem dX10_awayFor_43 : decode cX10_awayFor 43 = .ok (.getfield 79, 3) := by decide +kernel
theorem dX10_awayFor_46 : decode cX10_awayFor 46 = .ok (.iconst 3, 1) := by decide +kernel
theorem dX10_awayFor_47 : decode cX10_awayFor 47 = .ok (.if_icmp .ne 70, 3) := by decide +kernel
theorem dX10_awayFor_50 : decode cX10_awayFor 50 = .ok (.aload_n 0, 1) := by decide +kernel
theorem dX10_awayFor_51 : decode cX10_awayFor 51 = .ok (.getfield 58, 3) := by decide +kernel
theorem dX10_awayFor_54 : decode cX10_awayFor 54 = .ok (.iload_n 3, 1) := by decide +kernel
theorem dX10_awayFor_55 : decode cX10_awayFor 55 = .ok (.iaload, 1) := by decide +kernel
theorem dX10_awayFor_56 : decode cX10_awayFor 56 = .ok (.bipush 112, 2) := by decide +kernel
theorem dX10_awayFor_58 : decode cX10_awayFor 58 = .ok (.if_icmp .ne 53, 3) := by decide +kernel
theorem dX10_awayFor_61 : decode cX10_awayFor 61 = .ok (.aload_n 0, 1) := by decide +kernel
theorem dX10_awayFor_62 : decode cX10_awayFor 62 = .ok (.iload_n 3, 1) := by decide +kernel
theorem dX10_awayFor_63 : decode cX10_awayFor 63 = .ok (.iload_n 1, 1) := by decide +kernel
theorem dX10_awayFor_64 : decode cX10_awayFor 64 = .ok (.invokevirtual 144, 3) := by decide +kernel
theorem dX10_awayFor_67 : decode cX10_awayFor 67 = .ok (.ifCond .eq 44, 3) := by decide +kernel
theorem dX10_awayFor_70 : decode cX10_awayFor 70 = .ok (.iload_n 2, 1) := by decide +kernel
theorem dX10_awayFor_71 : decode cX10_awayFor 71 = .ok (.aload_n 0, 1) := by decide +kernel
theorem dX10_awayFor_72 : decode cX10_awayFor 72 = .ok (.getfield 49, 3) := by decide +kernel
theorem dX10_awayFor_75 : decode cX10_awayFor 75 = .ok (.iload_n 3, 1) := by decide +kernel
theorem dX10_awayFor_76 : decode cX10_awayFor 76 = .ok (.iaload, 1) := by decide +kernel
theorem dX10_awayFor_77 : decode cX10_awayFor 77 = .ok (.aload_n 0, 1) := by decide +kernel
theorem dX10_awayFor_78 : decode cX10_awayFor 78 = .ok (.iload_n 1, 1) := by decide +kernel
theorem dX10_awayFor_79 : decode cX10_awayFor 79 = .ok (.invokevirtual 147, 3) := by decide +kernel
theorem dX10_awayFor_82 : decode cX10_awayFor 82 = .ok (.isub, 1) := by decide +kernel
theorem dX10_awayFor_83 : decode cX10_awayFor 83 = .ok (.aload_n 0, 1) := by decide +kernel
theorem dX10_awayFor_84 : decode cX10_awayFor 84 = .ok (.getfield 52, 3) := by decide +kernel
theorem dX10_awayFor_87 : decode cX10_awayFor 87 = .ok (.iload_n 3, 1) := by decide +kernel
theorem dX10_awayFor_88 : decode cX10_awayFor 88 = .ok (.iaload, 1) := by decide +kernel
theorem dX10_awayFor_89 : decode cX10_awayFor 89 = .ok (.aload_n 0, 1) := by decide +kernel
theorem dX10_awayFor_90 : decode cX10_awayFor 90 = .ok (.iload_n 1, 1) := by decide +kernel
theorem dX10_awayFor_91 : decode cX10_awayFor 91 = .ok (.invokevirtual 147, 3) := by decide +kernel
theorem dX10_awayFor_94 : decode cX10_awayFor 94 = .ok (.iadd, 1) := by decide +kernel
theorem dX10_awayFor_95 : decode cX10_awayFor 95 = .ok (.invokestatic 98, 3) := by decide +kernel
theorem dX10_awayFor_98 : decode cX10_awayFor 98 = .ok (.ifCond .ne 6, 3) := by decide +kernel
theorem dX10_awayFor_101 : decode cX10_awayFor 101 = .ok (.goto 10, 3) := by decide +kernel
theorem dX10_awayFor_104 : decode cX10_awayFor 104 = .ok (.aload_n 0, 1) := by decide +kernel
theorem dX10_awayFor_105 : decode cX10_awayFor 105 = .ok (.iconst 0, 1) := by decide +kernel
theorem dX10_awayFor_106 : decode cX10_awayFor 106 = .ok (.putfield 79, 3) := by decide +kernel
theorem dX10_awayFor_109 : decode cX10_awayFor 109 = .ok (.iload_n 3, 1) := by decide +kernel
theorem dX10_awayFor_110 : decode cX10_awayFor 110 = .ok (.ireturn, 1) := by decide +kernel
theorem dX10_awayFor_111 : decode cX10_awayFor 111 = .ok (.iinc 3 1, 3) := by decide +kernel
theorem dX10_awayFor_114 : decode cX10_awayFor 114 = .ok (.goto (-80), 3) := by decide +kernel
theorem dX10_awayFor_117 : decode cX10_awayFor 117 = .ok (.iconst 0, 1) := by decide +kernel
theorem dX10_awayFor_118 : decode cX10_awayFor 118 = .ok (.ireturn, 1) := by decide +kernel
theorem dX10_planned_0 : decode cX10_planned 0 = .ok (.aload_n 0, 1) := by decide +kernel
theorem dX10_planned_1 : decode cX10_planned 1 = .ok (.aload_n 0, 1) := by decide +kernel
theorem dX10_planned_2 : decode cX10_planned 2 = .ok (.getfield 95, 3) := by decide +kernel
theorem dX10_planned_5 : decode cX10_planned 5 = .ok (.invokevirtual 133, 3) := by decide +kernel
theorem dX10_planned_8 : decode cX10_planned 8 = .ok (.ireturn, 1) := by decide +kernel
theorem dX10_insured_0 : decode cX10_insured 0 = .ok (.aload_n 0, 1) := by decide +kernel
theorem dX10_insured_1 : decode cX10_insured 1 = .ok (.iconst 0, 1) := by decide +kernel
theorem dX10_insured_2 : decode cX10_insured 2 = .ok (.putfield 79, 3) := by decide +kernel
theorem dX10_insured_5 : decode cX10_insured 5 = .ok (.lconst 0, 1) := by decide +kernel
theorem dX10_insured_6 : decode cX10_insured 6 = .ok (.lstore_n 1, 1) := by decide +kernel
