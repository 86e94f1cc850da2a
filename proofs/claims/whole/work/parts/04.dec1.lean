theorem dX7_init_169 : decode cX7_init 169 = .ok (.invokespecial 61, 3) := by decide +kernel
theorem dX7_init_172 : decode cX7_init 172 = .ok (.putfield 68, 3) := by decide +kernel
theorem dX7_init_175 : decode cX7_init 175 = .ok (.aload_n 0, 1) := by decide +kernel
theorem dX7_init_176 : decode cX7_init 176 = .ok (.iconst 1, 1) := by decide +kernel
theorem dX7_init_177 : decode cX7_init 177 = .ok (.putfield 71, 3) := by decide +kernel
theorem dX7_init_180 : decode cX7_init 180 = .ok (.return_, 1) := by decide +kernel
theorem dX7_append_0 : decode cX7_append 0 = .ok (.iload_n 1, 1) := by decide +kernel
theorem dX7_append_1 : decode cX7_append 1 = .ok (.bipush 32, 2) := by decide +kernel
theorem dX7_append_3 : decode cX7_append 3 = .ok (.if_icmp .lt 9, 3) := by decide +kernel
theorem dX7_append_6 : decode cX7_append 6 = .ok (.iload_n 1, 1) := by decide +kernel
theorem dX7_append_7 : decode cX7_append 7 = .ok (.bipush 126, 2) := by decide +kernel
theorem dX7_append_9 : decode cX7_append 9 = .ok (.if_icmp .le 13, 3) := by decide +kernel
theorem dX7_append_12 : decode cX7_append 12 = .ok (.new 75, 3) := by decide +kernel
theorem dX7_append_15 : decode cX7_append 15 = .ok (.dup, 1) := by decide +kernel
theorem dX7_append_16 : decode cX7_append 16 = .ok (.ldc 77, 2) := by decide +kernel
theorem dX7_append_18 : decode cX7_append 18 = .ok (.invokespecial 79, 3) := by decide +kernel
theorem dX7_append_21 : decode cX7_append 21 = .ok (.athrow, 1) := by decide +kernel
theorem dX7_append_22 : decode cX7_append 22 = .ok (.aload_n 0, 1) := by decide +kernel
theorem dX7_append_23 : decode cX7_append 23 = .ok (.getfield 12, 3) := by decide +kernel
theorem dX7_append_26 : decode cX7_append 26 = .ok (.invokevirtual 82, 3) := by decide +kernel
theorem dX7_append_29 : decode cX7_append 29 = .ok (.ifCond .eq 13, 3) := by decide +kernel
theorem dX7_append_32 : decode cX7_append 32 = .ok (.new 86, 3) := by decide +kernel
theorem dX7_append_35 : decode cX7_append 35 = .ok (.dup, 1) := by decide +kernel
theorem dX7_append_36 : decode cX7_append 36 = .ok (.ldc 88, 2) := by decide +kernel
theorem dX7_append_38 : decode cX7_append 38 = .ok (.invokespecial 90, 3) := by decide +kernel
theorem dX7_append_41 : decode cX7_append 41 = .ok (.athrow, 1) := by decide +kernel
theorem dX7_append_42 : decode cX7_append 42 = .ok (.aload_n 0, 1) := by decide +kernel
theorem dX7_append_43 : decode cX7_append 43 = .ok (.getfield 12, 3) := by decide +kernel
theorem dX7_append_46 : decode cX7_append 46 = .ok (.iload_n 1, 1) := by decide +kernel
theorem dX7_append_47 : decode cX7_append 47 = .ok (.i2c, 1) := by decide +kernel
theorem dX7_append_48 : decode cX7_append 48 = .ok (.invokevirtual 91, 3) := by decide +kernel
theorem dX7_append_51 : decode cX7_append 51 = .ok (.aload_n 0, 1) := by decide +kernel
theorem dX7_append_52 : decode cX7_append 52 = .ok (.getfield 12, 3) := by decide +kernel
theorem dX7_append_55 : decode cX7_append 55 = .ok (.invokevirtual 95, 3) := by decide +kernel
theorem dX7_append_58 : decode cX7_append 58 = .ok (.ireturn, 1) := by decide +kernel
theorem dX7_clearInput_0 : decode cX7_clearInput 0 = .ok (.aload_n 0, 1) := by decide +kernel
theorem dX7_clearInput_1 : decode cX7_clearInput 1 = .ok (.getfield 12, 3) := by decide +kernel
theorem dX7_clearInput_4 : decode cX7_clearInput 4 = .ok (.invokevirtual 95, 3) := by decide +kernel
theorem dX7_clearInput_7 : decode cX7_clearInput 7 = .ok (.istore_n 1, 1) := by decide +kernel
theorem dX7_clearInput_8 : decode cX7_clearInput 8 = .ok (.aload_n 0, 1) := by decide +kernel
theorem dX7_clearInput_9 : decode cX7_clearInput 9 = .ok (.getfield 12, 3) := by decide +kernel
theorem dX7_clearInput_12 : decode cX7_clearInput 12 = .ok (.invokevirtual 99, 3) := by decide +kernel
theorem dX7_clearInput_15 : decode cX7_clearInput 15 = .ok (.iload_n 1, 1) := by decide +kernel
theorem dX7_clearInput_16 : decode cX7_clearInput 16 = .ok (.ireturn, 1) := by decide +kernel
theorem dX7_firstError_0 : decode cX7_firstError 0 = .ok (.aload_n 0, 1) := by decide +kernel
theorem dX7_firstError_1 : decode cX7_firstError 1 = .ok (.getfield 12, 3) := by decide +kernel
theorem dX7_firstError_4 : decode cX7_firstError 4 = .ok (.iload_n 1, 1) := by decide +kernel
theorem dX7_firstError_5 : decode cX7_firstError 5 = .ok (.invokevirtual 102, 3) := by decide +kernel
theorem dX7_firstError_8 : decode cX7_firstError 8 = .ok (.ireturn, 1) := by decide +kernel
theorem dX7_load_0 : decode cX7_load 0 = .ok (.aload_n 0, 1) := by decide +kernel
theorem dX7_load_1 : decode cX7_load 1 = .ok (.getfield 12, 3) := by decide +kernel
theorem dX7_load_4 : decode cX7_load 4 = .ok (.iconst 1, 1) := by decide +kernel
theorem dX7_load_5 : decode cX7_load 5 = .ok (.invokevirtual 106, 3) := by decide +kernel
theorem dX7_load_8 : decode cX7_load 8 = .ok (.ifCond .ne 13, 3) := by decide +kernel
theorem dX7_load_11 : decode cX7_load 11 = .ok (.new 86, 3) := by decide +kernel
theorem dX7_load_14 : decode cX7_load 14 = .ok (.dup, 1) := by decide +kernel
theorem dX7_load_15 : decode cX7_load 15 = .ok (.ldc 110, 2) := by decide +kernel
theorem dX7_load_17 : decode cX7_load 17 = .ok (.invokespecial 90, 3) := by decide +kernel
theorem dX7_load_20 : decode cX7_load 20 = .ok (.athrow, 1) := by decide +kernel
theorem dX7_load_21 : decode cX7_load 21 = .ok (.aload_n 0, 1) := by decide +kernel
theorem dX7_load_22 : decode cX7_load 22 = .ok (.aload_n 0, 1) := by decide +kernel
theorem dX7_load_23 : decode cX7_load 23 = .ok (.getfield 12, 3) := by decide +kernel
theorem dX7_load_26 : decode cX7_load 26 = .ok (.invokevirtual 112, 3) := by decide +kernel
theorem dX7_load_29 : decode cX7_load 29 = .ok (.putfield 41, 3) := by decide +kernel
theorem dX7_load_32 : decode cX7_load 32 = .ok (.aload_n 0, 1) := by decide +kernel
theorem dX7_load_33 : decode cX7_load 33 = .ok (.getfield 12, 3) := by decide +kernel
theorem dX7_load_36 : decode cX7_load 36 = .ok (.invokevirtual 99, 3) := by decide +kernel
theorem dX7_load_39 : decode cX7_load 39 = .ok (.aload_n 0, 1) := by decide +kernel
theorem dX7_load_40 : decode cX7_load 40 = .ok (.getfield 48, 3) := by decide +kernel
theorem dX7_load_43 : decode cX7_load 43 = .ok (.invokevirtual 116, 3) := by decide +kernel
theorem dX7_load_46 : decode cX7_load 46 = .ok (.aload_n 0, 1) := by decide +kernel
theorem dX7_load_47 : decode cX7_load 47 = .ok (.getfield 55, 3) := by decide +kernel
theorem dX7_load_50 : decode cX7_load 50 = .ok (.invokevirtual 119, 3) := by decide +kernel
theorem dX7_load_53 : decode cX7_load 53 = .ok (.aload_n 0, 1) := by decide +kernel
theorem dX7_load_54 : decode cX7_load 54 = .ok (.iconst 1, 1) := by decide +kernel
theorem dX7_load_55 : decode cX7_load 55 = .ok (.putfield 71, 3) := by decide +kernel
theorem dX7_load_58 : decode cX7_load 58 = .ok (.aload_n 0, 1) := by decide +kernel
theorem dX7_load_59 : decode cX7_load 59 = .ok (.getfield 41, 3) := by decide +kernel
theorem dX7_load_62 : decode cX7_load 62 = .ok (.invokevirtual 122, 3) := by decide +kernel
theorem dX7_load_65 : decode cX7_load 65 = .ok (.ireturn, 1) := by decide +kernel
theorem dX7_setNote_0 : decode cX7_setNote 0 = .ok (.iload_n 1, 1) := by decide +kernel
theorem dX7_setNote_1 : decode cX7_setNote 1 = .ok (.invokestatic 125, 3) := by decide +kernel
theorem dX7_setNote_4 : decode cX7_setNote 4 = .ok (.aload_n 0, 1) := by decide +kernel
theorem dX7_setNote_5 : decode cX7_setNote 5 = .ok (.invokevirtual 129, 3) := by decide +kernel
theorem dX7_setNote_8 : decode cX7_setNote 8 = .ok (.aload_n 0, 1) := by decide +kernel
theorem dX7_setNote_9 : decode cX7_setNote 9 = .ok (.iload_n 1, 1) := by decide +kernel
theorem dX7_setNote_10 : decode cX7_setNote 10 = .ok (.invokevirtual 132, 3) := by decide +kernel
theorem dX7_setNote_13 : decode cX7_setNote 13 = .ok (.istore_n 2, 1) := by decide +kernel
theorem dX7_setNote_14 : decode cX7_setNote 14 = .ok (.aload_n 0, 1) := by decide +kernel
theorem dX7_setNote_15 : decode cX7_setNote 15 = .ok (.getfield 18, 3) := by decide +kernel
theorem dX7_setNote_18 : decode cX7_setNote 18 = .ok (.iload_n 1, 1) := by decide +kernel
theorem dX7_setNote_19 : decode cX7_setNote 19 = .ok (.aload_n 0, 1) := by decide +kernel
theorem dX7_setNote_20 : decode cX7_setNote 20 = .ok (.getfield 12, 3) := by decide +kernel
theorem dX7_setNote_23 : decode cX7_setNote 23 = .ok (.iload_n 1, 1) := by decide +kernel
theorem dX7_setNote_24 : decode cX7_setNote 24 = .ok (.invokevirtual 136, 3) := by decide +kernel
theorem dX7_setNote_27 : decode cX7_setNote 27 = .ok (.aastore, 1) := by decide +kernel
theorem dX7_setNote_28 : decode cX7_setNote 28 = .ok (.aload_n 0, 1) := by decide +kernel
theorem dX7_setNote_29 : decode cX7_setNote 29 = .ok (.getfield 12, 3) := by decide +kernel
theorem dX7_setNote_32 : decode cX7_setNote 32 = .ok (.invokevirtual 99, 3) := by decide +kernel
theorem dX7_setNote_35 : decode cX7_setNote 35 = .ok (.aload_n 0, 1) := by decide +kernel
theorem dX7_setNote_36 : decode cX7_setNote 36 = .ok (.iconst 1, 1) := by decide +kernel
theorem dX7_setNote_37 : decode cX7_setNote 37 = .ok (.putfield 71, 3) := by decide +kernel
theorem dX7_setNote_40 : decode cX7_setNote 40 = .ok (.iload_n 2, 1) := by decide +kernel
theorem dX7_setNote_41 : decode cX7_setNote 41 = .ok (.ireturn, 1) := by decide +kernel
theorem dX7_removeNote_0 : decode cX7_removeNote 0 = .ok (.iload_n 1, 1) := by decide +kernel
theorem dX7_removeNote_1 : decode cX7_removeNote 1 = .ok (.invokestatic 125, 3) := by decide +kernel
theorem dX7_removeNote_4 : decode cX7_removeNote 4 = .ok (.aload_n 0, 1) := by decide +kernel
theorem dX7_removeNote_5 : decode cX7_removeNote 5 = .ok (.getfield 18, 3) := by decide +kernel
theorem dX7_removeNote_8 : decode cX7_removeNote 8 = .ok (.iload_n 1, 1) := by decide +kernel
theorem dX7_removeNote_9 : decode cX7_removeNote 9 = .ok (.aaload, 1) := by decide +kernel
theorem dX7_removeNote_10 : decode cX7_removeNote 10 = .ok (.ifnonnull 13, 3) := by decide +kernel
theorem dX7_removeNote_13 : decode cX7_removeNote 13 = .ok (.new 86, 3) := by decide +kernel
theorem dX7_removeNote_16 : decode cX7_removeNote 16 = .ok (.dup, 1) := by decide +kernel
theorem dX7_removeNote_17 : decode cX7_removeNote 17 = .ok (.ldc 140, 2) := by decide +kernel
theorem dX7_removeNote_19 : decode cX7_removeNote 19 = .ok (.invokespecial 90, 3) := by decide +kernel
theorem dX7_removeNote_22 : decode cX7_removeNote 22 = .ok (.athrow, 1) := by decide +kernel
theorem dX7_removeNote_23 : decode cX7_removeNote 23 = .ok (.aload_n 0, 1) := by decide +kernel
theorem dX7_removeNote_24 : decode cX7_removeNote 24 = .ok (.iload_n 1, 1) := by decide +kernel
theorem dX7_removeNote_25 : decode cX7_removeNote 25 = .ok (.invokevirtual 132, 3) := by decide +kernel
theorem dX7_removeNote_28 : decode cX7_removeNote 28 = .ok (.istore_n 2, 1) := by decide +kernel
theorem dX7_removeNote_29 : decode cX7_removeNote 29 = .ok (.aload_n 0, 1) := by decide +kernel
theorem dX7_removeNote_30 : decode cX7_removeNote 30 = .ok (.getfield 18, 3) := by decide +kernel
theorem dX7_removeNote_33 : decode cX7_removeNote 33 = .ok (.iload_n 1, 1) := by decide +kernel
theorem dX7_removeNote_34 : decode cX7_removeNote 34 = .ok (.aconst_null, 1) := by decide +kernel
theorem dX7_removeNote_35 : decode cX7_removeNote 35 = .ok (.aastore, 1) := by decide +kernel
theorem dX7_removeNote_36 : decode cX7_removeNote 36 = .ok (.aload_n 0, 1) := by decide +kernel
theorem dX7_removeNote_37 : decode cX7_removeNote 37 = .ok (.iconst 1, 1) := by decide +kernel
theorem dX7_removeNote_38 : decode cX7_removeNote 38 = .ok (.putfield 71, 3) := by decide +kernel
theorem dX7_removeNote_41 : decode cX7_removeNote 41 = .ok (.iload_n 2, 1) := by decide +kernel
theorem dX7_removeNote_42 : decode cX7_removeNote 42 = .ok (.ireturn, 1) := by decide +kernel
theorem dX7_setSize_0 : decode cX7_setSize 0 = .ok (.iload_n 1, 1) := by decide +kernel
theorem dX7_setSize_1 : decode cX7_setSize 1 = .ok (.iload_n 2, 1) := by decide +kernel
theorem dX7_setSize_2 : decode cX7_setSize 2 = .ok (.invokestatic 142, 3) := by decide +kernel
theorem dX7_setSize_5 : decode cX7_setSize 5 = .ok (.aload_n 0, 1) := by decide +kernel
theorem dX7_setSize_6 : decode cX7_setSize 6 = .ok (.iload_n 1, 1) := by decide +kernel
theorem dX7_setSize_7 : decode cX7_setSize 7 = .ok (.putfield 26, 3) := by decide +kernel
theorem dX7_setSize_10 : decode cX7_setSize 10 = .ok (.aload_n 0, 1) := by decide +kernel
theorem dX7_setSize_11 : decode cX7_setSize 11 = .ok (.iload_n 2, 1) := by decide +kernel
theorem dX7_setSize_12 : decode cX7_setSize 12 = .ok (.putfield 30, 3) := by decide +kernel
theorem dX7_setSize_15 : decode cX7_setSize 15 = .ok (.aload_n 0, 1) := by decide +kernel
theorem dX7_setSize_16 : decode cX7_setSize 16 = .ok (.iconst 1, 1) := by decide +kernel
theorem dX7_setSize_17 : decode cX7_setSize 17 = .ok (.putfield 71, 3) := by decide +kernel
theorem dX7_setSize_20 : decode cX7_setSize 20 = .ok (.aload_n 0, 1) := by decide +kernel
theorem dX7_setSize_21 : decode cX7_setSize 21 = .ok (.invokevirtual 146, 3) := by decide +kernel
theorem dX7_setSize_24 : decode cX7_setSize 24 = .ok (.aload_n 0, 1) := by decide +kernel
theorem dX7_setSize_25 : decode cX7_setSize 25 = .ok (.getfield 64, 3) := by decide +kernel
theorem dX7_setSize_28 : decode cX7_setSize 28 = .ok (.invokevirtual 149, 3) := by decide +kernel
theorem dX7_setSize_31 : decode cX7_setSize 31 = .ok (.ireturn, 1) := by decide +kernel
theorem dX7_setStyle_0 : decode cX7_setStyle 0 = .ok (.iload_n 1, 1) := by decide +kernel
theorem dX7_setStyle_1 : decode cX7_setStyle 1 = .ok (.ifCond .lt 20, 3) := by decide +kernel
theorem dX7_setStyle_4 : decode cX7_setStyle 4 = .ok (.iload_n 1, 1) := by decide +kernel
theorem dX7_setStyle_5 : decode cX7_setStyle 5 = .ok (.getstatic 152, 3) := by decide +kernel
theorem dX7_setStyle_8 : decode cX7_setStyle 8 = .ok (.arraylength, 1) := by decide +kernel
theorem dX7_setStyle_9 : decode cX7_setStyle 9 = .ok (.if_icmp .ge 12, 3) := by decide +kernel
theorem dX7_setStyle_12 : decode cX7_setStyle 12 = .ok (.iload_n 1, 1) := by decide +kernel
theorem dX7_setStyle_13 : decode cX7_setStyle 13 = .ok (.aload_n 0, 1) := by decide +kernel
theorem dX7_setStyle_14 : decode cX7_setStyle 14 = .ok (.getfield 22, 3) := by decide +kernel
theorem dX7_setStyle_17 : decode cX7_setStyle 17 = .ok (.arraylength, 1) := by decide +kernel
theorem dX7_setStyle_18 : decode cX7_setStyle 18 = .ok (.if_icmp .lt 13, 3) := by decide +kernel
theorem dX7_setStyle_21 : decode cX7_setStyle 21 = .ok (.new 75, 3) := by decide +kernel
theorem dX7_setStyle_24 : decode cX7_setStyle 24 = .ok (.dup, 1) := by decide +kernel
theorem dX7_setStyle_25 : decode cX7_setStyle 25 = .ok (.ldc 155, 2) := by decide +kernel
theorem dX7_setStyle_27 : decode cX7_setStyle 27 = .ok (.invokespecial 79, 3) := by decide +kernel
theorem dX7_setStyle_30 : decode cX7_setStyle 30 = .ok (.athrow, 1) := by decide +kernel
theorem dX7_setStyle_31 : decode cX7_setStyle 31 = .ok (.iload_n 2, 1) := by decide +kernel
theorem dX7_setStyle_32 : decode cX7_setStyle 32 = .ok (.ifCond .lt 12, 3) := by decide +kernel
theorem dX7_setStyle_35 : decode cX7_setStyle 35 = .ok (.iload_n 2, 1) := by decide +kernel
theorem dX7_setStyle_36 : decode cX7_setStyle 36 = .ok (.getstatic 152, 3) := by decide +kernel
theorem dX7_setStyle_39 : decode cX7_setStyle 39 = .ok (.iload_n 1, 1) := by decide +kernel
theorem dX7_setStyle_40 : decode cX7_setStyle 40 = .ok (.iaload, 1) := by decide +kernel
theorem dX7_setStyle_41 : decode cX7_setStyle 41 = .ok (.if_icmp .le 13, 3) := by decide +kernel
theorem dX7_setStyle_44 : decode cX7_setStyle 44 = .ok (.new 75, 3) := by decide +kernel
theorem dX7_setStyle_47 : decode cX7_setStyle 47 = .ok (.dup, 1) := by decide +kernel
theorem dX7_setStyle_48 : decode cX7_setStyle 48 = .ok (.ldc 157, 2) := by decide +kernel
theorem dX7_setStyle_50 : decode cX7_setStyle 50 = .ok (.invokespecial 79, 3) := by decide +kernel
theorem dX7_setStyle_53 : decode cX7_setStyle 53 = .ok (.athrow, 1) := by decide +kernel
theorem dX7_setStyle_54 : decode cX7_setStyle 54 = .ok (.aload_n 0, 1) := by decide +kernel
theorem dX7_setStyle_55 : decode cX7_setStyle 55 = .ok (.getfield 22, 3) := by decide +kernel
theorem dX7_setStyle_58 : decode cX7_setStyle 58 = .ok (.iload_n 1, 1) := by decide +kernel
theorem dX7_setStyle_59 : decode cX7_setStyle 59 = .ok (.iaload, 1) := by decide +kernel
theorem dX7_setStyle_60 : decode cX7_setStyle 60 = .ok (.istore_n 3, 1) := by decide +kernel
theorem dX7_setStyle_61 : decode cX7_setStyle 61 = .ok (.aload_n 0, 1) := by decide +kernel
theorem dX7_setStyle_62 : decode cX7_setStyle 62 = .ok (.getfield 22, 3) := by decide +kernel
theorem dX7_setStyle_65 : decode cX7_setStyle 65 = .ok (.iload_n 1, 1) := by decide +kernel
theorem dX7_setStyle_66 : decode cX7_setStyle 66 = .ok (.iload_n 2, 1) := by decide +kernel
theorem dX7_setStyle_67 : decode cX7_setStyle 67 = .ok (.iastore, 1) := by decide +kernel
theorem dX7_setStyle_68 : decode cX7_setStyle 68 = .ok (.aload_n 0, 1) := by decide +kernel
theorem dX7_setStyle_69 : decode cX7_setStyle 69 = .ok (.iconst 1, 1) := by decide +kernel
theorem dX7_setStyle_70 : decode cX7_setStyle 70 = .ok (.putfield 71, 3) := by decide +kernel
theorem dX7_setStyle_73 : decode cX7_setStyle 73 = .ok (.iload_n 3, 1) := by decide +kernel
theorem dX7_setStyle_74 : decode cX7_setStyle 74 = .ok (.ireturn, 1) := by decide +kernel
theorem dX7_page_0 : decode cX7_page 0 = .ok (.aload_n 0, 1) := by decide +kernel
theorem dX7_page_1 : decode cX7_page 1 = .ok (.invokevirtual 146, 3) := by decide +kernel
theorem dX7_page_4 : decode cX7_page 4 = .ok (.aload_n 0, 1) := by decide +kernel
theorem dX7_page_5 : decode cX7_page 5 = .ok (.iload_n 1, 1) := by decide +kernel
theorem dX7_page_6 : decode cX7_page 6 = .ok (.invokevirtual 159, 3) := by decide +kernel
theorem dX7_page_9 : decode cX7_page 9 = .ok (.iload_n 2, 1) := by decide +kernel
theorem dX7_page_10 : decode cX7_page 10 = .ok (.bipush 7, 2) := by decide +kernel
theorem dX7_page_12 : decode cX7_page 12 = .ok (.invokestatic 162, 3) := by decide +kernel
theorem dX7_page_15 : decode cX7_page 15 = .ok (.aload_n 0, 1) := by decide +kernel
theorem dX7_page_16 : decode cX7_page 16 = .ok (.iload_n 1, 1) := by decide +kernel
theorem dX7_page_17 : decode cX7_page 17 = .ok (.iload_n 2, 1) := by decide +kernel
theorem dX7_page_18 : decode cX7_page 18 = .ok (.invokevirtual 165, 3) := by decide +kernel
theorem dX7_page_21 : decode cX7_page 21 = .ok (.ireturn, 1) := by decide +kernel
theorem dX7_line_0 : decode cX7_line 0 = .ok (.aload_n 0, 1) := by decide +kernel
theorem dX7_line_1 : decode cX7_line 1 = .ok (.invokevirtual 146, 3) := by decide +kernel
theorem dX7_line_4 : decode cX7_line 4 = .ok (.aload_n 0, 1) := by decide +kernel
theorem dX7_line_5 : decode cX7_line 5 = .ok (.iload_n 1, 1) := by decide +kernel
theorem dX7_line_6 : decode cX7_line 6 = .ok (.invokevirtual 169, 3) := by decide +kernel
theorem dX7_line_9 : decode cX7_line 9 = .ok (.iload_n 2, 1) := by decide +kernel
theorem dX7_line_10 : decode cX7_line 10 = .ok (.bipush 6, 2) := by decide +kernel
theorem dX7_line_12 : decode cX7_line 12 = .ok (.invokestatic 162, 3) := by decide +kernel
theorem dX7_line_15 : decode cX7_line 15 = .ok (.aload_n 0, 1) := by decide +kernel
theorem dX7_line_16 : decode cX7_line 16 = .ok (.iload_n 1, 1) := by decide +kernel
theorem dX7_line_17 : decode cX7_line 17 = .ok (.iload_n 2, 1) := by decide +kernel
theorem dX7_line_18 : decode cX7_line 18 = .ok (.invokevirtual 172, 3) := by decide +kernel
theorem dX7_line_21 : decode cX7_line 21 = .ok (.ireturn, 1) := by decide +kernel
theorem dX7_shown_0 : decode cX7_shown 0 = .ok (.aload_n 0, 1) := by decide +kernel
theorem dX7_shown_1 : decode cX7_shown 1 = .ok (.invokevirtual 146, 3) := by decide +kernel
theorem dX7_shown_4 : decode cX7_shown 4 = .ok (.aload_n 0, 1) := by decide +kernel
theorem dX7_shown_5 : decode cX7_shown 5 = .ok (.iload_n 1, 1) := by decide +kernel
theorem dX7_shown_6 : decode cX7_shown 6 = .ok (.invokevirtual 159, 3) := by decide +kernel
theorem dX7_shown_9 : decode cX7_shown 9 = .ok (.iload_n 2, 1) := by decide +kernel
theorem dX7_shown_10 : decode cX7_shown 10 = .ok (.ifCond .lt 23, 3) := by decide +kernel
theorem dX7_shown_13 : decode cX7_shown 13 = .ok (.iload_n 2, 1) := by decide +kernel
theorem dX7_shown_14 : decode cX7_shown 14 = .ok (.aload_n 0, 1) := by decide +kernel
theorem dX7_shown_15 : decode cX7_shown 15 = .ok (.getfield 30, 3) := by decide +kernel
theorem dX7_shown_18 : decode cX7_shown 18 = .ok (.if_icmp .ge 15, 3) := by decide +kernel
theorem dX7_shown_21 : decode cX7_shown 21 = .ok (.iload_n 3, 1) := by decide +kernel
theorem dX7_shown_22 : decode cX7_shown 22 = .ok (.ifCond .lt 11, 3) := by decide +kernel
theorem dX7_shown_25 : decode cX7_shown 25 = .ok (.iload_n 3, 1) := by decide +kernel
theorem dX7_shown_26 : decode cX7_shown 26 = .ok (.aload_n 0, 1) := by decide +kernel
theorem dX7_shown_27 : decode cX7_shown 27 = .ok (.getfield 26, 3) := by decide +kernel
theorem dX7_shown_30 : decode cX7_shown 30 = .ok (.if_icmp .lt 13, 3) := by decide +kernel
theorem dX7_shown_33 : decode cX7_shown 33 = .ok (.new 75, 3) := by decide +kernel
theorem dX7_shown_36 : decode cX7_shown 36 = .ok (.dup, 1) := by decide +kernel
theorem dX7_shown_37 : decode cX7_shown 37 = .ok (.ldc 175, 2) := by decide +kernel
theorem dX7_shown_39 : decode cX7_shown 39 = .ok (.invokespecial 79, 3) := by decide +kernel
theorem dX7_shown_42 : decode cX7_shown 42 = .ok (.athrow, 1) := by decide +kernel
theorem dX7_shown_43 : decode cX7_shown 43 = .ok (.aload_n 0, 1) := by decide +kernel
theorem dX7_shown_44 : decode cX7_shown 44 = .ok (.getfield 64, 3) := by decide +kernel
theorem dX7_shown_47 : decode cX7_shown 47 = .ok (.iload_n 1, 1) := by decide +kernel
theorem dX7_shown_48 : decode cX7_shown 48 = .ok (.iload_n 2, 1) := by decide +kernel
theorem dX7_shown_49 : decode cX7_shown 49 = .ok (.iload_n 3, 1) := by decide +kernel
theorem dX7_shown_50 : decode cX7_shown 50 = .ok (.invokevirtual 177, 3) := by decide +kernel
theorem dX7_shown_53 : decode cX7_shown 53 = .ok (.ireturn, 1) := by decide +kernel
theorem dX7_noteOn_0 : decode cX7_noteOn 0 = .ok (.aload_n 0, 1) := by decide +kernel
theorem dX7_noteOn_1 : decode cX7_noteOn 1 = .ok (.invokevirtual 146, 3) := by decide +kernel
theorem dX7_noteOn_4 : decode cX7_noteOn 4 = .ok (.aload_n 0, 1) := by decide +kernel
theorem dX7_noteOn_5 : decode cX7_noteOn 5 = .ok (.iload_n 1, 1) := by decide +kernel
theorem dX7_noteOn_6 : decode cX7_noteOn 6 = .ok (.invokevirtual 159, 3) := by decide +kernel
theorem dX7_noteOn_9 : decode cX7_noteOn 9 = .ok (.iload_n 2, 1) := by decide +kernel
theorem dX7_noteOn_10 : decode cX7_noteOn 10 = .ok (.ifCond .ge 7, 3) := by decide +kernel
theorem dX7_noteOn_13 : decode cX7_noteOn 13 = .ok (.iconst (-1), 1) := by decide +kernel
theorem dX7_noteOn_14 : decode cX7_noteOn 14 = .ok (.goto 12, 3) := by decide +kernel
theorem dX7_noteOn_17 : decode cX7_noteOn 17 = .ok (.aload_n 0, 1) := by decide +kernel
theorem dX7_noteOn_18 : decode cX7_noteOn 18 = .ok (.getfield 64, 3) := by decide +kernel
theorem dX7_noteOn_21 : decode cX7_noteOn 21 = .ok (.iload_n 1, 1) := by decide +kernel
theorem dX7_noteOn_22 : decode cX7_noteOn 22 = .ok (.iload_n 2, 1) := by decide +kernel
theorem dX7_noteOn_23 : decode cX7_noteOn 23 = .ok (.invokevirtual 181, 3) := by decide +kernel
theorem dX7_noteOn_26 : decode cX7_noteOn 26 = .ok (.istore_n 3, 1) := by decide +kernel
theorem dX7_noteOn_27 : decode cX7_noteOn 27 = .ok (.iload_n 3, 1) := by decide +kernel
theorem dX7_noteOn_28 : decode cX7_noteOn 28 = .ok (.iconst (-1), 1) := by decide +kernel
theorem dX7_noteOn_29 : decode cX7_noteOn 29 = .ok (.if_icmp .ne 13, 3) := by decide +kernel
theorem dX7_noteOn_32 : decode cX7_noteOn 32 = .ok (.new 184, 3) := by decide +kernel
theorem dX7_noteOn_35 : decode cX7_noteOn 35 = .ok (.dup, 1) := by decide +kernel
theorem dX7_noteOn_36 : decode cX7_noteOn 36 = .ok (.ldc 186, 2) := by decide +kernel
theorem dX7_noteOn_38 : decode cX7_noteOn 38 = .ok (.invokespecial 188, 3) := by decide +kernel
theorem dX7_noteOn_41 : decode cX7_noteOn 41 = .ok (.athrow, 1) := by decide +kernel
theorem dX7_noteOn_42 : decode cX7_noteOn 42 = .ok (.iload_n 3, 1) := by decide +kernel
theorem dX7_noteOn_43 : decode cX7_noteOn 43 = .ok (.ireturn, 1) := by decide +kernel
theorem dX7_pageOf_0 : decode cX7_pageOf 0 = .ok (.aload_n 0, 1) := by decide +kernel
theorem dX7_pageOf_1 : decode cX7_pageOf 1 = .ok (.iload_n 1, 1) := by decide +kernel
theorem dX7_pageOf_2 : decode cX7_pageOf 2 = .ok (.iload_n 2, 1) := by decide +kernel
theorem dX7_pageOf_3 : decode cX7_pageOf 3 = .ok (.invokevirtual 189, 3) := by decide +kernel
theorem dX7_pageOf_6 : decode cX7_pageOf 6 = .ok (.aload_n 0, 1) := by decide +kernel
theorem dX7_pageOf_7 : decode cX7_pageOf 7 = .ok (.invokevirtual 146, 3) := by decide +kernel
theorem dX7_pageOf_10 : decode cX7_pageOf 10 = .ok (.aload_n 0, 1) := by decide +kernel
theorem dX7_pageOf_11 : decode cX7_pageOf 11 = .ok (.getfield 64, 3) := by decide +kernel
theorem dX7_pageOf_14 : decode cX7_pageOf 14 = .ok (.aload_n 0, 1) := by decide +kernel
theorem dX7_pageOf_15 : decode cX7_pageOf 15 = .ok (.getfield 41, 3) := by decide +kernel
theorem dX7_pageOf_18 : decode cX7_pageOf 18 = .ok (.iload_n 1, 1) := by decide +kernel
theorem dX7_pageOf_19 : decode cX7_pageOf 19 = .ok (.invokevirtual 192, 3) := by decide +kernel
theorem dX7_pageOf_22 : decode cX7_pageOf 22 = .ok (.iload_n 2, 1) := by decide +kernel
theorem dX7_pageOf_23 : decode cX7_pageOf 23 = .ok (.iadd, 1) := by decide +kernel
theorem dX7_pageOf_24 : decode cX7_pageOf 24 = .ok (.invokevirtual 195, 3) := by decide +kernel
theorem dX7_pageOf_27 : decode cX7_pageOf 27 = .ok (.ireturn, 1) := by decide +kernel
theorem dX7_floating_0 : decode cX7_floating 0 = .ok (.aload_n 0, 1) := by decide +kernel
theorem dX7_floating_1 : decode cX7_floating 1 = .ok (.invokevirtual 146, 3) := by decide +kernel
theorem dX7_floating_4 : decode cX7_floating 4 = .ok (.aload_n 0, 1) := by decide +kernel
theorem dX7_floating_5 : decode cX7_floating 5 = .ok (.iload_n 1, 1) := by decide +kernel
theorem dX7_floating_6 : decode cX7_floating 6 = .ok (.invokevirtual 169, 3) := by decide +kernel
theorem dX7_floating_9 : decode cX7_floating 9 = .ok (.iload_n 2, 1) := by decide +kernel
theorem dX7_floating_10 : decode cX7_floating 10 = .ok (.ifCond .eq 14, 3) := by decide +kernel
theorem dX7_floating_13 : decode cX7_floating 13 = .ok (.aload_n 0, 1) := by decide +kernel
theorem dX7_floating_14 : decode cX7_floating 14 = .ok (.getfield 64, 3) := by decide +kernel
theorem dX7_floating_17 : decode cX7_floating 17 = .ok (.iload_n 1, 1) := by decide +kernel
theorem dX7_floating_18 : decode cX7_floating 18 = .ok (.invokevirtual 198, 3) := by decide +kernel
theorem dX7_floating_21 : decode cX7_floating 21 = .ok (.goto 11, 3) := by decide +kernel
theorem dX7_floating_24 : decode cX7_floating 24 = .ok (.aload_n 0, 1) := by decide +kernel
theorem dX7_floating_25 : decode cX7_floating 25 = .ok (.getfield 64, 3) := by decide +kernel
theorem dX7_floating_28 : decode cX7_floating 28 = .ok (.iload_n 1, 1) := by decide +kernel
theorem dX7_floating_29 : decode cX7_floating 29 = .ok (.invokevirtual 201, 3) := by decide +kernel
theorem dX7_floating_32 : decode cX7_floating 32 = .ok (.ireturn, 1) := by decide +kernel
theorem dX7_go_0 : decode cX7_go 0 = .ok (.aload_n 0, 1) := by decide +kernel
theorem dX7_go_1 : decode cX7_go 1 = .ok (.iload_n 1, 1) := by decide +kernel
theorem dX7_go_2 : decode cX7_go 2 = .ok (.iload_n 2, 1) := by decide +kernel
theorem dX7_go_3 : decode cX7_go 3 = .ok (.invokevirtual 189, 3) := by decide +kernel
theorem dX7_go_6 : decode cX7_go 6 = .ok (.aload_n 0, 1) := by decide +kernel
theorem dX7_go_7 : decode cX7_go 7 = .ok (.invokevirtual 146, 3) := by decide +kernel
theorem dX7_go_10 : decode cX7_go 10 = .ok (.aload_n 0, 1) := by decide +kernel
theorem dX7_go_11 : decode cX7_go 11 = .ok (.getfield 48, 3) := by decide +kernel
theorem dX7_go_14 : decode cX7_go 14 = .ok (.aload_n 0, 1) := by decide +kernel
theorem dX7_go_15 : decode cX7_go 15 = .ok (.getfield 41, 3) := by decide +kernel
theorem dX7_go_18 : decode cX7_go 18 = .ok (.iload_n 1, 1) := by decide +kernel
theorem dX7_go_19 : decode cX7_go 19 = .ok (.invokevirtual 192, 3) := by decide +kernel
theorem dX7_go_22 : decode cX7_go 22 = .ok (.iload_n 2, 1) := by decide +kernel
theorem dX7_go_23 : decode cX7_go 23 = .ok (.iadd, 1) := by decide +kernel
theorem dX7_go_24 : decode cX7_go 24 = .ok (.invokevirtual 204, 3) := by decide +kernel
theorem dX7_go_27 : decode cX7_go 27 = .ok (.aload_n 0, 1) := by decide +kernel
theorem dX7_go_28 : decode cX7_go 28 = .ok (.invokevirtual 207, 3) := by decide +kernel
theorem dX7_go_31 : decode cX7_go 31 = .ok (.ireturn, 1) := by decide +kernel
theorem dX7_turn_0 : decode cX7_turn 0 = .ok (.aload_n 0, 1) := by decide +kernel
theorem dX7_turn_1 : decode cX7_turn 1 = .ok (.invokevirtual 146, 3) := by decide +kernel
theorem dX7_turn_4 : decode cX7_turn 4 = .ok (.aload_n 0, 1) := by decide +kernel
theorem dX7_turn_5 : decode cX7_turn 5 = .ok (.invokevirtual 207, 3) := by decide +kernel
theorem dX7_turn_8 : decode cX7_turn 8 = .ok (.iload_n 1, 1) := by decide +kernel
theorem dX7_turn_9 : decode cX7_turn 9 = .ok (.ifCond .eq 7, 3) := by decide +kernel
theorem dX7_turn_12 : decode cX7_turn 12 = .ok (.iconst 1, 1) := by decide +kernel
theorem dX7_turn_13 : decode cX7_turn 13 = .ok (.goto 4, 3) := by decide +kernel
theorem dX7_turn_16 : decode cX7_turn 16 = .ok (.iconst (-1), 1) := by decide +kernel
theorem dX7_turn_17 : decode cX7_turn 17 = .ok (.iadd, 1) := by decide +kernel
theorem dX7_turn_18 : decode cX7_turn 18 = .ok (.istore_n 2, 1) := by decide +kernel
theorem dX7_turn_19 : decode cX7_turn 19 = .ok (.iload_n 2, 1) := by decide +kernel
theorem dX7_turn_20 : decode cX7_turn 20 = .ok (.ifCond .lt 14, 3) := by decide +kernel
theorem dX7_turn_23 : decode cX7_turn 23 = .ok (.iload_n 2, 1) := by decide +kernel
theorem dX7_turn_24 : decode cX7_turn 24 = .ok (.aload_n 0, 1) := by decide +kernel
theorem dX7_turn_25 : decode cX7_turn 25 = .ok (.getfield 64, 3) := by decide +kernel
theorem dX7_turn_28 : decode cX7_turn 28 = .ok (.invokevirtual 149, 3) := by decide +kernel
theorem dX7_turn_31 : decode cX7_turn 31 = .ok (.if_icmp .lt 5, 3) := by decide +kernel
theorem dX7_turn_34 : decode cX7_turn 34 = .ok (.iconst (-1), 1) := by decide +kernel
theorem dX7_turn_35 : decode cX7_turn 35 = .ok (.ireturn, 1) := by decide +kernel
theorem dX7_turn_36 : decode cX7_turn 36 = .ok (.aload_n 0, 1) := by decide +kernel
theorem dX7_turn_37 : decode cX7_turn 37 = .ok (.getfield 48, 3) := by decide +kernel
theorem dX7_turn_40 : decode cX7_turn 40 = .ok (.aload_n 0, 1) := by decide +kernel
theorem dX7_turn_41 : decode cX7_turn 41 = .ok (.getfield 64, 3) := by decide +kernel
theorem dX7_turn_44 : decode cX7_turn 44 = .ok (.iload_n 2, 1) := by decide +kernel
theorem dX7_turn_45 : decode cX7_turn 45 = .ok (.invokevirtual 210, 3) := by decide +kernel
theorem dX7_turn_48 : decode cX7_turn 48 = .ok (.invokevirtual 213, 3) := by decide +kernel
theorem dX7_turn_51 : decode cX7_turn 51 = .ok (.iload_n 2, 1) := by decide +kernel
theorem dX7_turn_52 : decode cX7_turn 52 = .ok (.ireturn, 1) := by decide +kernel
theorem dX7_back_0 : decode cX7_back 0 = .ok (.aload_n 0, 1) := by decide +kernel
theorem dX7_back_1 : decode cX7_back 1 = .ok (.getfield 48, 3) := by decide +kernel
theorem dX7_back_4 : decode cX7_back 4 = .ok (.invokevirtual 216, 3) := by decide +kernel
theorem dX7_back_7 : decode cX7_back 7 = .ok (.ifCond .ne 13, 3) := by decide +kernel
theorem dX7_back_10 : decode cX7_back 10 = .ok (.new 86, 3) := by decide +kernel
theorem dX7_back_13 : decode cX7_back 13 = .ok (.dup, 1) := by decide +kernel
theorem dX7_back_14 : decode cX7_back 14 = .ok (.ldc 219, 2) := by decide +kernel
theorem dX7_back_16 : decode cX7_back 16 = .ok (.invokespecial 90, 3) := by decide +kernel
theorem dX7_back_19 : decode cX7_back 19 = .ok (.athrow, 1) := by decide +kernel
theorem dX7_back_20 : decode cX7_back 20 = .ok (.aload_n 0, 1) := by decide +kernel
theorem dX7_back_21 : decode cX7_back 21 = .ok (.invokevirtual 146, 3) := by decide +kernel
theorem dX7_back_24 : decode cX7_back 24 = .ok (.aload_n 0, 1) := by decide +kernel
theorem dX7_back_25 : decode cX7_back 25 = .ok (.getfield 48, 3) := by decide +kernel
theorem dX7_back_28 : decode cX7_back 28 = .ok (.invokevirtual 221, 3) := by decide +kernel
theorem dX7_back_31 : decode cX7_back 31 = .ok (.aload_n 0, 1) := by decide +kernel
theorem dX7_back_32 : decode cX7_back 32 = .ok (.invokevirtual 207, 3) := by decide +kernel
theorem dX7_back_35 : decode cX7_back 35 = .ok (.ireturn, 1) := by decide +kernel
theorem dX7_find_0 : decode cX7_find 0 = .ok (.aload_n 0, 1) := by decide +kernel
theorem dX7_find_1 : decode cX7_find 1 = .ok (.invokevirtual 129, 3) := by decide +kernel
theorem dX7_find_4 : decode cX7_find 4 = .ok (.iload_n 1, 1) := by decide +kernel
theorem dX7_find_5 : decode cX7_find 5 = .ok (.ifCond .eq 10, 3) := by decide +kernel
theorem dX7_find_8 : decode cX7_find 8 = .ok (.aload_n 0, 1) := by decide +kernel
theorem dX7_find_9 : decode cX7_find 9 = .ok (.invokevirtual 224, 3) := by decide +kernel
theorem dX7_find_12 : decode cX7_find 12 = .ok (.goto 7, 3) := by decide +kernel
theorem dX7_find_15 : decode cX7_find 15 = .ok (.aload_n 0, 1) := by decide +kernel
theorem dX7_find_16 : decode cX7_find 16 = .ok (.invokevirtual 227, 3) := by decide +kernel
theorem dX7_find_19 : decode cX7_find 19 = .ok (.istore_n 2, 1) := by decide +kernel
theorem dX7_find_20 : decode cX7_find 20 = .ok (.iload_n 2, 1) := by decide +kernel
theorem dX7_find_21 : decode cX7_find 21 = .ok (.iconst (-1), 1) := by decide +kernel
theorem dX7_find_22 : decode cX7_find 22 = .ok (.if_icmp .ne 7, 3) := by decide +kernel
theorem dX7_find_25 : decode cX7_find 25 = .ok (.iconst (-1), 1) := by decide +kernel
theorem dX7_find_26 : decode cX7_find 26 = .ok (.goto 21, 3) := by decide +kernel
theorem dX7_find_29 : decode cX7_find 29 = .ok (.aload_n 0, 1) := by decide +kernel
theorem dX7_find_30 : decode cX7_find 30 = .ok (.getfield 41, 3) := by decide +kernel
theorem dX7_find_33 : decode cX7_find 33 = .ok (.aload_n 0, 1) := by decide +kernel
theorem dX7_find_34 : decode cX7_find 34 = .ok (.getfield 41, 3) := by decide +kernel
theorem dX7_find_37 : decode cX7_find 37 = .ok (.invokevirtual 230, 3) := by decide +kernel
theorem dX7_find_40 : decode cX7_find 40 = .ok (.iload_n 2, 1) := by decide +kernel
theorem dX7_find_41 : decode cX7_find 41 = .ok (.invokevirtual 234, 3) := by decide +kernel
theorem dX7_find_44 : decode cX7_find 44 = .ok (.invokevirtual 235, 3) := by decide +kernel
theorem dX7_find_47 : decode cX7_find 47 = .ok (.ireturn, 1) := by decide +kernel
theorem dX7_count_0 : decode cX7_count 0 = .ok (.iload_n 1, 1) := by decide +kernel
theorem dX7_count_1 : decode cX7_count 1 = .ok (.bipush 12, 2) := by decide +kernel
theorem dX7_count_3 : decode cX7_count 3 = .ok (.invokestatic 162, 3) := by decide +kernel
theorem dX7_count_6 : decode cX7_count 6 = .ok (.aload_n 0, 1) := by decide +kernel
theorem dX7_count_7 : decode cX7_count 7 = .ok (.invokevirtual 146, 3) := by decide +kernel
theorem dX7_count_10 : decode cX7_count 10 = .ok (.aload_n 0, 1) := by decide +kernel
theorem dX7_count_11 : decode cX7_count 11 = .ok (.iload_n 1, 1) := by decide +kernel
theorem dX7_count_12 : decode cX7_count 12 = .ok (.invokevirtual 238, 3) := by decide +kernel
theorem dX7_count_15 : decode cX7_count 15 = .ok (.ireturn, 1) := by decide +kernel
theorem dX7_paragraph_0 : decode cX7_paragraph 0 = .ok (.aload_n 0, 1) := by decide +kernel
theorem dX7_paragraph_1 : decode cX7_paragraph 1 = .ok (.iload_n 1, 1) := by decide +kernel
theorem dX7_paragraph_2 : decode cX7_paragraph 2 = .ok (.invokevirtual 241, 3) := by decide +kernel
theorem dX7_paragraph_5 : decode cX7_paragraph 5 = .ok (.iload_n 2, 1) := by decide +kernel
theorem dX7_paragraph_6 : decode cX7_paragraph 6 = .ok (.iconst 5, 1) := by decide +kernel
theorem dX7_paragraph_7 : decode cX7_paragraph 7 = .ok (.invokestatic 162, 3) := by decide +kernel
theorem dX7_paragraph_10 : decode cX7_paragraph 10 = .ok (.aload_n 0, 1) := by decide +kernel
theorem dX7_paragraph_11 : decode cX7_paragraph 11 = .ok (.invokevirtual 146, 3) := by decide +kernel
theorem dX7_paragraph_14 : decode cX7_paragraph 14 = .ok (.aload_n 0, 1) := by decide +kernel
theorem dX7_paragraph_15 : decode cX7_paragraph 15 = .ok (.iload_n 1, 1) := by decide +kernel
theorem dX7_paragraph_16 : decode cX7_paragraph 16 = .ok (.iload_n 2, 1) := by decide +kernel
theorem dX7_paragraph_17 : decode cX7_paragraph 17 = .ok (.invokevirtual 244, 3) := by decide +kernel
theorem dX7_paragraph_20 : decode cX7_paragraph 20 = .ok (.ireturn, 1) := by decide +kernel
theorem dX7_letter_0 : decode cX7_letter 0 = .ok (.aload_n 0, 1) := by decide +kernel
theorem dX7_letter_1 : decode cX7_letter 1 = .ok (.iload_n 1, 1) := by decide +kernel
theorem dX7_letter_2 : decode cX7_letter 2 = .ok (.iload_n 2, 1) := by decide +kernel
theorem dX7_letter_3 : decode cX7_letter 3 = .ok (.invokevirtual 189, 3) := by decide +kernel
theorem dX7_letter_6 : decode cX7_letter 6 = .ok (.aload_n 0, 1) := by decide +kernel
theorem dX7_letter_7 : decode cX7_letter 7 = .ok (.getfield 41, 3) := by decide +kernel
theorem dX7_letter_10 : decode cX7_letter 10 = .ok (.invokevirtual 230, 3) := by decide +kernel
theorem dX7_letter_13 : decode cX7_letter 13 = .ok (.aload_n 0, 1) := by decide +kernel
theorem dX7_letter_14 : decode cX7_letter 14 = .ok (.getfield 41, 3) := by decide +kernel
theorem dX7_letter_17 : decode cX7_letter 17 = .ok (.iload_n 1, 1) := by decide +kernel
theorem dX7_letter_18 : decode cX7_letter 18 = .ok (.invokevirtual 192, 3) := by decide +kernel
theorem dX7_letter_21 : decode cX7_letter 21 = .ok (.iload_n 2, 1) := by decide +kernel
theorem dX7_letter_22 : decode cX7_letter 22 = .ok (.iadd, 1) := by decide +kernel
theorem dX7_letter_23 : decode cX7_letter 23 = .ok (.invokevirtual 247, 3) := by decide +kernel
theorem dX7_letter_26 : decode cX7_letter 26 = .ok (.ireturn, 1) := by decide +kernel
theorem dX7_annotate_0 : decode cX7_annotate 0 = .ok (.aload_n 0, 1) := by decide +kernel
theorem dX7_annotate_1 : decode cX7_annotate 1 = .ok (.iload_n 1, 1) := by decide +kernel
theorem dX7_annotate_2 : decode cX7_annotate 2 = .ok (.iload_n 2, 1) := by decide +kernel
theorem dX7_annotate_3 : decode cX7_annotate 3 = .ok (.invokevirtual 189, 3) := by decide +kernel
theorem dX7_annotate_6 : decode cX7_annotate 6 = .ok (.iload_n 3, 1) := by decide +kernel
theorem dX7_annotate_7 : decode cX7_annotate 7 = .ok (.iload_n 2, 1) := by decide +kernel
theorem dX7_annotate_8 : decode cX7_annotate 8 = .ok (.if_icmp .le 15, 3) := by decide +kernel
theorem dX7_annotate_11 : decode cX7_annotate 11 = .ok (.iload_n 3, 1) := by decide +kernel
theorem dX7_annotate_12 : decode cX7_annotate 12 = .ok (.aload_n 0, 1) := by decide +kernel
theorem dX7_annotate_13 : decode cX7_annotate 13 = .ok (.getfield 41, 3) := by decide +kernel
theorem dX7_annotate_16 : decode cX7_annotate 16 = .ok (.iload_n 1, 1) := by decide +kernel
theorem dX7_annotate_17 : decode cX7_annotate 17 = .ok (.invokevirtual 249, 3) := by decide +kernel
theorem dX7_annotate_20 : decode cX7_annotate 20 = .ok (.if_icmp .le 13, 3) := by decide +kernel
theorem dX7_annotate_23 : decode cX7_annotate 23 = .ok (.new 184, 3) := by decide +kernel
theorem dX7_annotate_26 : decode cX7_annotate 26 = .ok (.dup, 1) := by decide +kernel
theorem dX7_annotate_27 : decode cX7_annotate 27 = .ok (.ldc 252, 2) := by decide +kernel
theorem dX7_annotate_29 : decode cX7_annotate 29 = .ok (.invokespecial 188, 3) := by decide +kernel
theorem dX7_annotate_32 : decode cX7_annotate 32 = .ok (.athrow, 1) := by decide +kernel
theorem dX7_annotate_33 : decode cX7_annotate 33 = .ok (.iload 4, 2) := by decide +kernel
theorem dX7_annotate_35 : decode cX7_annotate 35 = .ok (.ifCond .lt 10, 3) := by decide +kernel
theorem dX7_annotate_38 : decode cX7_annotate 38 = .ok (.iload 4, 2) := by decide +kernel
theorem dX7_annotate_40 : decode cX7_annotate 40 = .ok (.bipush 8, 2) := by decide +kernel
theorem dX7_annotate_42 : decode cX7_annotate 42 = .ok (.if_icmp .lt 13, 3) := by decide +kernel
theorem dX7_annotate_45 : decode cX7_annotate 45 = .ok (.new 75, 3) := by decide +kernel
theorem dX7_annotate_48 : decode cX7_annotate 48 = .ok (.dup, 1) := by decide +kernel
theorem dX7_annotate_49 : decode cX7_annotate 49 = .ok (.ldc 254, 2) := by decide +kernel
theorem dX7_annotate_51 : decode cX7_annotate 51 = .ok (.invokespecial 79, 3) := by decide +kernel
theorem dX7_annotate_54 : decode cX7_annotate 54 = .ok (.athrow, 1) := by decide +kernel
theorem dX7_annotate_55 : decode cX7_annotate 55 = .ok (.aload_n 0, 1) := by decide +kernel
theorem dX7_annotate_56 : decode cX7_annotate 56 = .ok (.getfield 48, 3) := by decide +kernel
theorem dX7_annotate_59 : decode cX7_annotate 59 = .ok (.invokevirtual 256, 3) := by decide +kernel
theorem dX7_annotate_62 : decode cX7_annotate 62 = .ok (.bipush 12, 2) := by decide +kernel
theorem dX7_annotate_64 : decode cX7_annotate 64 = .ok (.if_icmp .lt 14, 3) := by decide +kernel
theorem dX7_annotate_67 : decode cX7_annotate 67 = .ok (.new 86, 3) := by decide +kernel
theorem dX7_annotate_70 : decode cX7_annotate 70 = .ok (.dup, 1) := by decide +kernel
theorem dX7_annotate_71 : decode cX7_annotate 71 = .ok (.ldc_w 259, 3) := by decide +kernel
theorem dX7_annotate_74 : decode cX7_annotate 74 = .ok (.invokespecial 90, 3) := by decide +kernel
theorem dX7_annotate_77 : decode cX7_annotate 77 = .ok (.athrow, 1) := by decide +kernel
theorem dX7_annotate_78 : decode cX7_annotate 78 = .ok (.aload_n 0, 1) := by decide +kernel
theorem dX7_annotate_79 : decode cX7_annotate 79 = .ok (.getfield 41, 3) := by decide +kernel
theorem dX7_annotate_82 : decode cX7_annotate 82 = .ok (.iload_n 1, 1) := by decide +kernel
theorem dX7_annotate_83 : decode cX7_annotate 83 = .ok (.invokevirtual 192, 3) := by decide +kernel
theorem dX7_annotate_86 : decode cX7_annotate 86 = .ok (.istore 5, 2) := by decide +kernel
theorem dX7_annotate_88 : decode cX7_annotate 88 = .ok (.aload_n 0, 1) := by decide +kernel
theorem dX7_annotate_89 : decode cX7_annotate 89 = .ok (.getfield 48, 3) := by decide +kernel
theorem dX7_annotate_92 : decode cX7_annotate 92 = .ok (.iload 5, 2) := by decide +kernel
theorem dX7_annotate_94 : decode cX7_annotate 94 = .ok (.iload_n 2, 1) := by decide +kernel
theorem dX7_annotate_95 : decode cX7_annotate 95 = .ok (.iadd, 1) := by decide +kernel
theorem dX7_annotate_96 : decode cX7_annotate 96 = .ok (.iload 5, 2) := by decide +kernel
theorem dX7_annotate_98 : decode cX7_annotate 98 = .ok (.iload_n 3, 1) := by decide +kernel
theorem dX7_annotate_99 : decode cX7_annotate 99 = .ok (.iadd, 1) := by decide +kernel
theorem dX7_annotate_100 : decode cX7_annotate 100 = .ok (.iload 4, 2) := by decide +kernel
theorem dX7_annotate_102 : decode cX7_annotate 102 = .ok (.invokevirtual 261, 3) := by decide +kernel
theorem dX7_annotate_105 : decode cX7_annotate 105 = .ok (.ireturn, 1) := by decide +kernel
theorem dX7_annotation_0 : decode cX7_annotation 0 = .ok (.aload_n 0, 1) := by decide +kernel
theorem dX7_annotation_1 : decode cX7_annotation 1 = .ok (.iload_n 1, 1) := by decide +kernel
theorem dX7_annotation_2 : decode cX7_annotation 2 = .ok (.invokevirtual 264, 3) := by decide +kernel
theorem dX7_annotation_5 : decode cX7_annotation 5 = .ok (.iload_n 2, 1) := by decide +kernel
theorem dX7_annotation_6 : decode cX7_annotation 6 = .ok (.bipush 6, 2) := by decide +kernel
theorem dX7_annotation_8 : decode cX7_annotation 8 = .ok (.invokestatic 162, 3) := by decide +kernel
theorem dX7_annotation_11 : decode cX7_annotation 11 = .ok (.aload_n 0, 1) := by decide +kernel
theorem dX7_annotation_12 : decode cX7_annotation 12 = .ok (.invokevirtual 146, 3) := by decide +kernel
theorem dX7_annotation_15 : decode cX7_annotation 15 = .ok (.aload_n 0, 1) := by decide +kernel
theorem dX7_annotation_16 : decode cX7_annotation 16 = .ok (.iload_n 1, 1) := by decide +kernel
theorem dX7_annotation_17 : decode cX7_annotation 17 = .ok (.iload_n 2, 1) := by decide +kernel
theorem dX7_annotation_18 : decode cX7_annotation 18 = .ok (.invokevirtual 267, 3) := by decide +kernel
theorem dX7_annotation_21 : decode cX7_annotation 21 = .ok (.ireturn, 1) := by decide +kernel
theorem dX7_removeAnnotation_0 : decode cX7_removeAnnotation 0 = .ok (.aload_n 0, 1) := by decide +kernel
theorem dX7_removeAnnotation_1 : decode cX7_removeAnnotation 1 = .ok (.iload_n 1, 1) := by decide +kernel
theorem dX7_removeAnnotation_2 : decode cX7_removeAnnotation 2 = .ok (.invokevirtual 264, 3) := by decide +kernel
theorem dX7_removeAnnotation_5 : decode cX7_removeAnnotation 5 = .ok (.aload_n 0, 1) := by decide +kernel
theorem dX7_removeAnnotation_6 : decode cX7_removeAnnotation 6 = .ok (.getfield 48, 3) := by decide +kernel
theorem dX7_removeAnnotation_9 : decode cX7_removeAnnotation 9 = .ok (.iload_n 1, 1) := by decide +kernel
theorem dX7_removeAnnotation_10 : decode cX7_removeAnnotation 10 = .ok (.invokevirtual 270, 3) := by decide +kernel
theorem dX7_removeAnnotation_13 : decode cX7_removeAnnotation 13 = .ok (.aload_n 0, 1) := by decide +kernel
theorem dX7_removeAnnotation_14 : decode cX7_removeAnnotation 14 = .ok (.getfield 48, 3) := by decide +kernel
theorem dX7_removeAnnotation_17 : decode cX7_removeAnnotation 17 = .ok (.invokevirtual 256, 3) := by decide +kernel
theorem dX7_removeAnnotation_20 : decode cX7_removeAnnotation 20 = .ok (.ireturn, 1) := by decide +kernel
theorem dX7_insert_0 : decode cX7_insert 0 = .ok (.aload_n 0, 1) := by decide +kernel
theorem dX7_insert_1 : decode cX7_insert 1 = .ok (.iload_n 1, 1) := by decide +kernel
theorem dX7_insert_2 : decode cX7_insert 2 = .ok (.invokevirtual 241, 3) := by decide +kernel
theorem dX7_insert_5 : decode cX7_insert 5 = .ok (.aload_n 0, 1) := by decide +kernel
theorem dX7_insert_6 : decode cX7_insert 6 = .ok (.getfield 41, 3) := by decide +kernel
theorem dX7_insert_9 : decode cX7_insert 9 = .ok (.iload_n 1, 1) := by decide +kernel
theorem dX7_insert_10 : decode cX7_insert 10 = .ok (.invokevirtual 273, 3) := by decide +kernel
theorem dX7_insert_13 : decode cX7_insert 13 = .ok (.istore_n 3, 1) := by decide +kernel
theorem dX7_insert_14 : decode cX7_insert 14 = .ok (.iload_n 2, 1) := by decide +kernel
theorem dX7_insert_15 : decode cX7_insert 15 = .ok (.ifCond .lt 8, 3) := by decide +kernel
theorem dX7_insert_18 : decode cX7_insert 18 = .ok (.iload_n 2, 1) := by decide +kernel
theorem dX7_insert_19 : decode cX7_insert 19 = .ok (.iload_n 3, 1) := by decide +kernel
theorem dX7_insert_20 : decode cX7_insert 20 = .ok (.if_icmp .le 14, 3) := by decide +kernel
theorem dX7_insert_23 : decode cX7_insert 23 = .ok (.new 184, 3) := by decide +kernel
theorem dX7_insert_26 : decode cX7_insert 26 = .ok (.dup, 1) := by decide +kernel
theorem dX7_insert_27 : decode cX7_insert 27 = .ok (.ldc_w 276, 3) := by decide +kernel
theorem dX7_insert_30 : decode cX7_insert 30 = .ok (.invokespecial 188, 3) := by decide +kernel
theorem dX7_insert_33 : decode cX7_insert 33 = .ok (.athrow, 1) := by decide +kernel
theorem dX7_insert_34 : decode cX7_insert 34 = .ok (.aload_n 0, 1) := by decide +kernel
theorem dX7_insert_35 : decode cX7_insert 35 = .ok (.invokevirtual 129, 3) := by decide +kernel
theorem dX7_insert_38 : decode cX7_insert 38 = .ok (.iload_n 3, 1) := by decide +kernel
theorem dX7_insert_39 : decode cX7_insert 39 = .ok (.aload_n 0, 1) := by decide +kernel
theorem dX7_insert_40 : decode cX7_insert 40 = .ok (.getfield 12, 3) := by decide +kernel
theorem dX7_insert_43 : decode cX7_insert 43 = .ok (.invokevirtual 278, 3) := by decide +kernel
theorem dX7_insert_46 : decode cX7_insert 46 = .ok (.iadd, 1) := by decide +kernel
theorem dX7_insert_47 : decode cX7_insert 47 = .ok (.bipush 24, 2) := by decide +kernel
theorem dX7_insert_49 : decode cX7_insert 49 = .ok (.if_icmp .le 14, 3) := by decide +kernel
theorem dX7_insert_52 : decode cX7_insert 52 = .ok (.new 86, 3) := by decide +kernel
theorem dX7_insert_55 : decode cX7_insert 55 = .ok (.dup, 1) := by decide +kernel
theorem dX7_insert_56 : decode cX7_insert 56 = .ok (.ldc_w 281, 3) := by decide +kernel
theorem dX7_insert_59 : decode cX7_insert 59 = .ok (.invokespecial 90, 3) := by decide +kernel
theorem dX7_insert_62 : decode cX7_insert 62 = .ok (.athrow, 1) := by decide +kernel
theorem dX7_insert_63 : decode cX7_insert 63 = .ok (.aload_n 0, 1) := by decide +kernel
theorem dX7_insert_64 : decode cX7_insert 64 = .ok (.getfield 55, 3) := by decide +kernel
theorem dX7_insert_67 : decode cX7_insert 67 = .ok (.aload_n 0, 1) := by decide +kernel
theorem dX7_insert_68 : decode cX7_insert 68 = .ok (.getfield 41, 3) := by decide +kernel
theorem dX7_insert_71 : decode cX7_insert 71 = .ok (.aload_n 0, 1) := by decide +kernel
theorem dX7_insert_72 : decode cX7_insert 72 = .ok (.getfield 48, 3) := by decide +kernel
theorem dX7_insert_75 : decode cX7_insert 75 = .ok (.invokevirtual 283, 3) := by decide +kernel
theorem dX7_insert_78 : decode cX7_insert 78 = .ok (.iload_n 2, 1) := by decide +kernel
theorem dX7_insert_79 : decode cX7_insert 79 = .ok (.iload_n 3, 1) := by decide +kernel
theorem dX7_insert_80 : decode cX7_insert 80 = .ok (.if_icmp .ne 7, 3) := by decide +kernel
theorem dX7_insert_83 : decode cX7_insert 83 = .ok (.iconst 1, 1) := by decide +kernel
theorem dX7_insert_84 : decode cX7_insert 84 = .ok (.goto 4, 3) := by decide +kernel
theorem dX7_insert_87 : decode cX7_insert 87 = .ok (.iconst 0, 1) := by decide +kernel
theorem dX7_insert_88 : decode cX7_insert 88 = .ok (.istore 4, 2) := by decide +kernel
theorem dX7_insert_90 : decode cX7_insert 90 = .ok (.iload 4, 2) := by decide +kernel
theorem dX7_insert_92 : decode cX7_insert 92 = .ok (.ifCond .eq 14, 3) := by decide +kernel
theorem dX7_insert_95 : decode cX7_insert 95 = .ok (.aload_n 0, 1) := by decide +kernel
theorem dX7_insert_96 : decode cX7_insert 96 = .ok (.getfield 41, 3) := by decide +kernel
theorem dX7_insert_99 : decode cX7_insert 99 = .ok (.iload_n 1, 1) := by decide +kernel
theorem dX7_insert_100 : decode cX7_insert 100 = .ok (.invokevirtual 287, 3) := by decide +kernel
theorem dX7_insert_103 : decode cX7_insert 103 = .ok (.goto 12, 3) := by decide +kernel
theorem dX7_insert_106 : decode cX7_insert 106 = .ok (.aload_n 0, 1) := by decide +kernel
theorem dX7_insert_107 : decode cX7_insert 107 = .ok (.getfield 41, 3) := by decide +kernel
theorem dX7_insert_110 : decode cX7_insert 110 = .ok (.iload_n 1, 1) := by decide +kernel
theorem dX7_insert_111 : decode cX7_insert 111 = .ok (.iload_n 2, 1) := by decide +kernel
theorem dX7_insert_112 : decode cX7_insert 112 = .ok (.invokevirtual 290, 3) := by decide +kernel
theorem dX7_insert_115 : decode cX7_insert 115 = .ok (.istore 5, 2) := by decide +kernel
theorem dX7_insert_117 : decode cX7_insert 117 = .ok (.iload 4, 2) := by decide +kernel
theorem dX7_insert_119 : decode cX7_insert 119 = .ok (.ifCond .eq 15, 3) := by decide +kernel
theorem dX7_insert_122 : decode cX7_insert 122 = .ok (.aload_n 0, 1) := by decide +kernel
theorem dX7_insert_123 : decode cX7_insert 123 = .ok (.getfield 12, 3) := by decide +kernel
theorem dX7_insert_126 : decode cX7_insert 126 = .ok (.iconst 1, 1) := by decide +kernel
theorem dX7_insert_127 : decode cX7_insert 127 = .ok (.iconst 0, 1) := by decide +kernel
theorem dX7_insert_128 : decode cX7_insert 128 = .ok (.invokevirtual 293, 3) := by decide +kernel
theorem dX7_insert_131 : decode cX7_insert 131 = .ok (.goto 12, 3) := by decide +kernel
theorem dX7_insert_134 : decode cX7_insert 134 = .ok (.aload_n 0, 1) := by decide +kernel
theorem dX7_insert_135 : decode cX7_insert 135 = .ok (.getfield 12, 3) := by decide +kernel
theorem dX7_insert_138 : decode cX7_insert 138 = .ok (.iconst 0, 1) := by decide +kernel
theorem dX7_insert_139 : decode cX7_insert 139 = .ok (.iconst 1, 1) := by decide +kernel
theorem dX7_insert_140 : decode cX7_insert 140 = .ok (.invokevirtual 293, 3) := by decide +kernel
theorem dX7_insert_143 : decode cX7_insert 143 = .ok (.astore 6, 2) := by decide +kernel
theorem dX7_insert_145 : decode cX7_insert 145 = .ok (.aload_n 0, 1) := by decide +kernel
theorem dX7_insert_146 : decode cX7_insert 146 = .ok (.aload_n 0, 1) := by decide +kernel
theorem dX7_insert_147 : decode cX7_insert 147 = .ok (.getfield 41, 3) := by decide +kernel
theorem dX7_insert_150 : decode cX7_insert 150 = .ok (.iload_n 1, 1) := by decide +kernel
theorem dX7_insert_151 : decode cX7_insert 151 = .ok (.iload 5, 2) := by decide +kernel
theorem dX7_insert_153 : decode cX7_insert 153 = .ok (.aload 6, 2) := by decide +kernel
theorem dX7_insert_155 : decode cX7_insert 155 = .ok (.invokevirtual 297, 3) := by decide +kernel
theorem dX7_insert_158 : decode cX7_insert 158 = .ok (.putfield 41, 3) := by decide +kernel
theorem dX7_insert_161 : decode cX7_insert 161 = .ok (.aload_n 0, 1) := by decide +kernel
theorem dX7_insert_162 : decode cX7_insert 162 = .ok (.getfield 48, 3) := by decide +kernel
theorem dX7_insert_165 : decode cX7_insert 165 = .ok (.iload 5, 2) := by decide +kernel
theorem dX7_insert_167 : decode cX7_insert 167 = .ok (.aload 6, 2) := by decide +kernel
theorem dX7_insert_169 : decode cX7_insert 169 = .ok (.arraylength, 1) := by decide +kernel
theorem dX7_insert_170 : decode cX7_insert 170 = .ok (.invokevirtual 301, 3) := by decide +kernel
theorem dX7_insert_173 : decode cX7_insert 173 = .ok (.aload_n 0, 1) := by decide +kernel
theorem dX7_insert_174 : decode cX7_insert 174 = .ok (.getfield 12, 3) := by decide +kernel
theorem dX7_insert_177 : decode cX7_insert 177 = .ok (.invokevirtual 99, 3) := by decide +kernel
theorem dX7_insert_180 : decode cX7_insert 180 = .ok (.aload_n 0, 1) := by decide +kernel
theorem dX7_insert_181 : decode cX7_insert 181 = .ok (.iconst 1, 1) := by decide +kernel
theorem dX7_insert_182 : decode cX7_insert 182 = .ok (.putfield 71, 3) := by decide +kernel
theorem dX7_insert_185 : decode cX7_insert 185 = .ok (.aload_n 0, 1) := by decide +kernel
theorem dX7_insert_186 : decode cX7_insert 186 = .ok (.getfield 41, 3) := by decide +kernel
theorem dX7_insert_189 : decode cX7_insert 189 = .ok (.iload_n 1, 1) := by decide +kernel
theorem dX7_insert_190 : decode cX7_insert 190 = .ok (.invokevirtual 273, 3) := by decide +kernel
theorem dX7_insert_193 : decode cX7_insert 193 = .ok (.ireturn, 1) := by decide +kernel
theorem dX7_delete_0 : decode cX7_delete 0 = .ok (.aload_n 0, 1) := by decide +kernel
theorem dX7_delete_1 : decode cX7_delete 1 = .ok (.iload_n 1, 1) := by decide +kernel
theorem dX7_delete_2 : decode cX7_delete 2 = .ok (.invokevirtual 241, 3) := by decide +kernel
theorem dX7_delete_5 : decode cX7_delete 5 = .ok (.aload_n 0, 1) := by decide +kernel
theorem dX7_delete_6 : decode cX7_delete 6 = .ok (.getfield 41, 3) := by decide +kernel
theorem dX7_delete_9 : decode cX7_delete 9 = .ok (.iload_n 1, 1) := by decide +kernel
theorem dX7_delete_10 : decode cX7_delete 10 = .ok (.invokevirtual 273, 3) := by decide +kernel
theorem dX7_delete_13 : decode cX7_delete 13 = .ok (.istore 4, 2) := by decide +kernel
theorem dX7_delete_15 : decode cX7_delete 15 = .ok (.iload_n 2, 1) := by decide +kernel
theorem dX7_delete_16 : decode cX7_delete 16 = .ok (.ifCond .lt 22, 3) := by decide +kernel
theorem dX7_delete_19 : decode cX7_delete 19 = .ok (.iload_n 2, 1) := by decide +kernel
theorem dX7_delete_20 : decode cX7_delete 20 = .ok (.iload 4, 2) := by decide +kernel
theorem dX7_delete_22 : decode cX7_delete 22 = .ok (.if_icmp .ge 16, 3) := by decide +kernel
theorem dX7_delete_25 : decode cX7_delete 25 = .ok (.iload_n 3, 1) := by decide +kernel
theorem dX7_delete_26 : decode cX7_delete 26 = .ok (.iconst 1, 1) := by decide +kernel
theorem dX7_delete_27 : decode cX7_delete 27 = .ok (.if_icmp .lt 11, 3) := by decide +kernel
theorem dX7_delete_30 : decode cX7_delete 30 = .ok (.iload_n 3, 1) := by decide +kernel
theorem dX7_delete_31 : decode cX7_delete 31 = .ok (.iload 4, 2) := by decide +kernel
theorem dX7_delete_33 : decode cX7_delete 33 = .ok (.iload_n 2, 1) := by decide +kernel
theorem dX7_delete_34 : decode cX7_delete 34 = .ok (.isub, 1) := by decide +kernel
theorem dX7_delete_35 : decode cX7_delete 35 = .ok (.if_icmp .le 14, 3) := by decide +kernel
theorem dX7_delete_38 : decode cX7_delete 38 = .ok (.new 184, 3) := by decide +kernel
theorem dX7_delete_41 : decode cX7_delete 41 = .ok (.dup, 1) := by decide +kernel
theorem dX7_delete_42 : decode cX7_delete 42 = .ok (.ldc_w 304, 3) := by decide +kernel
theorem dX7_delete_45 : decode cX7_delete 45 = .ok (.invokespecial 188, 3) := by decide +kernel
theorem dX7_delete_48 : decode cX7_delete 48 = .ok (.athrow, 1) := by decide +kernel
theorem dX7_delete_49 : decode cX7_delete 49 = .ok (.iload_n 3, 1) := by decide +kernel
theorem dX7_delete_50 : decode cX7_delete 50 = .ok (.iload 4, 2) := by decide +kernel
theorem dX7_delete_52 : decode cX7_delete 52 = .ok (.if_icmp .ne 14, 3) := by decide +kernel
theorem dX7_delete_55 : decode cX7_delete 55 = .ok (.new 86, 3) := by decide +kernel
theorem dX7_delete_58 : decode cX7_delete 58 = .ok (.dup, 1) := by decide +kernel
theorem dX7_delete_59 : decode cX7_delete 59 = .ok (.ldc_w 306, 3) := by decide +kernel
theorem dX7_delete_62 : decode cX7_delete 62 = .ok (.invokespecial 90, 3) := by decide +kernel
theorem dX7_delete_65 : decode cX7_delete 65 = .ok (.athrow, 1) := by decide +kernel
theorem dX7_delete_66 : decode cX7_delete 66 = .ok (.aload_n 0, 1) := by decide +kernel
theorem dX7_delete_67 : decode cX7_delete 67 = .ok (.getfield 55, 3) := by decide +kernel
theorem dX7_delete_70 : decode cX7_delete 70 = .ok (.aload_n 0, 1) := by decide +kernel
theorem dX7_delete_71 : decode cX7_delete 71 = .ok (.getfield 41, 3) := by decide +kernel
theorem dX7_delete_74 : decode cX7_delete 74 = .ok (.aload_n 0, 1) := by decide +kernel
theorem dX7_delete_75 : decode cX7_delete 75 = .ok (.getfield 48, 3) := by decide +kernel
theorem dX7_delete_78 : decode cX7_delete 78 = .ok (.invokevirtual 283, 3) := by decide +kernel
theorem dX7_delete_81 : decode cX7_delete 81 = .ok (.iload_n 2, 1) := by decide +kernel
theorem dX7_delete_82 : decode cX7_delete 82 = .ok (.iload_n 3, 1) := by decide +kernel
theorem dX7_delete_83 : decode cX7_delete 83 = .ok (.iadd, 1) := by decide +kernel
theorem dX7_delete_84 : decode cX7_delete 84 = .ok (.iload 4, 2) := by decide +kernel
theorem dX7_delete_86 : decode cX7_delete 86 = .ok (.if_icmp .ne 7, 3) := by decide +kernel
theorem dX7_delete_89 : decode cX7_delete 89 = .ok (.iconst 1, 1) := by decide +kernel
theorem dX7_delete_90 : decode cX7_delete 90 = .ok (.goto 4, 3) := by decide +kernel
theorem dX7_delete_93 : decode cX7_delete 93 = .ok (.iconst 0, 1) := by decide +kernel
theorem dX7_delete_94 : decode cX7_delete 94 = .ok (.istore 5, 2) := by decide +kernel
theorem dX7_delete_96 : decode cX7_delete 96 = .ok (.iload 5, 2) := by decide +kernel
theorem dX7_delete_98 : decode cX7_delete 98 = .ok (.ifCond .eq 17, 3) := by decide +kernel
theorem dX7_delete_101 : decode cX7_delete 101 = .ok (.aload_n 0, 1) := by decide +kernel
theorem dX7_delete_102 : decode cX7_delete 102 = .ok (.getfield 41, 3) := by decide +kernel
theorem dX7_delete_105 : decode cX7_delete 105 = .ok (.iload_n 1, 1) := by decide +kernel
theorem dX7_delete_106 : decode cX7_delete 106 = .ok (.iload_n 2, 1) := by decide +kernel
theorem dX7_delete_107 : decode cX7_delete 107 = .ok (.invokevirtual 290, 3) := by decide +kernel
theorem dX7_delete_110 : decode cX7_delete 110 = .ok (.iconst 1, 1) := by decide +kernel
theorem dX7_delete_111 : decode cX7_delete 111 = .ok (.isub, 1) := by decide +kernel
theorem dX7_delete_112 : decode cX7_delete 112 = .ok (.goto 12, 3) := by decide +kernel
theorem dX7_delete_115 : decode cX7_delete 115 = .ok (.aload_n 0, 1) := by decide +kernel
theorem dX7_delete_116 : decode cX7_delete 116 = .ok (.getfield 41, 3) := by decide +kernel
theorem dX7_delete_119 : decode cX7_delete 119 = .ok (.iload_n 1, 1) := by decide +kernel
theorem dX7_delete_120 : decode cX7_delete 120 = .ok (.iload_n 2, 1) := by decide +kernel
theorem dX7_delete_121 : decode cX7_delete 121 = .ok (.invokevirtual 290, 3) := by decide +kernel
theorem dX7_delete_124 : decode cX7_delete 124 = .ok (.istore 6, 2) := by decide +kernel
theorem dX7_delete_126 : decode cX7_delete 126 = .ok (.iload 5, 2) := by decide +kernel
theorem dX7_delete_128 : decode cX7_delete 128 = .ok (.ifCond .eq 14, 3) := by decide +kernel
theorem dX7_delete_131 : decode cX7_delete 131 = .ok (.aload_n 0, 1) := by decide +kernel
theorem dX7_delete_132 : decode cX7_delete 132 = .ok (.getfield 41, 3) := by decide +kernel
theorem dX7_delete_135 : decode cX7_delete 135 = .ok (.iload_n 1, 1) := by decide +kernel
theorem dX7_delete_136 : decode cX7_delete 136 = .ok (.invokevirtual 287, 3) := by decide +kernel
theorem dX7_delete_139 : decode cX7_delete 139 = .ok (.goto 14, 3) := by decide +kernel
theorem dX7_delete_142 : decode cX7_delete 142 = .ok (.aload_n 0, 1) := by decide +kernel
theorem dX7_delete_143 : decode cX7_delete 143 = .ok (.getfield 41, 3) := by decide +kernel
theorem dX7_delete_146 : decode cX7_delete 146 = .ok (.iload_n 1, 1) := by decide +kernel
theorem dX7_delete_147 : decode cX7_delete 147 = .ok (.iload_n 2, 1) := by decide +kernel
theorem dX7_delete_148 : decode cX7_delete 148 = .ok (.iload_n 3, 1) := by decide +kernel
theorem dX7_delete_149 : decode cX7_delete 149 = .ok (.iadd, 1) := by decide +kernel
theorem dX7_delete_150 : decode cX7_delete 150 = .ok (.invokevirtual 290, 3) := by decide +kernel
theorem dX7_delete_153 : decode cX7_delete 153 = .ok (.istore 7, 2) := by decide +kernel
theorem dX7_delete_155 : decode cX7_delete 155 = .ok (.aload_n 0, 1) := by decide +kernel
theorem dX7_delete_156 : decode cX7_delete 156 = .ok (.aload_n 0, 1) := by decide +kernel
theorem dX7_delete_157 : decode cX7_delete 157 = .ok (.getfield 41, 3) := by decide +kernel
theorem dX7_delete_160 : decode cX7_delete 160 = .ok (.iload_n 1, 1) := by decide +kernel
theorem dX7_delete_161 : decode cX7_delete 161 = .ok (.iload 6, 2) := by decide +kernel
theorem dX7_delete_163 : decode cX7_delete 163 = .ok (.iload 7, 2) := by decide +kernel
theorem dX7_delete_165 : decode cX7_delete 165 = .ok (.invokevirtual 308, 3) := by decide +kernel
theorem dX7_delete_168 : decode cX7_delete 168 = .ok (.putfield 41, 3) := by decide +kernel
theorem dX7_delete_171 : decode cX7_delete 171 = .ok (.aload_n 0, 1) := by decide +kernel
theorem dX7_delete_172 : decode cX7_delete 172 = .ok (.getfield 48, 3) := by decide +kernel
theorem dX7_delete_175 : decode cX7_delete 175 = .ok (.iload 6, 2) := by decide +kernel
theorem dX7_delete_177 : decode cX7_delete 177 = .ok (.iload 7, 2) := by decide +kernel
theorem dX7_delete_179 : decode cX7_delete 179 = .ok (.iload 5, 2) := by decide +kernel
theorem dX7_delete_181 : decode cX7_delete 181 = .ok (.ifCond .eq 10, 3) := by decide +kernel
theorem dX7_delete_184 : decode cX7_delete 184 = .ok (.iload 6, 2) := by decide +kernel
theorem dX7_delete_186 : decode cX7_delete 186 = .ok (.iconst 1, 1) := by decide +kernel
theorem dX7_delete_187 : decode cX7_delete 187 = .ok (.isub, 1) := by decide +kernel
theorem dX7_delete_188 : decode cX7_delete 188 = .ok (.goto 5, 3) := by decide +kernel
theorem dX7_delete_191 : decode cX7_delete 191 = .ok (.iload 6, 2) := by decide +kernel
theorem dX7_delete_193 : decode cX7_delete 193 = .ok (.invokevirtual 312, 3) := by decide +kernel
theorem dX7_delete_196 : decode cX7_delete 196 = .ok (.aload_n 0, 1) := by decide +kernel
theorem dX7_delete_197 : decode cX7_delete 197 = .ok (.iconst 1, 1) := by decide +kernel
theorem dX7_delete_198 : decode cX7_delete 198 = .ok (.putfield 71, 3) := by decide +kernel
theorem dX7_delete_201 : decode cX7_delete 201 = .ok (.aload_n 0, 1) := by decide +kernel
theorem dX7_delete_202 : decode cX7_delete 202 = .ok (.getfield 41, 3) := by decide +kernel
theorem dX7_delete_205 : decode cX7_delete 205 = .ok (.iload_n 1, 1) := by decide +kernel
theorem dX7_delete_206 : decode cX7_delete 206 = .ok (.invokevirtual 273, 3) := by decide +kernel
theorem dX7_delete_209 : decode cX7_delete 209 = .ok (.ireturn, 1) := by decide +kernel
theorem dX7_split_0 : decode cX7_split 0 = .ok (.aload_n 0, 1) := by decide +kernel
theorem dX7_split_1 : decode cX7_split 1 = .ok (.iload_n 1, 1) := by decide +kernel
theorem dX7_split_2 : decode cX7_split 2 = .ok (.invokevirtual 241, 3) := by decide +kernel
theorem dX7_split_5 : decode cX7_split 5 = .ok (.iload_n 2, 1) := by decide +kernel
theorem dX7_split_6 : decode cX7_split 6 = .ok (.iconst 1, 1) := by decide +kernel
theorem dX7_split_7 : decode cX7_split 7 = .ok (.if_icmp .lt 15, 3) := by decide +kernel
theorem dX7_split_10 : decode cX7_split 10 = .ok (.iload_n 2, 1) := by decide +kernel
theorem dX7_split_11 : decode cX7_split 11 = .ok (.aload_n 0, 1) := by decide +kernel
theorem dX7_split_12 : decode cX7_split 12 = .ok (.getfield 41, 3) := by decide +kernel
theorem dX7_split_15 : decode cX7_split 15 = .ok (.iload_n 1, 1) := by decide +kernel
theorem dX7_split_16 : decode cX7_split 16 = .ok (.invokevirtual 273, 3) := by decide +kernel
theorem dX7_split_19 : decode cX7_split 19 = .ok (.if_icmp .lt 14, 3) := by decide +kernel
theorem dX7_split_22 : decode cX7_split 22 = .ok (.new 184, 3) := by decide +kernel
theorem dX7_split_25 : decode cX7_split 25 = .ok (.dup, 1) := by decide +kernel
theorem dX7_split_26 : decode cX7_split 26 = .ok (.ldc_w 316, 3) := by decide +kernel
theorem dX7_split_29 : decode cX7_split 29 = .ok (.invokespecial 188, 3) := by decide +kernel
theorem dX7_split_32 : decode cX7_split 32 = .ok (.athrow, 1) := by decide +kernel
theorem dX7_split_33 : decode cX7_split 33 = .ok (.aload_n 0, 1) := by decide +kernel
theorem dX7_split_34 : decode cX7_split 34 = .ok (.getfield 41, 3) := by decide +kernel
theorem dX7_split_37 : decode cX7_split 37 = .ok (.invokevirtual 122, 3) := by decide +kernel
theorem dX7_split_40 : decode cX7_split 40 = .ok (.bipush 10, 2) := by decide +kernel
theorem dX7_split_42 : decode cX7_split 42 = .ok (.if_icmp .lt 14, 3) := by decide +kernel
theorem dX7_split_45 : decode cX7_split 45 = .ok (.new 86, 3) := by decide +kernel
theorem dX7_split_48 : decode cX7_split 48 = .ok (.dup, 1) := by decide +kernel
theorem dX7_split_49 : decode cX7_split 49 = .ok (.ldc_w 318, 3) := by decide +kernel
theorem dX7_split_52 : decode cX7_split 52 = .ok (.invokespecial 90, 3) := by decide +kernel
theorem dX7_split_55 : decode cX7_split 55 = .ok (.athrow, 1) := by decide +kernel
theorem dX7_split_56 : decode cX7_split 56 = .ok (.aload_n 0, 1) := by decide +kernel
theorem dX7_split_57 : decode cX7_split 57 = .ok (.getfield 55, 3) := by decide +kernel
theorem dX7_split_60 : decode cX7_split 60 = .ok (.aload_n 0, 1) := by decide +kernel
theorem dX7_split_61 : decode cX7_split 61 = .ok (.getfield 41, 3) := by decide +kernel
theorem dX7_split_64 : decode cX7_split 64 = .ok (.aload_n 0, 1) := by decide +kernel
theorem dX7_split_65 : decode cX7_split 65 = .ok (.getfield 48, 3) := by decide +kernel
theorem dX7_split_68 : decode cX7_split 68 = .ok (.invokevirtual 283, 3) := by decide +kernel
theorem dX7_split_71 : decode cX7_split 71 = .ok (.aload_n 0, 1) := by decide +kernel
theorem dX7_split_72 : decode cX7_split 72 = .ok (.getfield 48, 3) := by decide +kernel
theorem dX7_split_75 : decode cX7_split 75 = .ok (.aload_n 0, 1) := by decide +kernel
theorem dX7_split_76 : decode cX7_split 76 = .ok (.getfield 41, 3) := by decide +kernel
theorem dX7_split_79 : decode cX7_split 79 = .ok (.iload_n 1, 1) := by decide +kernel
theorem dX7_split_80 : decode cX7_split 80 = .ok (.iload_n 2, 1) := by decide +kernel
theorem dX7_split_81 : decode cX7_split 81 = .ok (.invokevirtual 290, 3) := by decide +kernel
theorem dX7_split_84 : decode cX7_split 84 = .ok (.iconst 1, 1) := by decide +kernel
theorem dX7_split_85 : decode cX7_split 85 = .ok (.isub, 1) := by decide +kernel
theorem dX7_split_86 : decode cX7_split 86 = .ok (.invokevirtual 320, 3) := by decide +kernel
theorem dX7_split_89 : decode cX7_split 89 = .ok (.aload_n 0, 1) := by decide +kernel
theorem dX7_split_90 : decode cX7_split 90 = .ok (.aload_n 0, 1) := by decide +kernel
theorem dX7_split_91 : decode cX7_split 91 = .ok (.getfield 41, 3) := by decide +kernel
theorem dX7_split_94 : decode cX7_split 94 = .ok (.iload_n 1, 1) := by decide +kernel
theorem dX7_split_95 : decode cX7_split 95 = .ok (.iload_n 2, 1) := by decide +kernel
theorem dX7_split_96 : decode cX7_split 96 = .ok (.invokevirtual 323, 3) := by decide +kernel
theorem dX7_split_99 : decode cX7_split 99 = .ok (.putfield 41, 3) := by decide +kernel
theorem dX7_split_102 : decode cX7_split 102 = .ok (.aload_n 0, 1) := by decide +kernel
theorem dX7_split_103 : decode cX7_split 103 = .ok (.iconst 1, 1) := by decide +kernel
theorem dX7_split_104 : decode cX7_split 104 = .ok (.putfield 71, 3) := by decide +kernel
theorem dX7_split_107 : decode cX7_split 107 = .ok (.aload_n 0, 1) := by decide +kernel
theorem dX7_split_108 : decode cX7_split 108 = .ok (.getfield 41, 3) := by decide +kernel
theorem dX7_split_111 : decode cX7_split 111 = .ok (.invokevirtual 122, 3) := by decide +kernel
theorem dX7_split_114 : decode cX7_split 114 = .ok (.ireturn, 1) := by decide +kernel
theorem dX7_join_0 : decode cX7_join 0 = .ok (.aload_n 0, 1) := by decide +kernel
theorem dX7_join_1 : decode cX7_join 1 = .ok (.iload_n 1, 1) := by decide +kernel
theorem dX7_join_2 : decode cX7_join 2 = .ok (.invokevirtual 241, 3) := by decide +kernel
theorem dX7_join_5 : decode cX7_join 5 = .ok (.iload_n 1, 1) := by decide +kernel
theorem dX7_join_6 : decode cX7_join 6 = .ok (.iconst 1, 1) := by decide +kernel
theorem dX7_join_7 : decode cX7_join 7 = .ok (.iadd, 1) := by decide +kernel
theorem dX7_join_8 : decode cX7_join 8 = .ok (.aload_n 0, 1) := by decide +kernel
theorem dX7_join_9 : decode cX7_join 9 = .ok (.getfield 41, 3) := by decide +kernel
theorem dX7_join_12 : decode cX7_join 12 = .ok (.invokevirtual 122, 3) := by decide +kernel
theorem dX7_join_15 : decode cX7_join 15 = .ok (.if_icmp .lt 14, 3) := by decide +kernel
theorem dX7_join_18 : decode cX7_join 18 = .ok (.new 184, 3) := by decide +kernel
theorem dX7_join_21 : decode cX7_join 21 = .ok (.dup, 1) := by decide +kernel
theorem dX7_join_22 : decode cX7_join 22 = .ok (.ldc_w 327, 3) := by decide +kernel
theorem dX7_join_25 : decode cX7_join 25 = .ok (.invokespecial 188, 3) := by decide +kernel
theorem dX7_join_28 : decode cX7_join 28 = .ok (.athrow, 1) := by decide +kernel
theorem dX7_join_29 : decode cX7_join 29 = .ok (.aload_n 0, 1) := by decide +kernel
theorem dX7_join_30 : decode cX7_join 30 = .ok (.getfield 41, 3) := by decide +kernel
theorem dX7_join_33 : decode cX7_join 33 = .ok (.iload_n 1, 1) := by decide +kernel
theorem dX7_join_34 : decode cX7_join 34 = .ok (.invokevirtual 273, 3) := by decide +kernel
theorem dX7_join_37 : decode cX7_join 37 = .ok (.aload_n 0, 1) := by decide +kernel
theorem dX7_join_38 : decode cX7_join 38 = .ok (.getfield 41, 3) := by decide +kernel
theorem dX7_join_41 : decode cX7_join 41 = .ok (.iload_n 1, 1) := by decide +kernel
theorem dX7_join_42 : decode cX7_join 42 = .ok (.iconst 1, 1) := by decide +kernel
theorem dX7_join_43 : decode cX7_join 43 = .ok (.iadd, 1) := by decide +kernel
theorem dX7_join_44 : decode cX7_join 44 = .ok (.invokevirtual 273, 3) := by decide +kernel
theorem dX7_join_47 : decode cX7_join 47 = .ok (.iadd, 1) := by decide +kernel
theorem dX7_join_48 : decode cX7_join 48 = .ok (.bipush 24, 2) := by decide +kernel
theorem dX7_join_50 : decode cX7_join 50 = .ok (.if_icmp .le 14, 3) := by decide +kernel
theorem dX7_join_53 : decode cX7_join 53 = .ok (.new 86, 3) := by decide +kernel
theorem dX7_join_56 : decode cX7_join 56 = .ok (.dup, 1) := by decide +kernel
theorem dX7_join_57 : decode cX7_join 57 = .ok (.ldc_w 281, 3) := by decide +kernel
theorem dX7_join_60 : decode cX7_join 60 = .ok (.invokespecial 90, 3) := by decide +kernel
theorem dX7_join_63 : decode cX7_join 63 = .ok (.athrow, 1) := by decide +kernel
theorem dX7_join_64 : decode cX7_join 64 = .ok (.aload_n 0, 1) := by decide +kernel
theorem dX7_join_65 : decode cX7_join 65 = .ok (.getfield 55, 3) := by decide +kernel
theorem dX7_join_68 : decode cX7_join 68 = .ok (.aload_n 0, 1) := by decide +kernel
theorem dX7_join_69 : decode cX7_join 69 = .ok (.getfield 41, 3) := by decide +kernel
theorem dX7_join_72 : decode cX7_join 72 = .ok (.aload_n 0, 1) := by decide +kernel
theorem dX7_join_73 : decode cX7_join 73 = .ok (.getfield 48, 3) := by decide +kernel
theorem dX7_join_76 : decode cX7_join 76 = .ok (.invokevirtual 283, 3) := by decide +kernel
theorem dX7_join_79 : decode cX7_join 79 = .ok (.aload_n 0, 1) := by decide +kernel
theorem dX7_join_80 : decode cX7_join 80 = .ok (.aload_n 0, 1) := by decide +kernel
theorem dX7_join_81 : decode cX7_join 81 = .ok (.getfield 41, 3) := by decide +kernel
theorem dX7_join_84 : decode cX7_join 84 = .ok (.iload_n 1, 1) := by decide +kernel
theorem dX7_join_85 : decode cX7_join 85 = .ok (.invokevirtual 329, 3) := by decide +kernel
theorem dX7_join_88 : decode cX7_join 88 = .ok (.putfield 41, 3) := by decide +kernel
theorem dX7_join_91 : decode cX7_join 91 = .ok (.aload_n 0, 1) := by decide +kernel
theorem dX7_join_92 : decode cX7_join 92 = .ok (.iconst 1, 1) := by decide +kernel
theorem dX7_join_93 : decode cX7_join 93 = .ok (.putfield 71, 3) := by decide +kernel
theorem dX7_join_96 : decode cX7_join 96 = .ok (.aload_n 0, 1) := by decide +kernel
theorem dX7_join_97 : decode cX7_join 97 = .ok (.getfield 41, 3) := by decide +kernel
theorem dX7_join_100 : decode cX7_join 100 = .ok (.iload_n 1, 1) := by decide +kernel
theorem dX7_join_101 : decode cX7_join 101 = .ok (.invokevirtual 273, 3) := by decide +kernel
theorem dX7_join_104 : decode cX7_join 104 = .ok (.ireturn, 1) := by decide +kernel
theorem dX7_undo_0 : decode cX7_undo 0 = .ok (.aload_n 0, 1) := by decide +kernel
theorem dX7_undo_1 : decode cX7_undo 1 = .ok (.getfield 55, 3) := by decide +kernel
theorem dX7_undo_4 : decode cX7_undo 4 = .ok (.invokevirtual 333, 3) := by decide +kernel
theorem dX7_undo_7 : decode cX7_undo 7 = .ok (.astore_n 1, 1) := by decide +kernel
theorem dX7_undo_8 : decode cX7_undo 8 = .ok (.aload_n 1, 1) := by decide +kernel
theorem dX7_undo_9 : decode cX7_undo 9 = .ok (.ifnonnull 14, 3) := by decide +kernel
theorem dX7_undo_12 : decode cX7_undo 12 = .ok (.new 86, 3) := by decide +kernel
theorem dX7_undo_15 : decode cX7_undo 15 = .ok (.dup, 1) := by decide +kernel
theorem dX7_undo_16 : decode cX7_undo 16 = .ok (.ldc_w 336, 3) := by decide +kernel
theorem dX7_undo_19 : decode cX7_undo 19 = .ok (.invokespecial 90, 3) := by decide +kernel
theorem dX7_undo_22 : decode cX7_undo 22 = .ok (.athrow, 1) := by decide +kernel
theorem dX7_undo_23 : decode cX7_undo 23 = .ok (.aload_n 0, 1) := by decide +kernel
theorem dX7_undo_24 : decode cX7_undo 24 = .ok (.aload_n 1, 1) := by decide +kernel
theorem dX7_undo_25 : decode cX7_undo 25 = .ok (.putfield 41, 3) := by decide +kernel
theorem dX7_undo_28 : decode cX7_undo 28 = .ok (.aload_n 0, 1) := by decide +kernel
theorem dX7_undo_29 : decode cX7_undo 29 = .ok (.getfield 55, 3) := by decide +kernel
theorem dX7_undo_32 : decode cX7_undo 32 = .ok (.aload_n 0, 1) := by decide +kernel
theorem dX7_undo_33 : decode cX7_undo 33 = .ok (.getfield 48, 3) := by decide +kernel
theorem dX7_undo_36 : decode cX7_undo 36 = .ok (.invokevirtual 338, 3) := by decide +kernel
theorem dX7_undo_39 : decode cX7_undo 39 = .ok (.aload_n 0, 1) := by decide +kernel
theorem dX7_undo_40 : decode cX7_undo 40 = .ok (.iconst 1, 1) := by decide +kernel
theorem dX7_undo_41 : decode cX7_undo 41 = .ok (.putfield 71, 3) := by decide +kernel
theorem dX7_undo_44 : decode cX7_undo 44 = .ok (.aload_n 0, 1) := by decide +kernel
theorem dX7_undo_45 : decode cX7_undo 45 = .ok (.getfield 55, 3) := by decide +kernel
theorem dX7_undo_48 : decode cX7_undo 48 = .ok (.invokevirtual 342, 3) := by decide +kernel
theorem dX7_undo_51 : decode cX7_undo 51 = .ok (.ireturn, 1) := by decide +kernel
theorem dX7_ifSize_0 : decode cX7_ifSize 0 = .ok (.iload_n 1, 1) := by decide +kernel
theorem dX7_ifSize_1 : decode cX7_ifSize 1 = .ok (.iload_n 2, 1) := by decide +kernel
theorem dX7_ifSize_2 : decode cX7_ifSize 2 = .ok (.invokestatic 142, 3) := by decide +kernel
theorem dX7_ifSize_5 : decode cX7_ifSize 5 = .ok (.iload_n 3, 1) := by decide +kernel
theorem dX7_ifSize_6 : decode cX7_ifSize 6 = .ok (.iconst 3, 1) := by decide +kernel
theorem dX7_ifSize_7 : decode cX7_ifSize 7 = .ok (.invokestatic 162, 3) := by decide +kernel
theorem dX7_ifSize_10 : decode cX7_ifSize 10 = .ok (.aload_n 0, 1) := by decide +kernel
theorem dX7_ifSize_11 : decode cX7_ifSize 11 = .ok (.getfield 68, 3) := by decide +kernel
theorem dX7_ifSize_14 : decode cX7_ifSize 14 = .ok (.aload_n 0, 1) := by decide +kernel
theorem dX7_ifSize_15 : decode cX7_ifSize 15 = .ok (.getfield 41, 3) := by decide +kernel
theorem dX7_ifSize_18 : decode cX7_ifSize 18 = .ok (.iload_n 1, 1) := by decide +kernel
theorem dX7_ifSize_19 : decode cX7_ifSize 19 = .ok (.iload_n 2, 1) := by decide +kernel
theorem dX7_ifSize_20 : decode cX7_ifSize 20 = .ok (.invokevirtual 345, 3) := by decide +kernel
theorem dX7_ifSize_23 : decode cX7_ifSize 23 = .ok (.iload_n 3, 1) := by decide +kernel
theorem dX7_ifSize_24 : decode cX7_ifSize 24 = .ok (.lookupswitch 44 #[(0, 28), (1, 36)], 28) := by decide +kernel
theorem dX7_ifSize_52 : decode cX7_ifSize 52 = .ok (.aload_n 0, 1) := by decide +kernel
theorem dX7_ifSize_53 : decode cX7_ifSize 53 = .ok (.getfield 68, 3) := by decide +kernel
theorem dX7_ifSize_56 : decode cX7_ifSize 56 = .ok (.invokevirtual 349, 3) := by decide +kernel
theorem dX7_ifSize_59 : decode cX7_ifSize 59 = .ok (.ireturn, 1) := by decide +kernel
theorem dX7_ifSize_60 : decode cX7_ifSize 60 = .ok (.aload_n 0, 1) := by decide +kernel
theorem dX7_ifSize_61 : decode cX7_ifSize 61 = .ok (.getfield 68, 3) := by decide +kernel
theorem dX7_ifSize_64 : decode cX7_ifSize 64 = .ok (.invokevirtual 149, 3) := by decide +kernel
theorem dX7_ifSize_67 : decode cX7_ifSize 67 = .ok (.ireturn, 1) := by decide +kernel
theorem dX7_ifSize_68 : decode cX7_ifSize 68 = .ok (.aload_n 0, 1) := by decide +kernel
theorem dX7_ifSize_69 : decode cX7_ifSize 69 = .ok (.getfield 68, 3) := by decide +kernel
theorem dX7_ifSize_72 : decode cX7_ifSize 72 = .ok (.aload_n 0, 1) := by decide +kernel
theorem dX7_ifSize_73 : decode cX7_ifSize 73 = .ok (.getfield 48, 3) := by decide +kernel
theorem dX7_ifSize_76 : decode cX7_ifSize 76 = .ok (.invokevirtual 352, 3) := by decide +kernel
theorem dX7_ifSize_79 : decode cX7_ifSize 79 = .ok (.invokevirtual 195, 3) := by decide +kernel
theorem dX7_ifSize_82 : decode cX7_ifSize 82 = .ok (.ireturn, 1) := by decide +kernel
theorem dX7_fit_0 : decode cX7_fit 0 = .ok (.iload_n 1, 1) := by decide +kernel
theorem dX7_fit_1 : decode cX7_fit 1 = .ok (.iconst 1, 1) := by decide +kernel
theorem dX7_fit_2 : decode cX7_fit 2 = .ok (.if_icmp .ge 14, 3) := by decide +kernel
theorem dX7_fit_5 : decode cX7_fit 5 = .ok (.new 75, 3) := by decide +kernel
theorem dX7_fit_8 : decode cX7_fit 8 = .ok (.dup, 1) := by decide +kernel
theorem dX7_fit_9 : decode cX7_fit 9 = .ok (.ldc_w 355, 3) := by decide +kernel
theorem dX7_fit_12 : decode cX7_fit 12 = .ok (.invokespecial 79, 3) := by decide +kernel
theorem dX7_fit_15 : decode cX7_fit 15 = .ok (.athrow, 1) := by decide +kernel
theorem dX7_fit_16 : decode cX7_fit 16 = .ok (.bipush 18, 2) := by decide +kernel
theorem dX7_fit_18 : decode cX7_fit 18 = .ok (.istore_n 2, 1) := by decide +kernel
theorem dX7_fit_19 : decode cX7_fit 19 = .ok (.iload_n 2, 1) := by decide +kernel
theorem dX7_fit_20 : decode cX7_fit 20 = .ok (.bipush 60, 2) := by decide +kernel
theorem dX7_fit_22 : decode cX7_fit 22 = .ok (.if_icmp .gt 38, 3) := by decide +kernel
theorem dX7_fit_25 : decode cX7_fit 25 = .ok (.aload_n 0, 1) := by decide +kernel
theorem dX7_fit_26 : decode cX7_fit 26 = .ok (.getfield 68, 3) := by decide +kernel
theorem dX7_fit_29 : decode cX7_fit 29 = .ok (.aload_n 0, 1) := by decide +kernel
theorem dX7_fit_30 : decode cX7_fit 30 = .ok (.getfield 41, 3) := by decide +kernel
theorem dX7_fit_33 : decode cX7_fit 33 = .ok (.iload_n 2, 1) := by decide +kernel
theorem dX7_fit_34 : decode cX7_fit 34 = .ok (.aload_n 0, 1) := by decide +kernel
theorem dX7_fit_35 : decode cX7_fit 35 = .ok (.getfield 30, 3) := by decide +kernel
theorem dX7_fit_38 : decode cX7_fit 38 = .ok (.invokevirtual 345, 3) := by decide +kernel
theorem dX7_fit_41 : decode cX7_fit 41 = .ok (.aload_n 0, 1) := by decide +kernel
theorem dX7_fit_42 : decode cX7_fit 42 = .ok (.getfield 68, 3) := by decide +kernel
theorem dX7_fit_45 : decode cX7_fit 45 = .ok (.invokevirtual 149, 3) := by decide +kernel
theorem dX7_fit_48 : decode cX7_fit 48 = .ok (.iload_n 1, 1) := by decide +kernel
theorem dX7_fit_49 : decode cX7_fit 49 = .ok (.if_icmp .gt 5, 3) := by decide +kernel
theorem dX7_fit_52 : decode cX7_fit 52 = .ok (.iload_n 2, 1) := by decide +kernel
theorem dX7_fit_53 : decode cX7_fit 53 = .ok (.ireturn, 1) := by decide +kernel
theorem dX7_fit_54 : decode cX7_fit 54 = .ok (.iinc 2 1, 3) := by decide +kernel
theorem dX7_fit_57 : decode cX7_fit 57 = .ok (.goto (-38), 3) := by decide +kernel
theorem dX7_fit_60 : decode cX7_fit 60 = .ok (.iconst (-1), 1) := by decide +kernel
theorem dX7_fit_61 : decode cX7_fit 61 = .ok (.ireturn, 1) := by decide +kernel
theorem dX7_fullness_0 : decode cX7_fullness 0 = .ok (.aload_n 0, 1) := by decide +kernel
theorem dX7_fullness_1 : decode cX7_fullness 1 = .ok (.invokevirtual 146, 3) := by decide +kernel
theorem dX7_fullness_4 : decode cX7_fullness 4 = .ok (.aload_n 0, 1) := by decide +kernel
theorem dX7_fullness_5 : decode cX7_fullness 5 = .ok (.getfield 64, 3) := by decide +kernel
theorem dX7_fullness_8 : decode cX7_fullness 8 = .ok (.invokevirtual 149, 3) := by decide +kernel
theorem dX7_fullness_11 : decode cX7_fullness 11 = .ok (.iconst 1, 1) := by decide +kernel
theorem dX7_fullness_12 : decode cX7_fullness 12 = .ok (.isub, 1) := by decide +kernel
theorem dX7_fullness_13 : decode cX7_fullness 13 = .ok (.istore_n 1, 1) := by decide +kernel
theorem dX7_fullness_14 : decode cX7_fullness 14 = .ok (.iconst 0, 1) := by decide +kernel
theorem dX7_fullness_15 : decode cX7_fullness 15 = .ok (.istore_n 2, 1) := by decide +kernel
theorem dX7_fullness_16 : decode cX7_fullness 16 = .ok (.iconst 0, 1) := by decide +kernel
theorem dX7_fullness_17 : decode cX7_fullness 17 = .ok (.istore_n 3, 1) := by decide +kernel
theorem dX7_fullness_18 : decode cX7_fullness 18 = .ok (.iload_n 3, 1) := by decide +kernel
theorem dX7_fullness_19 : decode cX7_fullness 19 = .ok (.iload_n 1, 1) := by decide +kernel
theorem dX7_fullness_20 : decode cX7_fullness 20 = .ok (.if_icmp .ge 29, 3) := by decide +kernel
theorem dX7_fullness_23 : decode cX7_fullness 23 = .ok (.iload_n 2, 1) := by decide +kernel
theorem dX7_fullness_24 : decode cX7_fullness 24 = .ok (.aload_n 0, 1) := by decide +kernel
theorem dX7_fullness_25 : decode cX7_fullness 25 = .ok (.getfield 64, 3) := by decide +kernel
theorem dX7_fullness_28 : decode cX7_fullness 28 = .ok (.iload_n 3, 1) := by decide +kernel
theorem dX7_fullness_29 : decode cX7_fullness 29 = .ok (.invokevirtual 357, 3) := by decide +kernel
theorem dX7_fullness_32 : decode cX7_fullness 32 = .ok (.aload_n 0, 1) := by decide +kernel
theorem dX7_fullness_33 : decode cX7_fullness 33 = .ok (.getfield 64, 3) := by decide +kernel
theorem dX7_fullness_36 : decode cX7_fullness 36 = .ok (.iload_n 3, 1) := by decide +kernel
theorem dX7_fullness_37 : decode cX7_fullness 37 = .ok (.invokevirtual 360, 3) := by decide +kernel
theorem dX7_fullness_40 : decode cX7_fullness 40 = .ok (.iadd, 1) := by decide +kernel
theorem dX7_fullness_41 : decode cX7_fullness 41 = .ok (.iadd, 1) := by decide +kernel
theorem dX7_fullness_42 : decode cX7_fullness 42 = .ok (.istore_n 2, 1) := by decide +kernel
theorem dX7_fullness_43 : decode cX7_fullness 43 = .ok (.iinc 3 1, 3) := by decide +kernel
theorem dX7_fullness_46 : decode cX7_fullness 46 = .ok (.goto (-28), 3) := by decide +kernel
theorem dX7_fullness_49 : decode cX7_fullness 49 = .ok (.iload_n 1, 1) := by decide +kernel
theorem dX7_fullness_50 : decode cX7_fullness 50 = .ok (.aload_n 0, 1) := by decide +kernel
theorem dX7_fullness_51 : decode cX7_fullness 51 = .ok (.getfield 30, 3) := by decide +kernel
theorem dX7_fullness_54 : decode cX7_fullness 54 = .ok (.imul, 1) := by decide +kernel
theorem dX7_fullness_55 : decode cX7_fullness 55 = .ok (.istore_n 3, 1) := by decide +kernel
theorem dX7_fullness_56 : decode cX7_fullness 56 = .ok (.iload_n 3, 1) := by decide +kernel
theorem dX7_fullness_57 : decode cX7_fullness 57 = .ok (.ifCond .le 11, 3) := by decide +kernel
theorem dX7_fullness_60 : decode cX7_fullness 60 = .ok (.iload_n 2, 1) := by decide +kernel
theorem dX7_fullness_61 : decode cX7_fullness 61 = .ok (.i2d, 1) := by decide +kernel
theorem dX7_fullness_62 : decode cX7_fullness 62 = .ok (.iload_n 3, 1) := by decide +kernel
theorem dX7_fullness_63 : decode cX7_fullness 63 = .ok (.i2d, 1) := by decide +kernel
theorem dX7_fullness_64 : decode cX7_fullness 64 = .ok (.ddiv, 1) := by decide +kernel
theorem dX7_fullness_65 : decode cX7_fullness 65 = .ok (.goto 4, 3) := by decide +kernel
theorem dX7_fullness_68 : decode cX7_fullness 68 = .ok (.dconst 0, 1) := by decide +kernel
theorem dX7_fullness_69 : decode cX7_fullness 69 = .ok (.dreturn, 1) := by decide +kernel
theorem dX7_digest_0 : decode cX7_digest 0 = .ok (.aload_n 0, 1) := by decide +kernel
theorem dX7_digest_1 : decode cX7_digest 1 = .ok (.invokevirtual 146, 3) := by decide +kernel
theorem dX7_digest_4 : decode cX7_digest 4 = .ok (.ldc2_w 363, 3) := by decide +kernel
theorem dX7_digest_7 : decode cX7_digest 7 = .ok (.lstore_n 1, 1) := by decide +kernel
theorem dX7_digest_8 : decode cX7_digest 8 = .ok (.iconst 0, 1) := by decide +kernel
theorem dX7_digest_9 : decode cX7_digest 9 = .ok (.istore_n 3, 1) := by decide +kernel
theorem dX7_digest_10 : decode cX7_digest 10 = .ok (.iload_n 3, 1) := by decide +kernel
theorem dX7_digest_11 : decode cX7_digest 11 = .ok (.bipush 12, 2) := by decide +kernel
theorem dX7_digest_13 : decode cX7_digest 13 = .ok (.if_icmp .ge 19, 3) := by decide +kernel
theorem dX7_digest_16 : decode cX7_digest 16 = .ok (.lload_n 1, 1) := by decide +kernel
theorem dX7_digest_17 : decode cX7_digest 17 = .ok (.aload_n 0, 1) := by decide +kernel
theorem dX7_digest_18 : decode cX7_digest 18 = .ok (.iload_n 3, 1) := by decide +kernel
theorem dX7_digest_19 : decode cX7_digest 19 = .ok (.invokevirtual 238, 3) := by decide +kernel
theorem dX7_digest_22 : decode cX7_digest 22 = .ok (.invokestatic 365, 3) := by decide +kernel
theorem dX7_digest_25 : decode cX7_digest 25 = .ok (.lstore_n 1, 1) := by decide +kernel
theorem dX7_digest_26 : decode cX7_digest 26 = .ok (.iinc 3 1, 3) := by decide +kernel
theorem dX7_digest_29 : decode cX7_digest 29 = .ok (.goto (-19), 3) := by decide +kernel
theorem dX7_digest_32 : decode cX7_digest 32 = .ok (.lload_n 1, 1) := by decide +kernel
theorem dX7_digest_33 : decode cX7_digest 33 = .ok (.aload_n 0, 1) := by decide +kernel
theorem dX7_digest_34 : decode cX7_digest 34 = .ok (.getfield 26, 3) := by decide +kernel
theorem dX7_digest_37 : decode cX7_digest 37 = .ok (.invokestatic 365, 3) := by decide +kernel
theorem dX7_digest_40 : decode cX7_digest 40 = .ok (.lstore_n 1, 1) := by decide +kernel
theorem dX7_digest_41 : decode cX7_digest 41 = .ok (.lload_n 1, 1) := by decide +kernel
theorem dX7_digest_42 : decode cX7_digest 42 = .ok (.aload_n 0, 1) := by decide +kernel
theorem dX7_digest_43 : decode cX7_digest 43 = .ok (.getfield 30, 3) := by decide +kernel
theorem dX7_digest_46 : decode cX7_digest 46 = .ok (.invokestatic 365, 3) := by decide +kernel
theorem dX7_digest_49 : decode cX7_digest 49 = .ok (.lstore_n 1, 1) := by decide +kernel
theorem dX7_digest_50 : decode cX7_digest 50 = .ok (.aload_n 0, 1) := by decide +kernel
theorem dX7_digest_51 : decode cX7_digest 51 = .ok (.getfield 22, 3) := by decide +kernel
theorem dX7_digest_54 : decode cX7_digest 54 = .ok (.astore_n 3, 1) := by decide +kernel
theorem dX7_digest_55 : decode cX7_digest 55 = .ok (.aload_n 3, 1) := by decide +kernel
theorem dX7_digest_56 : decode cX7_digest 56 = .ok (.arraylength, 1) := by decide +kernel
theorem dX7_digest_57 : decode cX7_digest 57 = .ok (.istore 4, 2) := by decide +kernel
theorem dX7_digest_59 : decode cX7_digest 59 = .ok (.iconst 0, 1) := by decide +kernel
theorem dX7_digest_60 : decode cX7_digest 60 = .ok (.istore 5, 2) := by decide +kernel
theorem dX7_digest_62 : decode cX7_digest 62 = .ok (.iload 5, 2) := by decide +kernel
theorem dX7_digest_64 : decode cX7_digest 64 = .ok (.iload 4, 2) := by decide +kernel
theorem dX7_digest_66 : decode cX7_digest 66 = .ok (.if_icmp .ge 22, 3) := by decide +kernel
theorem dX7_digest_69 : decode cX7_digest 69 = .ok (.aload_n 3, 1) := by decide +kernel
theorem dX7_digest_70 : decode cX7_digest 70 = .ok (.iload 5, 2) := by decide +kernel
theorem dX7_digest_72 : decode cX7_digest 72 = .ok (.iaload, 1) := by decide +kernel
theorem dX7_digest_73 : decode cX7_digest 73 = .ok (.istore 6, 2) := by decide +kernel
theorem dX7_digest_75 : decode cX7_digest 75 = .ok (.lload_n 1, 1) := by decide +kernel
theorem dX7_digest_76 : decode cX7_digest 76 = .ok (.iload 6, 2) := by decide +kernel
theorem dX7_digest_78 : decode cX7_digest 78 = .ok (.invokestatic 365, 3) := by decide +kernel
theorem dX7_digest_81 : decode cX7_digest 81 = .ok (.lstore_n 1, 1) := by decide +kernel
theorem dX7_digest_82 : decode cX7_digest 82 = .ok (.iinc 5 1, 3) := by decide +kernel
theorem dX7_digest_85 : decode cX7_digest 85 = .ok (.goto (-23), 3) := by decide +kernel
theorem dX7_digest_88 : decode cX7_digest 88 = .ok (.aload_n 0, 1) := by decide +kernel
theorem dX7_digest_89 : decode cX7_digest 89 = .ok (.lload_n 1, 1) := by decide +kernel
theorem dX7_digest_90 : decode cX7_digest 90 = .ok (.invokevirtual 369, 3) := by decide +kernel
theorem dX7_digest_93 : decode cX7_digest 93 = .ok (.lstore_n 1, 1) := by decide +kernel
theorem dX7_digest_94 : decode cX7_digest 94 = .ok (.aload_n 0, 1) := by decide +kernel
theorem dX7_digest_95 : decode cX7_digest 95 = .ok (.lload_n 1, 1) := by decide +kernel
theorem dX7_digest_96 : decode cX7_digest 96 = .ok (.invokevirtual 373, 3) := by decide +kernel
theorem dX7_digest_99 : decode cX7_digest 99 = .ok (.lstore_n 1, 1) := by decide +kernel
theorem dX7_digest_100 : decode cX7_digest 100 = .ok (.aload_n 0, 1) := by decide +kernel
theorem dX7_digest_101 : decode cX7_digest 101 = .ok (.lload_n 1, 1) := by decide +kernel
theorem dX7_digest_102 : decode cX7_digest 102 = .ok (.invokevirtual 376, 3) := by decide +kernel
theorem dX7_digest_105 : decode cX7_digest 105 = .ok (.lstore_n 1, 1) := by decide +kernel
theorem dX7_digest_106 : decode cX7_digest 106 = .ok (.aload_n 0, 1) := by decide +kernel
theorem dX7_digest_107 : decode cX7_digest 107 = .ok (.lload_n 1, 1) := by decide +kernel
theorem dX7_digest_108 : decode cX7_digest 108 = .ok (.invokevirtual 379, 3) := by decide +kernel
theorem dX7_digest_111 : decode cX7_digest 111 = .ok (.lstore_n 1, 1) := by decide +kernel
theorem dX7_digest_112 : decode cX7_digest 112 = .ok (.iconst 0, 1) := by decide +kernel
theorem dX7_digest_113 : decode cX7_digest 113 = .ok (.istore_n 3, 1) := by decide +kernel
theorem dX7_digest_114 : decode cX7_digest 114 = .ok (.iload_n 3, 1) := by decide +kernel
theorem dX7_digest_115 : decode cX7_digest 115 = .ok (.bipush 10, 2) := by decide +kernel
theorem dX7_digest_117 : decode cX7_digest 117 = .ok (.if_icmp .ge 19, 3) := by decide +kernel
theorem dX7_digest_120 : decode cX7_digest 120 = .ok (.lload_n 1, 1) := by decide +kernel
theorem dX7_digest_121 : decode cX7_digest 121 = .ok (.aload_n 0, 1) := by decide +kernel
theorem dX7_digest_122 : decode cX7_digest 122 = .ok (.iload_n 3, 1) := by decide +kernel
theorem dX7_digest_123 : decode cX7_digest 123 = .ok (.invokevirtual 132, 3) := by decide +kernel
theorem dX7_digest_126 : decode cX7_digest 126 = .ok (.invokestatic 365, 3) := by decide +kernel
theorem dX7_digest_129 : decode cX7_digest 129 = .ok (.lstore_n 1, 1) := by decide +kernel
theorem dX7_digest_130 : decode cX7_digest 130 = .ok (.iinc 3 1, 3) := by decide +kernel
theorem dX7_digest_133 : decode cX7_digest 133 = .ok (.goto (-19), 3) := by decide +kernel
theorem dX7_digest_136 : decode cX7_digest 136 = .ok (.aload_n 0, 1) := by decide +kernel
theorem dX7_digest_137 : decode cX7_digest 137 = .ok (.lload_n 1, 1) := by decide +kernel
theorem dX7_digest_138 : decode cX7_digest 138 = .ok (.invokevirtual 382, 3) := by decide +kernel
theorem dX7_digest_141 : decode cX7_digest 141 = .ok (.lreturn, 1) := by decide +kernel
theorem dX7_mixed_0 : decode cX7_mixed 0 = .ok (.ldc2_w 385, 3) := by decide +kernel
theorem dX7_mixed_3 : decode cX7_mixed 3 = .ok (.lload_n 0, 1) := by decide +kernel
theorem dX7_mixed_4 : decode cX7_mixed 4 = .ok (.lmul, 1) := by decide +kernel
theorem dX7_mixed_5 : decode cX7_mixed 5 = .ok (.iload_n 2, 1) := by decide +kernel
theorem dX7_mixed_6 : decode cX7_mixed 6 = .ok (.i2l, 1) := by decide +kernel
theorem dX7_mixed_7 : decode cX7_mixed 7 = .ok (.ladd, 1) := by decide +kernel
theorem dX7_mixed_8 : decode cX7_mixed 8 = .ok (.lreturn, 1) := by decide +kernel
theorem dX7_mixedParagraphs_0 : decode cX7_mixedParagraphs 0 = .ok (.lload_n 1, 1) := by decide +kernel
theorem dX7_mixedParagraphs_1 : decode cX7_mixedParagraphs 1 = .ok (.lstore_n 3, 1) := by decide +kernel
theorem dX7_mixedParagraphs_2 : decode cX7_mixedParagraphs 2 = .ok (.iconst 0, 1) := by decide +kernel
theorem dX7_mixedParagraphs_3 : decode cX7_mixedParagraphs 3 = .ok (.istore 5, 2) := by decide +kernel
theorem dX7_mixedParagraphs_5 : decode cX7_mixedParagraphs 5 = .ok (.iload 5, 2) := by decide +kernel
theorem dX7_mixedParagraphs_7 : decode cX7_mixedParagraphs 7 = .ok (.aload_n 0, 1) := by decide +kernel
theorem dX7_mixedParagraphs_8 : decode cX7_mixedParagraphs 8 = .ok (.getfield 41, 3) := by decide +kernel
theorem dX7_mixedParagraphs_11 : decode cX7_mixedParagraphs 11 = .ok (.invokevirtual 122, 3) := by decide +kernel
theorem dX7_mixedParagraphs_14 : decode cX7_mixedParagraphs 14 = .ok (.if_icmp .ge 89, 3) := by decide +kernel
theorem dX7_mixedParagraphs_17 : decode cX7_mixedParagraphs 17 = .ok (.iconst 0, 1) := by decide +kernel
theorem dX7_mixedParagraphs_18 : decode cX7_mixedParagraphs 18 = .ok (.istore 6, 2) := by decide +kernel
theorem dX7_mixedParagraphs_20 : decode cX7_mixedParagraphs 20 = .ok (.iload 6, 2) := by decide +kernel
theorem dX7_mixedParagraphs_22 : decode cX7_mixedParagraphs 22 = .ok (.iconst 5, 1) := by decide +kernel
theorem dX7_mixedParagraphs_23 : decode cX7_mixedParagraphs 23 = .ok (.if_icmp .ge 22, 3) := by decide +kernel
theorem dX7_mixedParagraphs_26 : decode cX7_mixedParagraphs 26 = .ok (.lload_n 3, 1) := by decide +kernel
theorem dX7_mixedParagraphs_27 : decode cX7_mixedParagraphs 27 = .ok (.aload_n 0, 1) := by decide +kernel
theorem dX7_mixedParagraphs_28 : decode cX7_mixedParagraphs 28 = .ok (.iload 5, 2) := by decide +kernel
theorem dX7_mixedParagraphs_30 : decode cX7_mixedParagraphs 30 = .ok (.iload 6, 2) := by decide +kernel
theorem dX7_mixedParagraphs_32 : decode cX7_mixedParagraphs 32 = .ok (.invokevirtual 244, 3) := by decide +kernel
theorem dX7_mixedParagraphs_35 : decode cX7_mixedParagraphs 35 = .ok (.invokestatic 365, 3) := by decide +kernel
theorem dX7_mixedParagraphs_38 : decode cX7_mixedParagraphs 38 = .ok (.lstore_n 3, 1) := by decide +kernel
theorem dX7_mixedParagraphs_39 : decode cX7_mixedParagraphs 39 = .ok (.iinc 6 1, 3) := by decide +kernel
theorem dX7_mixedParagraphs_42 : decode cX7_mixedParagraphs 42 = .ok (.goto (-22), 3) := by decide +kernel
theorem dX7_mixedParagraphs_45 : decode cX7_mixedParagraphs 45 = .ok (.aload_n 0, 1) := by decide +kernel
theorem dX7_mixedParagraphs_46 : decode cX7_mixedParagraphs 46 = .ok (.getfield 41, 3) := by decide +kernel
theorem dX7_mixedParagraphs_49 : decode cX7_mixedParagraphs 49 = .ok (.iload 5, 2) := by decide +kernel
theorem dX7_mixedParagraphs_51 : decode cX7_mixedParagraphs 51 = .ok (.invokevirtual 287, 3) := by decide +kernel
theorem dX7_mixedParagraphs_54 : decode cX7_mixedParagraphs 54 = .ok (.istore 6, 2) := by decide +kernel
theorem dX7_mixedParagraphs_56 : decode cX7_mixedParagraphs 56 = .ok (.aload_n 0, 1) := by decide +kernel
theorem dX7_mixedParagraphs_57 : decode cX7_mixedParagraphs 57 = .ok (.getfield 41, 3) := by decide +kernel
theorem dX7_mixedParagraphs_60 : decode cX7_mixedParagraphs 60 = .ok (.iload 5, 2) := by decide +kernel
theorem dX7_mixedParagraphs_62 : decode cX7_mixedParagraphs 62 = .ok (.invokevirtual 192, 3) := by decide +kernel
theorem dX7_mixedParagraphs_65 : decode cX7_mixedParagraphs 65 = .ok (.istore 7, 2) := by decide +kernel
theorem dX7_mixedParagraphs_67 : decode cX7_mixedParagraphs 67 = .ok (.iload 7, 2) := by decide +kernel
theorem dX7_mixedParagraphs_69 : decode cX7_mixedParagraphs 69 = .ok (.iload 6, 2) := by decide +kernel
theorem dX7_mixedParagraphs_71 : decode cX7_mixedParagraphs 71 = .ok (.if_icmp .ge 26, 3) := by decide +kernel
theorem dX7_mixedParagraphs_74 : decode cX7_mixedParagraphs 74 = .ok (.lload_n 3, 1) := by decide +kernel
theorem dX7_mixedParagraphs_75 : decode cX7_mixedParagraphs 75 = .ok (.aload_n 0, 1) := by decide +kernel
theorem dX7_mixedParagraphs_76 : decode cX7_mixedParagraphs 76 = .ok (.getfield 41, 3) := by decide +kernel
theorem dX7_mixedParagraphs_79 : decode cX7_mixedParagraphs 79 = .ok (.invokevirtual 230, 3) := by decide +kernel
theorem dX7_mixedParagraphs_82 : decode cX7_mixedParagraphs 82 = .ok (.iload 7, 2) := by decide +kernel
theorem dX7_mixedParagraphs_84 : decode cX7_mixedParagraphs 84 = .ok (.invokevirtual 247, 3) := by decide +kernel
theorem dX7_mixedParagraphs_87 : decode cX7_mixedParagraphs 87 = .ok (.invokestatic 365, 3) := by decide +kernel
theorem dX7_mixedParagraphs_90 : decode cX7_mixedParagraphs 90 = .ok (.lstore_n 3, 1) := by decide +kernel
theorem dX7_mixedParagraphs_91 : decode cX7_mixedParagraphs 91 = .ok (.iinc 7 1, 3) := by decide +kernel
theorem dX7_mixedParagraphs_94 : decode cX7_mixedParagraphs 94 = .ok (.goto (-27), 3) := by decide +kernel
theorem dX7_mixedParagraphs_97 : decode cX7_mixedParagraphs 97 = .ok (.iinc 5 1, 3) := by decide +kernel
theorem dX7_mixedParagraphs_100 : decode cX7_mixedParagraphs 100 = .ok (.goto (-95), 3) := by decide +kernel
theorem dX7_mixedParagraphs_103 : decode cX7_mixedParagraphs 103 = .ok (.lload_n 3, 1) := by decide +kernel
theorem dX7_mixedParagraphs_104 : decode cX7_mixedParagraphs 104 = .ok (.lreturn, 1) := by decide +kernel
theorem dX7_mixedLines_0 : decode cX7_mixedLines 0 = .ok (.lload_n 1, 1) := by decide +kernel
theorem dX7_mixedLines_1 : decode cX7_mixedLines 1 = .ok (.lstore_n 3, 1) := by decide +kernel
theorem dX7_mixedLines_2 : decode cX7_mixedLines 2 = .ok (.iconst 0, 1) := by decide +kernel
theorem dX7_mixedLines_3 : decode cX7_mixedLines 3 = .ok (.istore 5, 2) := by decide +kernel
theorem dX7_mixedLines_5 : decode cX7_mixedLines 5 = .ok (.iload 5, 2) := by decide +kernel
theorem dX7_mixedLines_7 : decode cX7_mixedLines 7 = .ok (.aload_n 0, 1) := by decide +kernel
theorem dX7_mixedLines_8 : decode cX7_mixedLines 8 = .ok (.getfield 64, 3) := by decide +kernel
theorem dX7_mixedLines_11 : decode cX7_mixedLines 11 = .ok (.invokevirtual 349, 3) := by decide +kernel
theorem dX7_mixedLines_14 : decode cX7_mixedLines 14 = .ok (.if_icmp .ge 38, 3) := by decide +kernel
theorem dX7_mixedLines_17 : decode cX7_mixedLines 17 = .ok (.iconst 0, 1) := by decide +kernel
theorem dX7_mixedLines_18 : decode cX7_mixedLines 18 = .ok (.istore 6, 2) := by decide +kernel
theorem dX7_mixedLines_20 : decode cX7_mixedLines 20 = .ok (.iload 6, 2) := by decide +kernel
theorem dX7_mixedLines_22 : decode cX7_mixedLines 22 = .ok (.bipush 6, 2) := by decide +kernel
theorem dX7_mixedLines_24 : decode cX7_mixedLines 24 = .ok (.if_icmp .ge 22, 3) := by decide +kernel
theorem dX7_mixedLines_27 : decode cX7_mixedLines 27 = .ok (.lload_n 3, 1) := by decide +kernel
theorem dX7_mixedLines_28 : decode cX7_mixedLines 28 = .ok (.aload_n 0, 1) := by decide +kernel
theorem dX7_mixedLines_29 : decode cX7_mixedLines 29 = .ok (.iload 5, 2) := by decide +kernel
theorem dX7_mixedLines_31 : decode cX7_mixedLines 31 = .ok (.iload 6, 2) := by decide +kernel
theorem dX7_mixedLines_33 : decode cX7_mixedLines 33 = .ok (.invokevirtual 172, 3) := by decide +kernel
theorem dX7_mixedLines_36 : decode cX7_mixedLines 36 = .ok (.invokestatic 365, 3) := by decide +kernel
theorem dX7_mixedLines_39 : decode cX7_mixedLines 39 = .ok (.lstore_n 3, 1) := by decide +kernel
theorem dX7_mixedLines_40 : decode cX7_mixedLines 40 = .ok (.iinc 6 1, 3) := by decide +kernel
theorem dX7_mixedLines_43 : decode cX7_mixedLines 43 = .ok (.goto (-23), 3) := by decide +kernel
theorem dX7_mixedLines_46 : decode cX7_mixedLines 46 = .ok (.iinc 5 1, 3) := by decide +kernel
theorem dX7_mixedLines_49 : decode cX7_mixedLines 49 = .ok (.goto (-44), 3) := by decide +kernel
theorem dX7_mixedLines_52 : decode cX7_mixedLines 52 = .ok (.lload_n 3, 1) := by decide +kernel
theorem dX7_mixedLines_53 : decode cX7_mixedLines 53 = .ok (.lreturn, 1) := by decide +kernel
theorem dX7_mixedPages_0 : decode cX7_mixedPages 0 = .ok (.lload_n 1, 1) := by decide +kernel
theorem dX7_mixedPages_1 : decode cX7_mixedPages 1 = .ok (.lstore_n 3, 1) := by decide +kernel
theorem dX7_mixedPages_2 : decode cX7_mixedPages 2 = .ok (.iconst 0, 1) := by decide +kernel
theorem dX7_mixedPages_3 : decode cX7_mixedPages 3 = .ok (.istore 5, 2) := by decide +kernel
theorem dX7_mixedPages_5 : decode cX7_mixedPages 5 = .ok (.iload 5, 2) := by decide +kernel
theorem dX7_mixedPages_7 : decode cX7_mixedPages 7 = .ok (.aload_n 0, 1) := by decide +kernel
theorem dX7_mixedPages_8 : decode cX7_mixedPages 8 = .ok (.getfield 64, 3) := by decide +kernel
theorem dX7_mixedPages_11 : decode cX7_mixedPages 11 = .ok (.invokevirtual 149, 3) := by decide +kernel
theorem dX7_mixedPages_14 : decode cX7_mixedPages 14 = .ok (.if_icmp .ge 38, 3) := by decide +kernel
theorem dX7_mixedPages_17 : decode cX7_mixedPages 17 = .ok (.iconst 0, 1) := by decide +kernel
theorem dX7_mixedPages_18 : decode cX7_mixedPages 18 = .ok (.istore 6, 2) := by decide +kernel
theorem dX7_mixedPages_20 : decode cX7_mixedPages 20 = .ok (.iload 6, 2) := by decide +kernel
theorem dX7_mixedPages_22 : decode cX7_mixedPages 22 = .ok (.bipush 7, 2) := by decide +kernel
theorem dX7_mixedPages_24 : decode cX7_mixedPages 24 = .ok (.if_icmp .ge 22, 3) := by decide +kernel
theorem dX7_mixedPages_27 : decode cX7_mixedPages 27 = .ok (.lload_n 3, 1) := by decide +kernel
theorem dX7_mixedPages_28 : decode cX7_mixedPages 28 = .ok (.aload_n 0, 1) := by decide +kernel
theorem dX7_mixedPages_29 : decode cX7_mixedPages 29 = .ok (.iload 5, 2) := by decide +kernel
theorem dX7_mixedPages_31 : decode cX7_mixedPages 31 = .ok (.iload 6, 2) := by decide +kernel
theorem dX7_mixedPages_33 : decode cX7_mixedPages 33 = .ok (.invokevirtual 165, 3) := by decide +kernel
theorem dX7_mixedPages_36 : decode cX7_mixedPages 36 = .ok (.invokestatic 365, 3) := by decide +kernel
theorem dX7_mixedPages_39 : decode cX7_mixedPages 39 = .ok (.lstore_n 3, 1) := by decide +kernel
theorem dX7_mixedPages_40 : decode cX7_mixedPages 40 = .ok (.iinc 6 1, 3) := by decide +kernel
theorem dX7_mixedPages_43 : decode cX7_mixedPages 43 = .ok (.goto (-23), 3) := by decide +kernel
theorem dX7_mixedPages_46 : decode cX7_mixedPages 46 = .ok (.iinc 5 1, 3) := by decide +kernel
theorem dX7_mixedPages_49 : decode cX7_mixedPages 49 = .ok (.goto (-44), 3) := by decide +kernel
theorem dX7_mixedPages_52 : decode cX7_mixedPages 52 = .ok (.lload_n 3, 1) := by decide +kernel
theorem dX7_mixedPages_53 : decode cX7_mixedPages 53 = .ok (.lreturn, 1) := by decide +kernel
theorem dX7_mixedAnnotations_0 : decode cX7_mixedAnnotations 0 = .ok (.lload_n 1, 1) := by decide +kernel
theorem dX7_mixedAnnotations_1 : decode cX7_mixedAnnotations 1 = .ok (.lstore_n 3, 1) := by decide +kernel
theorem dX7_mixedAnnotations_2 : decode cX7_mixedAnnotations 2 = .ok (.iconst 0, 1) := by decide +kernel
theorem dX7_mixedAnnotations_3 : decode cX7_mixedAnnotations 3 = .ok (.istore 5, 2) := by decide +kernel
theorem dX7_mixedAnnotations_5 : decode cX7_mixedAnnotations 5 = .ok (.iload 5, 2) := by decide +kernel
theorem dX7_mixedAnnotations_7 : decode cX7_mixedAnnotations 7 = .ok (.aload_n 0, 1) := by decide +kernel
theorem dX7_mixedAnnotations_8 : decode cX7_mixedAnnotations 8 = .ok (.getfield 48, 3) := by decide +kernel
theorem dX7_mixedAnnotations_11 : decode cX7_mixedAnnotations 11 = .ok (.invokevirtual 256, 3) := by decide +kernel
theorem dX7_mixedAnnotations_14 : decode cX7_mixedAnnotations 14 = .ok (.if_icmp .ge 38, 3) := by decide +kernel
theorem dX7_mixedAnnotations_17 : decode cX7_mixedAnnotations 17 = .ok (.iconst 0, 1) := by decide +kernel
theorem dX7_mixedAnnotations_18 : decode cX7_mixedAnnotations 18 = .ok (.istore 6, 2) := by decide +kernel
theorem dX7_mixedAnnotations_20 : decode cX7_mixedAnnotations 20 = .ok (.iload 6, 2) := by decide +kernel
theorem dX7_mixedAnnotations_22 : decode cX7_mixedAnnotations 22 = .ok (.bipush 6, 2) := by decide +kernel
theorem dX7_mixedAnnotations_24 : decode cX7_mixedAnnotations 24 = .ok (.if_icmp .ge 22, 3) := by decide +kernel
theorem dX7_mixedAnnotations_27 : decode cX7_mixedAnnotations 27 = .ok (.lload_n 3, 1) := by decide +kernel
theorem dX7_mixedAnnotations_28 : decode cX7_mixedAnnotations 28 = .ok (.aload_n 0, 1) := by decide +kernel
theorem dX7_mixedAnnotations_29 : decode cX7_mixedAnnotations 29 = .ok (.iload 5, 2) := by decide +kernel
theorem dX7_mixedAnnotations_31 : decode cX7_mixedAnnotations 31 = .ok (.iload 6, 2) := by decide +kernel
theorem dX7_mixedAnnotations_33 : decode cX7_mixedAnnotations 33 = .ok (.invokevirtual 267, 3) := by decide +kernel
theorem dX7_mixedAnnotations_36 : decode cX7_mixedAnnotations 36 = .ok (.invokestatic 365, 3) := by decide +kernel
theorem dX7_mixedAnnotations_39 : decode cX7_mixedAnnotations 39 = .ok (.lstore_n 3, 1) := by decide +kernel
theorem dX7_mixedAnnotations_40 : decode cX7_mixedAnnotations 40 = .ok (.iinc 6 1, 3) := by decide +kernel
theorem dX7_mixedAnnotations_43 : decode cX7_mixedAnnotations 43 = .ok (.goto (-23), 3) := by decide +kernel
theorem dX7_mixedAnnotations_46 : decode cX7_mixedAnnotations 46 = .ok (.iinc 5 1, 3) := by decide +kernel
theorem dX7_mixedAnnotations_49 : decode cX7_mixedAnnotations 49 = .ok (.goto (-44), 3) := by decide +kernel
theorem dX7_mixedAnnotations_52 : decode cX7_mixedAnnotations 52 = .ok (.lload_n 3, 1) := by decide +kernel
theorem dX7_mixedAnnotations_53 : decode cX7_mixedAnnotations 53 = .ok (.lreturn, 1) := by decide +kernel
theorem dX7_mixedInput_0 : decode cX7_mixedInput 0 = .ok (.lload_n 1, 1) := by decide +kernel
theorem dX7_mixedInput_1 : decode cX7_mixedInput 1 = .ok (.aload_n 0, 1) := by decide +kernel
theorem dX7_mixedInput_2 : decode cX7_mixedInput 2 = .ok (.getfield 12, 3) := by decide +kernel
theorem dX7_mixedInput_5 : decode cX7_mixedInput 5 = .ok (.invokevirtual 95, 3) := by decide +kernel
theorem dX7_mixedInput_8 : decode cX7_mixedInput 8 = .ok (.invokestatic 365, 3) := by decide +kernel
theorem dX7_mixedInput_11 : decode cX7_mixedInput 11 = .ok (.lstore_n 3, 1) := by decide +kernel
theorem dX7_mixedInput_12 : decode cX7_mixedInput 12 = .ok (.iconst 0, 1) := by decide +kernel
theorem dX7_mixedInput_13 : decode cX7_mixedInput 13 = .ok (.istore 5, 2) := by decide +kernel
theorem dX7_mixedInput_15 : decode cX7_mixedInput 15 = .ok (.iload 5, 2) := by decide +kernel
theorem dX7_mixedInput_17 : decode cX7_mixedInput 17 = .ok (.aload_n 0, 1) := by decide +kernel
theorem dX7_mixedInput_18 : decode cX7_mixedInput 18 = .ok (.getfield 12, 3) := by decide +kernel
theorem dX7_mixedInput_21 : decode cX7_mixedInput 21 = .ok (.invokevirtual 95, 3) := by decide +kernel
theorem dX7_mixedInput_24 : decode cX7_mixedInput 24 = .ok (.if_icmp .ge 23, 3) := by decide +kernel
theorem dX7_mixedInput_27 : decode cX7_mixedInput 27 = .ok (.lload_n 3, 1) := by decide +kernel
theorem dX7_mixedInput_28 : decode cX7_mixedInput 28 = .ok (.aload_n 0, 1) := by decide +kernel
theorem dX7_mixedInput_29 : decode cX7_mixedInput 29 = .ok (.getfield 12, 3) := by decide +kernel
theorem dX7_mixedInput_32 : decode cX7_mixedInput 32 = .ok (.iload 5, 2) := by decide +kernel
theorem dX7_mixedInput_34 : decode cX7_mixedInput 34 = .ok (.invokevirtual 387, 3) := by decide +kernel
theorem dX7_mixedInput_37 : decode cX7_mixedInput 37 = .ok (.invokestatic 365, 3) := by decide +kernel
theorem dX7_mixedInput_40 : decode cX7_mixedInput 40 = .ok (.lstore_n 3, 1) := by decide +kernel
theorem dX7_mixedInput_41 : decode cX7_mixedInput 41 = .ok (.iinc 5 1, 3) := by decide +kernel
theorem dX7_mixedInput_44 : decode cX7_mixedInput 44 = .ok (.goto (-29), 3) := by decide +kernel
theorem dX7_mixedInput_47 : decode cX7_mixedInput 47 = .ok (.lload_n 3, 1) := by decide +kernel
theorem dX7_mixedInput_48 : decode cX7_mixedInput 48 = .ok (.lreturn, 1) := by decide +kernel
theorem dX7_countOf_0 : decode cX7_countOf 0 = .ok (.iload_n 1, 1) := by decide +kernel
theorem dX7_countOf_1 : decode cX7_countOf 1 = .ok (.tableswitch 154 0 10 #[59, 67, 78, 86, 94, 102, 107, 122, 130, 138, 146], 59) := by decide +kernel
theorem dX7_countOf_60 : decode cX7_countOf 60 = .ok (.aload_n 0, 1) := by decide +kernel
theorem dX7_countOf_61 : decode cX7_countOf 61 = .ok (.getfield 41, 3) := by decide +kernel
theorem dX7_countOf_64 : decode cX7_countOf 64 = .ok (.invokevirtual 122, 3) := by decide +kernel
theorem dX7_countOf_67 : decode cX7_countOf 67 = .ok (.ireturn, 1) := by decide +kernel
theorem dX7_countOf_68 : decode cX7_countOf 68 = .ok (.aload_n 0, 1) := by decide +kernel
theorem dX7_countOf_69 : decode cX7_countOf 69 = .ok (.getfield 41, 3) := by decide +kernel
theorem dX7_countOf_72 : decode cX7_countOf 72 = .ok (.invokevirtual 230, 3) := by decide +kernel
theorem dX7_countOf_75 : decode cX7_countOf 75 = .ok (.invokevirtual 390, 3) := by decide +kernel
theorem dX7_countOf_78 : decode cX7_countOf 78 = .ok (.ireturn, 1) := by decide +kernel
theorem dX7_countOf_79 : decode cX7_countOf 79 = .ok (.aload_n 0, 1) := by decide +kernel
theorem dX7_countOf_80 : decode cX7_countOf 80 = .ok (.getfield 41, 3) := by decide +kernel
theorem dX7_countOf_83 : decode cX7_countOf 83 = .ok (.invokevirtual 393, 3) := by decide +kernel
theorem dX7_countOf_86 : decode cX7_countOf 86 = .ok (.ireturn, 1) := by decide +kernel
theorem dX7_countOf_87 : decode cX7_countOf 87 = .ok (.aload_n 0, 1) := by decide +kernel
theorem dX7_countOf_88 : decode cX7_countOf 88 = .ok (.getfield 64, 3) := by decide +kernel
theorem dX7_countOf_91 : decode cX7_countOf 91 = .ok (.invokevirtual 349, 3) := by decide +kernel
theorem dX7_countOf_94 : decode cX7_countOf 94 = .ok (.ireturn, 1) := by decide +kernel
theorem dX7_countOf_95 : decode cX7_countOf 95 = .ok (.aload_n 0, 1) := by decide +kernel
theorem dX7_countOf_96 : decode cX7_countOf 96 = .ok (.getfield 64, 3) := by decide +kernel
theorem dX7_countOf_99 : decode cX7_countOf 99 = .ok (.invokevirtual 149, 3) := by decide +kernel
theorem dX7_countOf_102 : decode cX7_countOf 102 = .ok (.ireturn, 1) := by decide +kernel
theorem dX7_countOf_103 : decode cX7_countOf 103 = .ok (.aload_n 0, 1) := by decide +kernel
theorem dX7_countOf_104 : decode cX7_countOf 104 = .ok (.invokevirtual 207, 3) := by decide +kernel
theorem dX7_countOf_107 : decode cX7_countOf 107 = .ok (.ireturn, 1) := by decide +kernel
theorem dX7_countOf_108 : decode cX7_countOf 108 = .ok (.aload_n 0, 1) := by decide +kernel
theorem dX7_countOf_109 : decode cX7_countOf 109 = .ok (.getfield 41, 3) := by decide +kernel
theorem dX7_countOf_112 : decode cX7_countOf 112 = .ok (.aload_n 0, 1) := by decide +kernel
theorem dX7_countOf_113 : decode cX7_countOf 113 = .ok (.getfield 48, 3) := by decide +kernel
theorem dX7_countOf_116 : decode cX7_countOf 116 = .ok (.invokevirtual 352, 3) := by decide +kernel
theorem dX7_countOf_119 : decode cX7_countOf 119 = .ok (.invokevirtual 235, 3) := by decide +kernel
theorem dX7_countOf_122 : decode cX7_countOf 122 = .ok (.ireturn, 1) := by decide +kernel
theorem dX7_countOf_123 : decode cX7_countOf 123 = .ok (.aload_n 0, 1) := by decide +kernel
theorem dX7_countOf_124 : decode cX7_countOf 124 = .ok (.getfield 48, 3) := by decide +kernel
theorem dX7_countOf_127 : decode cX7_countOf 127 = .ok (.invokevirtual 256, 3) := by decide +kernel
theorem dX7_countOf_130 : decode cX7_countOf 130 = .ok (.ireturn, 1) := by decide +kernel
theorem dX7_countOf_131 : decode cX7_countOf 131 = .ok (.aload_n 0, 1) := by decide +kernel
theorem dX7_countOf_132 : decode cX7_countOf 132 = .ok (.getfield 48, 3) := by decide +kernel
theorem dX7_countOf_135 : decode cX7_countOf 135 = .ok (.invokevirtual 396, 3) := by decide +kernel
theorem dX7_countOf_138 : decode cX7_countOf 138 = .ok (.ireturn, 1) := by decide +kernel
theorem dX7_countOf_139 : decode cX7_countOf 139 = .ok (.aload_n 0, 1) := by decide +kernel
theorem dX7_countOf_140 : decode cX7_countOf 140 = .ok (.getfield 48, 3) := by decide +kernel
theorem dX7_countOf_143 : decode cX7_countOf 143 = .ok (.invokevirtual 216, 3) := by decide +kernel
theorem dX7_countOf_146 : decode cX7_countOf 146 = .ok (.ireturn, 1) := by decide +kernel
theorem dX7_countOf_147 : decode cX7_countOf 147 = .ok (.aload_n 0, 1) := by decide +kernel
theorem dX7_countOf_148 : decode cX7_countOf 148 = .ok (.getfield 55, 3) := by decide +kernel
theorem dX7_countOf_151 : decode cX7_countOf 151 = .ok (.invokevirtual 342, 3) := by decide +kernel
theorem dX7_countOf_154 : decode cX7_countOf 154 = .ok (.ireturn, 1) := by decide +kernel
theorem dX7_countOf_155 : decode cX7_countOf 155 = .ok (.aload_n 0, 1) := by decide +kernel
theorem dX7_countOf_156 : decode cX7_countOf 156 = .ok (.invokevirtual 399, 3) := by decide +kernel
theorem dX7_countOf_159 : decode cX7_countOf 159 = .ok (.ireturn, 1) := by decide +kernel
theorem dX7_thousandthsRead_0 : decode cX7_thousandthsRead 0 = .ok (.aload_n 0, 1) := by decide +kernel
theorem dX7_thousandthsRead_1 : decode cX7_thousandthsRead 1 = .ok (.getfield 41, 3) := by decide +kernel
theorem dX7_thousandthsRead_4 : decode cX7_thousandthsRead 4 = .ok (.invokevirtual 393, 3) := by decide +kernel
theorem dX7_thousandthsRead_7 : decode cX7_thousandthsRead 7 = .ok (.istore_n 1, 1) := by decide +kernel
theorem dX7_thousandthsRead_8 : decode cX7_thousandthsRead 8 = .ok (.iload_n 1, 1) := by decide +kernel
theorem dX7_thousandthsRead_9 : decode cX7_thousandthsRead 9 = .ok (.ifCond .le 26, 3) := by decide +kernel
theorem dX7_thousandthsRead_12 : decode cX7_thousandthsRead 12 = .ok (.aload_n 0, 1) := by decide +kernel
theorem dX7_thousandthsRead_13 : decode cX7_thousandthsRead 13 = .ok (.getfield 41, 3) := by decide +kernel
theorem dX7_thousandthsRead_16 : decode cX7_thousandthsRead 16 = .ok (.aload_n 0, 1) := by decide +kernel
theorem dX7_thousandthsRead_17 : decode cX7_thousandthsRead 17 = .ok (.getfield 48, 3) := by decide +kernel
theorem dX7_thousandthsRead_20 : decode cX7_thousandthsRead 20 = .ok (.invokevirtual 352, 3) := by decide +kernel
theorem dX7_thousandthsRead_23 : decode cX7_thousandthsRead 23 = .ok (.invokevirtual 402, 3) := by decide +kernel
theorem dX7_thousandthsRead_26 : decode cX7_thousandthsRead 26 = .ok (.sipush 1000, 3) := by decide +kernel
theorem dX7_thousandthsRead_29 : decode cX7_thousandthsRead 29 = .ok (.imul, 1) := by decide +kernel
theorem dX7_thousandthsRead_30 : decode cX7_thousandthsRead 30 = .ok (.iload_n 1, 1) := by decide +kernel
theorem dX7_thousandthsRead_31 : decode cX7_thousandthsRead 31 = .ok (.idiv, 1) := by decide +kernel
theorem dX7_thousandthsRead_32 : decode cX7_thousandthsRead 32 = .ok (.goto 4, 3) := by decide +kernel
theorem dX7_thousandthsRead_35 : decode cX7_thousandthsRead 35 = .ok (.iconst 0, 1) := by decide +kernel
theorem dX7_thousandthsRead_36 : decode cX7_thousandthsRead 36 = .ok (.ireturn, 1) := by decide +kernel
theorem dX7_paragraphProperty_0 : decode cX7_paragraphProperty 0 = .ok (.iload_n 2, 1) := by decide +kernel
theorem dX7_paragraphProperty_1 : decode cX7_paragraphProperty 1 = .ok (.tableswitch 67 0 3 #[31, 40, 49, 58], 31) := by decide +kernel
theorem dX7_paragraphProperty_32 : decode cX7_paragraphProperty 32 = .ok (.aload_n 0, 1) := by decide +kernel
theorem dX7_paragraphProperty_33 : decode cX7_paragraphProperty 33 = .ok (.getfield 41, 3) := by decide +kernel
theorem dX7_paragraphProperty_36 : decode cX7_paragraphProperty 36 = .ok (.iload_n 1, 1) := by decide +kernel
theorem dX7_paragraphProperty_37 : decode cX7_paragraphProperty 37 = .ok (.invokevirtual 405, 3) := by decide +kernel
theorem dX7_paragraphProperty_40 : decode cX7_paragraphProperty 40 = .ok (.ireturn, 1) := by decide +kernel
theorem dX7_paragraphProperty_41 : decode cX7_paragraphProperty 41 = .ok (.aload_n 0, 1) := by decide +kernel
theorem dX7_paragraphProperty_42 : decode cX7_paragraphProperty 42 = .ok (.getfield 41, 3) := by decide +kernel
theorem dX7_paragraphProperty_45 : decode cX7_paragraphProperty 45 = .ok (.iload_n 1, 1) := by decide +kernel
theorem dX7_paragraphProperty_46 : decode cX7_paragraphProperty 46 = .ok (.invokevirtual 273, 3) := by decide +kernel
theorem dX7_paragraphProperty_49 : decode cX7_paragraphProperty 49 = .ok (.ireturn, 1) := by decide +kernel
theorem dX7_paragraphProperty_50 : decode cX7_paragraphProperty 50 = .ok (.aload_n 0, 1) := by decide +kernel
theorem dX7_paragraphProperty_51 : decode cX7_paragraphProperty 51 = .ok (.getfield 41, 3) := by decide +kernel
theorem dX7_paragraphProperty_54 : decode cX7_paragraphProperty 54 = .ok (.iload_n 1, 1) := by decide +kernel
theorem dX7_paragraphProperty_55 : decode cX7_paragraphProperty 55 = .ok (.invokevirtual 249, 3) := by decide +kernel
theorem dX7_paragraphProperty_58 : decode cX7_paragraphProperty 58 = .ok (.ireturn, 1) := by decide +kernel
theorem dX7_paragraphProperty_59 : decode cX7_paragraphProperty 59 = .ok (.aload_n 0, 1) := by decide +kernel
theorem dX7_paragraphProperty_60 : decode cX7_paragraphProperty 60 = .ok (.getfield 64, 3) := by decide +kernel
theorem dX7_paragraphProperty_63 : decode cX7_paragraphProperty 63 = .ok (.iload_n 1, 1) := by decide +kernel
theorem dX7_paragraphProperty_64 : decode cX7_paragraphProperty 64 = .ok (.invokevirtual 408, 3) := by decide +kernel
theorem dX7_paragraphProperty_67 : decode cX7_paragraphProperty 67 = .ok (.ireturn, 1) := by decide +kernel
theorem dX7_paragraphProperty_68 : decode cX7_paragraphProperty 68 = .ok (.aload_n 0, 1) := by decide +kernel
theorem dX7_paragraphProperty_69 : decode cX7_paragraphProperty 69 = .ok (.getfield 64, 3) := by decide +kernel
theorem dX7_paragraphProperty_72 : decode cX7_paragraphProperty 72 = .ok (.aload_n 0, 1) := by decide +kernel
theorem dX7_paragraphProperty_73 : decode cX7_paragraphProperty 73 = .ok (.getfield 41, 3) := by decide +kernel
theorem dX7_paragraphProperty_76 : decode cX7_paragraphProperty 76 = .ok (.iload_n 1, 1) := by decide +kernel
theorem dX7_paragraphProperty_77 : decode cX7_paragraphProperty 77 = .ok (.invokevirtual 192, 3) := by decide +kernel
theorem dX7_paragraphProperty_80 : decode cX7_paragraphProperty 80 = .ok (.invokevirtual 195, 3) := by decide +kernel
theorem dX7_paragraphProperty_83 : decode cX7_paragraphProperty 83 = .ok (.ireturn, 1) := by decide +kernel
theorem dX7_lineProperty_0 : decode cX7_lineProperty 0 = .ok (.aload_n 0, 1) := by decide +kernel
theorem dX7_lineProperty_1 : decode cX7_lineProperty 1 = .ok (.getfield 64, 3) := by decide +kernel
theorem dX7_lineProperty_4 : decode cX7_lineProperty 4 = .ok (.iload_n 1, 1) := by decide +kernel
theorem dX7_lineProperty_5 : decode cX7_lineProperty 5 = .ok (.invokevirtual 411, 3) := by decide +kernel
theorem dX7_lineProperty_8 : decode cX7_lineProperty 8 = .ok (.istore_n 3, 1) := by decide +kernel
theorem dX7_lineProperty_9 : decode cX7_lineProperty 9 = .ok (.iload_n 2, 1) := by decide +kernel
theorem dX7_lineProperty_10 : decode cX7_lineProperty 10 = .ok (.tableswitch 92 0 4 #[34, 36, 54, 74, 83], 34) := by decide +kernel
theorem dX7_lineProperty_44 : decode cX7_lineProperty 44 = .ok (.iload_n 3, 1) := by decide +kernel
theorem dX7_lineProperty_45 : decode cX7_lineProperty 45 = .ok (.ireturn, 1) := by decide +kernel
theorem dX7_lineProperty_46 : decode cX7_lineProperty 46 = .ok (.aload_n 0, 1) := by decide +kernel
theorem dX7_lineProperty_47 : decode cX7_lineProperty 47 = .ok (.getfield 64, 3) := by decide +kernel
theorem dX7_lineProperty_50 : decode cX7_lineProperty 50 = .ok (.iload_n 1, 1) := by decide +kernel
theorem dX7_lineProperty_51 : decode cX7_lineProperty 51 = .ok (.invokevirtual 414, 3) := by decide +kernel
theorem dX7_lineProperty_54 : decode cX7_lineProperty 54 = .ok (.aload_n 0, 1) := by decide +kernel
theorem dX7_lineProperty_55 : decode cX7_lineProperty 55 = .ok (.getfield 41, 3) := by decide +kernel
theorem dX7_lineProperty_58 : decode cX7_lineProperty 58 = .ok (.iload_n 3, 1) := by decide +kernel
theorem dX7_lineProperty_59 : decode cX7_lineProperty 59 = .ok (.invokevirtual 417, 3) := by decide +kernel
theorem dX7_lineProperty_62 : decode cX7_lineProperty 62 = .ok (.isub, 1) := by decide +kernel
theorem dX7_lineProperty_63 : decode cX7_lineProperty 63 = .ok (.ireturn, 1) := by decide +kernel
theorem dX7_lineProperty_64 : decode cX7_lineProperty 64 = .ok (.aload_n 0, 1) := by decide +kernel
theorem dX7_lineProperty_65 : decode cX7_lineProperty 65 = .ok (.getfield 64, 3) := by decide +kernel
theorem dX7_lineProperty_68 : decode cX7_lineProperty 68 = .ok (.iload_n 1, 1) := by decide +kernel
theorem dX7_lineProperty_69 : decode cX7_lineProperty 69 = .ok (.iconst 1, 1) := by decide +kernel
theorem dX7_lineProperty_70 : decode cX7_lineProperty 70 = .ok (.iadd, 1) := by decide +kernel
theorem dX7_lineProperty_71 : decode cX7_lineProperty 71 = .ok (.invokevirtual 414, 3) := by decide +kernel
theorem dX7_lineProperty_74 : decode cX7_lineProperty 74 = .ok (.aload_n 0, 1) := by decide +kernel
theorem dX7_lineProperty_75 : decode cX7_lineProperty 75 = .ok (.getfield 64, 3) := by decide +kernel
theorem dX7_lineProperty_78 : decode cX7_lineProperty 78 = .ok (.iload_n 1, 1) := by decide +kernel
theorem dX7_lineProperty_79 : decode cX7_lineProperty 79 = .ok (.invokevirtual 414, 3) := by decide +kernel
theorem dX7_lineProperty_82 : decode cX7_lineProperty 82 = .ok (.isub, 1) := by decide +kernel
theorem dX7_lineProperty_83 : decode cX7_lineProperty 83 = .ok (.ireturn, 1) := by decide +kernel
theorem dX7_lineProperty_84 : decode cX7_lineProperty 84 = .ok (.aload_n 0, 1) := by decide +kernel
theorem dX7_lineProperty_85 : decode cX7_lineProperty 85 = .ok (.getfield 64, 3) := by decide +kernel
theorem dX7_lineProperty_88 : decode cX7_lineProperty 88 = .ok (.iload_n 1, 1) := by decide +kernel
theorem dX7_lineProperty_89 : decode cX7_lineProperty 89 = .ok (.invokevirtual 420, 3) := by decide +kernel
theorem dX7_lineProperty_92 : decode cX7_lineProperty 92 = .ok (.ireturn, 1) := by decide +kernel
theorem dX7_lineProperty_93 : decode cX7_lineProperty 93 = .ok (.aload_n 0, 1) := by decide +kernel
theorem dX7_lineProperty_94 : decode cX7_lineProperty 94 = .ok (.getfield 64, 3) := by decide +kernel
theorem dX7_lineProperty_97 : decode cX7_lineProperty 97 = .ok (.iload_n 1, 1) := by decide +kernel
theorem dX7_lineProperty_98 : decode cX7_lineProperty 98 = .ok (.invokevirtual 423, 3) := by decide +kernel
theorem dX7_lineProperty_101 : decode cX7_lineProperty 101 = .ok (.ireturn, 1) := by decide +kernel
theorem dX7_lineProperty_102 : decode cX7_lineProperty 102 = .ok (.aload_n 0, 1) := by decide +kernel
theorem dX7_lineProperty_103 : decode cX7_lineProperty 103 = .ok (.getfield 64, 3) := by decide +kernel
theorem dX7_lineProperty_106 : decode cX7_lineProperty 106 = .ok (.iload_n 1, 1) := by decide +kernel
theorem dX7_lineProperty_107 : decode cX7_lineProperty 107 = .ok (.invokevirtual 426, 3) := by decide +kernel
theorem dX7_lineProperty_110 : decode cX7_lineProperty 110 = .ok (.ireturn, 1) := by decide +kernel
theorem dX7_pageProperty_0 : decode cX7_pageProperty 0 = .ok (.iload_n 2, 1) := by decide +kernel
theorem dX7_pageProperty_1 : decode cX7_pageProperty 1 = .ok (.tableswitch 140 0 5 #[39, 55, 90, 110, 119, 128], 39) := by decide +kernel
theorem dX7_pageProperty_40 : decode cX7_pageProperty 40 = .ok (.aload_n 0, 1) := by decide +kernel
theorem dX7_pageProperty_41 : decode cX7_pageProperty 41 = .ok (.getfield 41, 3) := by decide +kernel
theorem dX7_pageProperty_44 : decode cX7_pageProperty 44 = .ok (.aload_n 0, 1) := by decide +kernel
theorem dX7_pageProperty_45 : decode cX7_pageProperty 45 = .ok (.getfield 64, 3) := by decide +kernel
theorem dX7_pageProperty_48 : decode cX7_pageProperty 48 = .ok (.iload_n 1, 1) := by decide +kernel
theorem dX7_pageProperty_49 : decode cX7_pageProperty 49 = .ok (.invokevirtual 210, 3) := by decide +kernel
theorem dX7_pageProperty_52 : decode cX7_pageProperty 52 = .ok (.invokevirtual 235, 3) := by decide +kernel
theorem dX7_pageProperty_55 : decode cX7_pageProperty 55 = .ok (.ireturn, 1) := by decide +kernel
theorem dX7_pageProperty_56 : decode cX7_pageProperty 56 = .ok (.iload_n 1, 1) := by decide +kernel
theorem dX7_pageProperty_57 : decode cX7_pageProperty 57 = .ok (.iconst 1, 1) := by decide +kernel
theorem dX7_pageProperty_58 : decode cX7_pageProperty 58 = .ok (.iadd, 1) := by decide +kernel
theorem dX7_pageProperty_59 : decode cX7_pageProperty 59 = .ok (.aload_n 0, 1) := by decide +kernel
theorem dX7_pageProperty_60 : decode cX7_pageProperty 60 = .ok (.getfield 64, 3) := by decide +kernel
theorem dX7_pageProperty_63 : decode cX7_pageProperty 63 = .ok (.invokevirtual 149, 3) := by decide +kernel
theorem dX7_pageProperty_66 : decode cX7_pageProperty 66 = .ok (.if_icmp .ge 23, 3) := by decide +kernel
theorem dX7_pageProperty_69 : decode cX7_pageProperty 69 = .ok (.aload_n 0, 1) := by decide +kernel
theorem dX7_pageProperty_70 : decode cX7_pageProperty 70 = .ok (.getfield 41, 3) := by decide +kernel
theorem dX7_pageProperty_73 : decode cX7_pageProperty 73 = .ok (.aload_n 0, 1) := by decide +kernel
theorem dX7_pageProperty_74 : decode cX7_pageProperty 74 = .ok (.getfield 64, 3) := by decide +kernel
theorem dX7_pageProperty_77 : decode cX7_pageProperty 77 = .ok (.iload_n 1, 1) := by decide +kernel
theorem dX7_pageProperty_78 : decode cX7_pageProperty 78 = .ok (.iconst 1, 1) := by decide +kernel
theorem dX7_pageProperty_79 : decode cX7_pageProperty 79 = .ok (.iadd, 1) := by decide +kernel
theorem dX7_pageProperty_80 : decode cX7_pageProperty 80 = .ok (.invokevirtual 210, 3) := by decide +kernel
theorem dX7_pageProperty_83 : decode cX7_pageProperty 83 = .ok (.invokevirtual 235, 3) := by decide +kernel
theorem dX7_pageProperty_86 : decode cX7_pageProperty 86 = .ok (.goto 4, 3) := by decide +kernel
theorem dX7_pageProperty_89 : decode cX7_pageProperty 89 = .ok (.iconst (-1), 1) := by decide +kernel
theorem dX7_pageProperty_90 : decode cX7_pageProperty 90 = .ok (.ireturn, 1) := by decide +kernel
theorem dX7_pageProperty_91 : decode cX7_pageProperty 91 = .ok (.aload_n 0, 1) := by decide +kernel
theorem dX7_pageProperty_92 : decode cX7_pageProperty 92 = .ok (.getfield 64, 3) := by decide +kernel
theorem dX7_pageProperty_95 : decode cX7_pageProperty 95 = .ok (.iload_n 1, 1) := by decide +kernel
theorem dX7_pageProperty_96 : decode cX7_pageProperty 96 = .ok (.iconst 1, 1) := by decide +kernel
theorem dX7_pageProperty_97 : decode cX7_pageProperty 97 = .ok (.iadd, 1) := by decide +kernel
theorem dX7_pageProperty_98 : decode cX7_pageProperty 98 = .ok (.invokevirtual 429, 3) := by decide +kernel
theorem dX7_pageProperty_101 : decode cX7_pageProperty 101 = .ok (.aload_n 0, 1) := by decide +kernel
theorem dX7_pageProperty_102 : decode cX7_pageProperty 102 = .ok (.getfield 64, 3) := by decide +kernel
theorem dX7_pageProperty_105 : decode cX7_pageProperty 105 = .ok (.iload_n 1, 1) := by decide +kernel
theorem dX7_pageProperty_106 : decode cX7_pageProperty 106 = .ok (.invokevirtual 429, 3) := by decide +kernel
theorem dX7_pageProperty_109 : decode cX7_pageProperty 109 = .ok (.isub, 1) := by decide +kernel
theorem dX7_pageProperty_110 : decode cX7_pageProperty 110 = .ok (.ireturn, 1) := by decide +kernel
theorem dX7_pageProperty_111 : decode cX7_pageProperty 111 = .ok (.aload_n 0, 1) := by decide +kernel
theorem dX7_pageProperty_112 : decode cX7_pageProperty 112 = .ok (.getfield 64, 3) := by decide +kernel
theorem dX7_pageProperty_115 : decode cX7_pageProperty 115 = .ok (.iload_n 1, 1) := by decide +kernel
theorem dX7_pageProperty_116 : decode cX7_pageProperty 116 = .ok (.invokevirtual 357, 3) := by decide +kernel
theorem dX7_pageProperty_119 : decode cX7_pageProperty 119 = .ok (.ireturn, 1) := by decide +kernel
theorem dX7_pageProperty_120 : decode cX7_pageProperty 120 = .ok (.aload_n 0, 1) := by decide +kernel
theorem dX7_pageProperty_121 : decode cX7_pageProperty 121 = .ok (.getfield 64, 3) := by decide +kernel
theorem dX7_pageProperty_124 : decode cX7_pageProperty 124 = .ok (.iload_n 1, 1) := by decide +kernel
theorem dX7_pageProperty_125 : decode cX7_pageProperty 125 = .ok (.invokevirtual 360, 3) := by decide +kernel
theorem dX7_pageProperty_128 : decode cX7_pageProperty 128 = .ok (.ireturn, 1) := by decide +kernel
theorem dX7_pageProperty_129 : decode cX7_pageProperty 129 = .ok (.aload_n 0, 1) := by decide +kernel
theorem dX7_pageProperty_130 : decode cX7_pageProperty 130 = .ok (.getfield 64, 3) := by decide +kernel
theorem dX7_pageProperty_133 : decode cX7_pageProperty 133 = .ok (.iload_n 1, 1) := by decide +kernel
theorem dX7_pageProperty_134 : decode cX7_pageProperty 134 = .ok (.invokevirtual 432, 3) := by decide +kernel
theorem dX7_pageProperty_137 : decode cX7_pageProperty 137 = .ok (.invokestatic 435, 3) := by decide +kernel
theorem dX7_pageProperty_140 : decode cX7_pageProperty 140 = .ok (.ireturn, 1) := by decide +kernel
theorem dX7_pageProperty_141 : decode cX7_pageProperty 141 = .ok (.aload_n 0, 1) := by decide +kernel
theorem dX7_pageProperty_142 : decode cX7_pageProperty 142 = .ok (.getfield 48, 3) := by decide +kernel
theorem dX7_pageProperty_145 : decode cX7_pageProperty 145 = .ok (.aload_n 0, 1) := by decide +kernel
theorem dX7_pageProperty_146 : decode cX7_pageProperty 146 = .ok (.getfield 64, 3) := by decide +kernel
theorem dX7_pageProperty_149 : decode cX7_pageProperty 149 = .ok (.iload_n 1, 1) := by decide +kernel
theorem dX7_pageProperty_150 : decode cX7_pageProperty 150 = .ok (.invokevirtual 210, 3) := by decide +kernel
theorem dX7_pageProperty_153 : decode cX7_pageProperty 153 = .ok (.aload_n 0, 1) := by decide +kernel
theorem dX7_pageProperty_154 : decode cX7_pageProperty 154 = .ok (.getfield 64, 3) := by decide +kernel
theorem dX7_pageProperty_157 : decode cX7_pageProperty 157 = .ok (.iload_n 1, 1) := by decide +kernel
theorem dX7_pageProperty_158 : decode cX7_pageProperty 158 = .ok (.iconst 1, 1) := by decide +kernel
theorem dX7_pageProperty_159 : decode cX7_pageProperty 159 = .ok (.iadd, 1) := by decide +kernel
theorem dX7_pageProperty_160 : decode cX7_pageProperty 160 = .ok (.invokevirtual 210, 3) := by decide +kernel
theorem dX7_pageProperty_163 : decode cX7_pageProperty 163 = .ok (.invokevirtual 440, 3) := by decide +kernel
theorem dX7_pageProperty_166 : decode cX7_pageProperty 166 = .ok (.ireturn, 1) := by decide +kernel
theorem dX7_annotationProperty_0 : decode cX7_annotationProperty 0 = .ok (.aload_n 0, 1) := by decide +kernel
theorem dX7_annotationProperty_1 : decode cX7_annotationProperty 1 = .ok (.getfield 48, 3) := by decide +kernel
theorem dX7_annotationProperty_4 : decode cX7_annotationProperty 4 = .ok (.iload_n 1, 1) := by decide +kernel
theorem dX7_annotationProperty_5 : decode cX7_annotationProperty 5 = .ok (.invokevirtual 443, 3) := by decide +kernel
theorem dX7_annotationProperty_8 : decode cX7_annotationProperty 8 = .ok (.istore_n 3, 1) := by decide +kernel
theorem dX7_annotationProperty_9 : decode cX7_annotationProperty 9 = .ok (.aload_n 0, 1) := by decide +kernel
theorem dX7_annotationProperty_10 : decode cX7_annotationProperty 10 = .ok (.getfield 41, 3) := by decide +kernel
theorem dX7_annotationProperty_13 : decode cX7_annotationProperty 13 = .ok (.iload_n 3, 1) := by decide +kernel
theorem dX7_annotationProperty_14 : decode cX7_annotationProperty 14 = .ok (.invokevirtual 446, 3) := by decide +kernel
theorem dX7_annotationProperty_17 : decode cX7_annotationProperty 17 = .ok (.istore 4, 2) := by decide +kernel
theorem dX7_annotationProperty_19 : decode cX7_annotationProperty 19 = .ok (.iload_n 2, 1) := by decide +kernel
theorem dX7_annotationProperty_20 : decode cX7_annotationProperty 20 = .ok (.tableswitch 96 0 4 #[36, 39, 51, 70, 79], 36) := by decide +kernel
theorem dX7_annotationProperty_56 : decode cX7_annotationProperty 56 = .ok (.iload 4, 2) := by decide +kernel
theorem dX7_annotationProperty_58 : decode cX7_annotationProperty 58 = .ok (.ireturn, 1) := by decide +kernel
theorem dX7_annotationProperty_59 : decode cX7_annotationProperty 59 = .ok (.iload_n 3, 1) := by decide +kernel
theorem dX7_annotationProperty_60 : decode cX7_annotationProperty 60 = .ok (.aload_n 0, 1) := by decide +kernel
theorem dX7_annotationProperty_61 : decode cX7_annotationProperty 61 = .ok (.getfield 41, 3) := by decide +kernel
theorem dX7_annotationProperty_64 : decode cX7_annotationProperty 64 = .ok (.iload 4, 2) := by decide +kernel
theorem dX7_annotationProperty_66 : decode cX7_annotationProperty 66 = .ok (.invokevirtual 192, 3) := by decide +kernel
theorem dX7_annotationProperty_69 : decode cX7_annotationProperty 69 = .ok (.isub, 1) := by decide +kernel
theorem dX7_annotationProperty_70 : decode cX7_annotationProperty 70 = .ok (.ireturn, 1) := by decide +kernel
theorem dX7_annotationProperty_71 : decode cX7_annotationProperty 71 = .ok (.aload_n 0, 1) := by decide +kernel
theorem dX7_annotationProperty_72 : decode cX7_annotationProperty 72 = .ok (.getfield 48, 3) := by decide +kernel
theorem dX7_annotationProperty_75 : decode cX7_annotationProperty 75 = .ok (.iload_n 1, 1) := by decide +kernel
theorem dX7_annotationProperty_76 : decode cX7_annotationProperty 76 = .ok (.invokevirtual 449, 3) := by decide +kernel
theorem dX7_annotationProperty_79 : decode cX7_annotationProperty 79 = .ok (.aload_n 0, 1) := by decide +kernel
theorem dX7_annotationProperty_80 : decode cX7_annotationProperty 80 = .ok (.getfield 41, 3) := by decide +kernel
theorem dX7_annotationProperty_83 : decode cX7_annotationProperty 83 = .ok (.iload 4, 2) := by decide +kernel
theorem dX7_annotationProperty_85 : decode cX7_annotationProperty 85 = .ok (.invokevirtual 192, 3) := by decide +kernel
theorem dX7_annotationProperty_88 : decode cX7_annotationProperty 88 = .ok (.isub, 1) := by decide +kernel
theorem dX7_annotationProperty_89 : decode cX7_annotationProperty 89 = .ok (.ireturn, 1) := by decide +kernel
theorem dX7_annotationProperty_90 : decode cX7_annotationProperty 90 = .ok (.aload_n 0, 1) := by decide +kernel
theorem dX7_annotationProperty_91 : decode cX7_annotationProperty 91 = .ok (.getfield 48, 3) := by decide +kernel
theorem dX7_annotationProperty_94 : decode cX7_annotationProperty 94 = .ok (.iload_n 1, 1) := by decide +kernel
theorem dX7_annotationProperty_95 : decode cX7_annotationProperty 95 = .ok (.invokevirtual 452, 3) := by decide +kernel
theorem dX7_annotationProperty_98 : decode cX7_annotationProperty 98 = .ok (.ireturn, 1) := by decide +kernel
theorem dX7_annotationProperty_99 : decode cX7_annotationProperty 99 = .ok (.aload_n 0, 1) := by decide +kernel
theorem dX7_annotationProperty_100 : decode cX7_annotationProperty 100 = .ok (.getfield 48, 3) := by decide +kernel
theorem dX7_annotationProperty_103 : decode cX7_annotationProperty 103 = .ok (.iload_n 1, 1) := by decide +kernel
theorem dX7_annotationProperty_104 : decode cX7_annotationProperty 104 = .ok (.invokevirtual 455, 3) := by decide +kernel
theorem dX7_annotationProperty_107 : decode cX7_annotationProperty 107 = .ok (.ifCond .eq 7, 3) := by decide +kernel
theorem dX7_annotationProperty_110 : decode cX7_annotationProperty 110 = .ok (.iconst 1, 1) := by decide +kernel
theorem dX7_annotationProperty_111 : decode cX7_annotationProperty 111 = .ok (.goto 4, 3) := by decide +kernel
theorem dX7_annotationProperty_114 : decode cX7_annotationProperty 114 = .ok (.iconst 0, 1) := by decide +kernel
theorem dX7_annotationProperty_115 : decode cX7_annotationProperty 115 = .ok (.ireturn, 1) := by decide +kernel
theorem dX7_annotationProperty_116 : decode cX7_annotationProperty 116 = .ok (.aload_n 0, 1) := by decide +kernel
theorem dX7_annotationProperty_117 : decode cX7_annotationProperty 117 = .ok (.getfield 48, 3) := by decide +kernel
theorem dX7_annotationProperty_120 : decode cX7_annotationProperty 120 = .ok (.iload_n 1, 1) := by decide +kernel
theorem dX7_annotationProperty_121 : decode cX7_annotationProperty 121 = .ok (.invokevirtual 455, 3) := by decide +kernel
theorem dX7_annotationProperty_124 : decode cX7_annotationProperty 124 = .ok (.ifCond .eq 7, 3) := by decide +kernel
theorem dX7_annotationProperty_127 : decode cX7_annotationProperty 127 = .ok (.iconst (-1), 1) := by decide +kernel
theorem dX7_annotationProperty_128 : decode cX7_annotationProperty 128 = .ok (.goto 11, 3) := by decide +kernel
theorem dX7_annotationProperty_131 : decode cX7_annotationProperty 131 = .ok (.aload_n 0, 1) := by decide +kernel
theorem dX7_annotationProperty_132 : decode cX7_annotationProperty 132 = .ok (.getfield 64, 3) := by decide +kernel
theorem dX7_annotationProperty_135 : decode cX7_annotationProperty 135 = .ok (.iload_n 3, 1) := by decide +kernel
theorem dX7_annotationProperty_136 : decode cX7_annotationProperty 136 = .ok (.invokevirtual 195, 3) := by decide +kernel
theorem dX7_annotationProperty_139 : decode cX7_annotationProperty 139 = .ok (.ireturn, 1) := by decide +kernel
theorem dX7_presentPage_0 : decode cX7_presentPage 0 = .ok (.aload_n 0, 1) := by decide +kernel
theorem dX7_presentPage_1 : decode cX7_presentPage 1 = .ok (.getfield 64, 3) := by decide +kernel
theorem dX7_presentPage_4 : decode cX7_presentPage 4 = .ok (.aload_n 0, 1) := by decide +kernel
theorem dX7_presentPage_5 : decode cX7_presentPage 5 = .ok (.getfield 48, 3) := by decide +kernel
theorem dX7_presentPage_8 : decode cX7_presentPage 8 = .ok (.invokevirtual 352, 3) := by decide +kernel
theorem dX7_presentPage_11 : decode cX7_presentPage 11 = .ok (.invokevirtual 195, 3) := by decide +kernel
theorem dX7_presentPage_14 : decode cX7_presentPage 14 = .ok (.ireturn, 1) := by decide +kernel
theorem dX7_wordsOfNote_0 : decode cX7_wordsOfNote 0 = .ok (.iload_n 1, 1) := by decide +kernel
theorem dX7_wordsOfNote_1 : decode cX7_wordsOfNote 1 = .ok (.ifCond .lt 21, 3) := by decide +kernel
theorem dX7_wordsOfNote_4 : decode cX7_wordsOfNote 4 = .ok (.iload_n 1, 1) := by decide +kernel
theorem dX7_wordsOfNote_5 : decode cX7_wordsOfNote 5 = .ok (.aload_n 0, 1) := by decide +kernel
theorem dX7_wordsOfNote_6 : decode cX7_wordsOfNote 6 = .ok (.getfield 18, 3) := by decide +kernel
theorem dX7_wordsOfNote_9 : decode cX7_wordsOfNote 9 = .ok (.arraylength, 1) := by decide +kernel
theorem dX7_wordsOfNote_10 : decode cX7_wordsOfNote 10 = .ok (.if_icmp .ge 12, 3) := by decide +kernel
theorem dX7_wordsOfNote_13 : decode cX7_wordsOfNote 13 = .ok (.aload_n 0, 1) := by decide +kernel
theorem dX7_wordsOfNote_14 : decode cX7_wordsOfNote 14 = .ok (.getfield 18, 3) := by decide +kernel
theorem dX7_wordsOfNote_17 : decode cX7_wordsOfNote 17 = .ok (.iload_n 1, 1) := by decide +kernel
theorem dX7_wordsOfNote_18 : decode cX7_wordsOfNote 18 = .ok (.aaload, 1) := by decide +kernel
theorem dX7_wordsOfNote_19 : decode cX7_wordsOfNote 19 = .ok (.goto 4, 3) := by decide +kernel
theorem dX7_wordsOfNote_22 : decode cX7_wordsOfNote 22 = .ok (.aconst_null, 1) := by decide +kernel
theorem dX7_wordsOfNote_23 : decode cX7_wordsOfNote 23 = .ok (.astore_n 2, 1) := by decide +kernel
theorem dX7_wordsOfNote_24 : decode cX7_wordsOfNote 24 = .ok (.aload_n 2, 1) := by decide +kernel
theorem dX7_wordsOfNote_25 : decode cX7_wordsOfNote 25 = .ok (.ifnonnull 7, 3) := by decide +kernel
theorem dX7_wordsOfNote_28 : decode cX7_wordsOfNote 28 = .ok (.iconst 0, 1) := by decide +kernel
theorem dX7_wordsOfNote_29 : decode cX7_wordsOfNote 29 = .ok (.goto 9, 3) := by decide +kernel
theorem dX7_wordsOfNote_32 : decode cX7_wordsOfNote 32 = .ok (.aload_n 2, 1) := by decide +kernel
theorem dX7_wordsOfNote_33 : decode cX7_wordsOfNote 33 = .ok (.invokevirtual 390, 3) := by decide +kernel
theorem dX7_wordsOfNote_36 : decode cX7_wordsOfNote 36 = .ok (.iconst 1, 1) := by decide +kernel
theorem dX7_wordsOfNote_37 : decode cX7_wordsOfNote 37 = .ok (.isub, 1) := by decide +kernel
theorem dX7_wordsOfNote_38 : decode cX7_wordsOfNote 38 = .ok (.ireturn, 1) := by decide +kernel
theorem dX7_wordBehindReader_0 : decode cX7_wordBehindReader 0 = .ok (.aload_n 0, 1) := by decide +kernel
theorem dX7_wordBehindReader_1 : decode cX7_wordBehindReader 1 = .ok (.getfield 41, 3) := by decide +kernel
theorem dX7_wordBehindReader_4 : decode cX7_wordBehindReader 4 = .ok (.invokevirtual 230, 3) := by decide +kernel
theorem dX7_wordBehindReader_7 : decode cX7_wordBehindReader 7 = .ok (.astore_n 1, 1) := by decide +kernel
theorem dX7_wordBehindReader_8 : decode cX7_wordBehindReader 8 = .ok (.iconst 0, 1) := by decide +kernel
theorem dX7_wordBehindReader_9 : decode cX7_wordBehindReader 9 = .ok (.istore_n 2, 1) := by decide +kernel
theorem dX7_wordBehindReader_10 : decode cX7_wordBehindReader 10 = .ok (.iload_n 2, 1) := by decide +kernel
theorem dX7_wordBehindReader_11 : decode cX7_wordBehindReader 11 = .ok (.aload_n 1, 1) := by decide +kernel
theorem dX7_wordBehindReader_12 : decode cX7_wordBehindReader 12 = .ok (.invokevirtual 390, 3) := by decide +kernel
theorem dX7_wordBehindReader_15 : decode cX7_wordBehindReader 15 = .ok (.if_icmp .ge 38, 3) := by decide +kernel
theorem dX7_wordBehindReader_18 : decode cX7_wordBehindReader 18 = .ok (.aload_n 1, 1) := by decide +kernel
theorem dX7_wordBehindReader_19 : decode cX7_wordBehindReader 19 = .ok (.iload_n 2, 1) := by decide +kernel
theorem dX7_wordBehindReader_20 : decode cX7_wordBehindReader 20 = .ok (.invokevirtual 234, 3) := by decide +kernel
theorem dX7_wordBehindReader_23 : decode cX7_wordBehindReader 23 = .ok (.aload_n 0, 1) := by decide +kernel
theorem dX7_wordBehindReader_24 : decode cX7_wordBehindReader 24 = .ok (.getfield 48, 3) := by decide +kernel
theorem dX7_wordBehindReader_27 : decode cX7_wordBehindReader 27 = .ok (.invokevirtual 352, 3) := by decide +kernel
theorem dX7_wordBehindReader_30 : decode cX7_wordBehindReader 30 = .ok (.if_icmp .le 17, 3) := by decide +kernel
theorem dX7_wordBehindReader_33 : decode cX7_wordBehindReader 33 = .ok (.aload_n 0, 1) := by decide +kernel
theorem dX7_wordBehindReader_34 : decode cX7_wordBehindReader 34 = .ok (.getfield 12, 3) := by decide +kernel
theorem dX7_wordBehindReader_37 : decode cX7_wordBehindReader 37 = .ok (.aload_n 1, 1) := by decide +kernel
theorem dX7_wordBehindReader_38 : decode cX7_wordBehindReader 38 = .ok (.iload_n 2, 1) := by decide +kernel
theorem dX7_wordBehindReader_39 : decode cX7_wordBehindReader 39 = .ok (.invokevirtual 459, 3) := by decide +kernel
theorem dX7_wordBehindReader_42 : decode cX7_wordBehindReader 42 = .ok (.ifCond .eq 5, 3) := by decide +kernel
theorem dX7_wordBehindReader_45 : decode cX7_wordBehindReader 45 = .ok (.iload_n 2, 1) := by decide +kernel
theorem dX7_wordBehindReader_46 : decode cX7_wordBehindReader 46 = .ok (.ireturn, 1) := by decide +kernel
theorem dX7_wordBehindReader_47 : decode cX7_wordBehindReader 47 = .ok (.iinc 2 1, 3) := by decide +kernel
theorem dX7_wordBehindReader_50 : decode cX7_wordBehindReader 50 = .ok (.goto (-40), 3) := by decide +kernel
theorem dX7_wordBehindReader_53 : decode cX7_wordBehindReader 53 = .ok (.iconst (-1), 1) := by decide +kernel
theorem dX7_wordBehindReader_54 : decode cX7_wordBehindReader 54 = .ok (.ireturn, 1) := by decide +kernel
theorem dX7_wordBeforeReader_0 : decode cX7_wordBeforeReader 0 = .ok (.aload_n 0, 1) := by decide +kernel
theorem dX7_wordBeforeReader_1 : decode cX7_wordBeforeReader 1 = .ok (.getfield 41, 3) := by decide +kernel
theorem dX7_wordBeforeReader_4 : decode cX7_wordBeforeReader 4 = .ok (.invokevirtual 230, 3) := by decide +kernel
theorem dX7_wordBeforeReader_7 : decode cX7_wordBeforeReader 7 = .ok (.astore_n 1, 1) := by decide +kernel
theorem dX7_wordBeforeReader_8 : decode cX7_wordBeforeReader 8 = .ok (.aload_n 1, 1) := by decide +kernel
theorem dX7_wordBeforeReader_9 : decode cX7_wordBeforeReader 9 = .ok (.invokevirtual 390, 3) := by decide +kernel
theorem dX7_wordBeforeReader_12 : decode cX7_wordBeforeReader 12 = .ok (.iconst 1, 1) := by decide +kernel
theorem dX7_wordBeforeReader_13 : decode cX7_wordBeforeReader 13 = .ok (.isub, 1) := by decide +kernel
theorem dX7_wordBeforeReader_14 : decode cX7_wordBeforeReader 14 = .ok (.istore_n 2, 1) := by decide +kernel
theorem dX7_wordBeforeReader_15 : decode cX7_wordBeforeReader 15 = .ok (.iload_n 2, 1) := by decide +kernel
theorem dX7_wordBeforeReader_16 : decode cX7_wordBeforeReader 16 = .ok (.ifCond .lt 38, 3) := by decide +kernel
theorem dX7_wordBeforeReader_19 : decode cX7_wordBeforeReader 19 = .ok (.aload_n 1, 1) := by decide +kernel
theorem dX7_wordBeforeReader_20 : decode cX7_wordBeforeReader 20 = .ok (.iload_n 2, 1) := by decide +kernel
theorem dX7_wordBeforeReader_21 : decode cX7_wordBeforeReader 21 = .ok (.invokevirtual 234, 3) := by decide +kernel
theorem dX7_wordBeforeReader_24 : decode cX7_wordBeforeReader 24 = .ok (.aload_n 0, 1) := by decide +kernel
theorem dX7_wordBeforeReader_25 : decode cX7_wordBeforeReader 25 = .ok (.getfield 48, 3) := by decide +kernel
theorem dX7_wordBeforeReader_28 : decode cX7_wordBeforeReader 28 = .ok (.invokevirtual 352, 3) := by decide +kernel
theorem dX7_wordBeforeReader_31 : decode cX7_wordBeforeReader 31 = .ok (.if_icmp .ge 17, 3) := by decide +kernel
theorem dX7_wordBeforeReader_34 : decode cX7_wordBeforeReader 34 = .ok (.aload_n 0, 1) := by decide +kernel
theorem dX7_wordBeforeReader_35 : decode cX7_wordBeforeReader 35 = .ok (.getfield 12, 3) := by decide +kernel
theorem dX7_wordBeforeReader_38 : decode cX7_wordBeforeReader 38 = .ok (.aload_n 1, 1) := by decide +kernel
theorem dX7_wordBeforeReader_39 : decode cX7_wordBeforeReader 39 = .ok (.iload_n 2, 1) := by decide +kernel
theorem dX7_wordBeforeReader_40 : decode cX7_wordBeforeReader 40 = .ok (.invokevirtual 459, 3) := by decide +kernel
theorem dX7_wordBeforeReader_43 : decode cX7_wordBeforeReader 43 = .ok (.ifCond .eq 5, 3) := by decide +kernel
theorem dX7_wordBeforeReader_46 : decode cX7_wordBeforeReader 46 = .ok (.iload_n 2, 1) := by decide +kernel
theorem dX7_wordBeforeReader_47 : decode cX7_wordBeforeReader 47 = .ok (.ireturn, 1) := by decide +kernel
theorem dX7_wordBeforeReader_48 : decode cX7_wordBeforeReader 48 = .ok (.iinc 2 (-1), 3) := by decide +kernel
theorem dX7_wordBeforeReader_51 : decode cX7_wordBeforeReader 51 = .ok (.goto (-36), 3) := by decide +kernel
theorem dX7_wordBeforeReader_54 : decode cX7_wordBeforeReader 54 = .ok (.iconst (-1), 1) := by decide +kernel
theorem dX7_wordBeforeReader_55 : decode cX7_wordBeforeReader 55 = .ok (.ireturn, 1) := by decide +kernel
theorem dX7_refresh_0 : decode cX7_refresh 0 = .ok (.aload_n 0, 1) := by decide +kernel
theorem dX7_refresh_1 : decode cX7_refresh 1 = .ok (.getfield 71, 3) := by decide +kernel
theorem dX7_refresh_4 : decode cX7_refresh 4 = .ok (.ifCond .eq 27, 3) := by decide +kernel
theorem dX7_refresh_7 : decode cX7_refresh 7 = .ok (.aload_n 0, 1) := by decide +kernel
theorem dX7_refresh_8 : decode cX7_refresh 8 = .ok (.getfield 64, 3) := by decide +kernel
theorem dX7_refresh_11 : decode cX7_refresh 11 = .ok (.aload_n 0, 1) := by decide +kernel
theorem dX7_refresh_12 : decode cX7_refresh 12 = .ok (.getfield 41, 3) := by decide +kernel
theorem dX7_refresh_15 : decode cX7_refresh 15 = .ok (.aload_n 0, 1) := by decide +kernel
theorem dX7_refresh_16 : decode cX7_refresh 16 = .ok (.getfield 26, 3) := by decide +kernel
theorem dX7_refresh_19 : decode cX7_refresh 19 = .ok (.aload_n 0, 1) := by decide +kernel
theorem dX7_refresh_20 : decode cX7_refresh 20 = .ok (.getfield 30, 3) := by decide +kernel
theorem dX7_refresh_23 : decode cX7_refresh 23 = .ok (.invokevirtual 345, 3) := by decide +kernel
theorem dX7_refresh_26 : decode cX7_refresh 26 = .ok (.aload_n 0, 1) := by decide +kernel
theorem dX7_refresh_27 : decode cX7_refresh 27 = .ok (.iconst 0, 1) := by decide +kernel
theorem dX7_refresh_28 : decode cX7_refresh 28 = .ok (.putfield 71, 3) := by decide +kernel
theorem dX7_refresh_31 : decode cX7_refresh 31 = .ok (.return_, 1) := by decide +kernel
theorem dX7_checkNote_0 : decode cX7_checkNote 0 = .ok (.iload_n 0, 1) := by decide +kernel
theorem dX7_checkNote_1 : decode cX7_checkNote 1 = .ok (.ifCond .lt 9, 3) := by decide +kernel
theorem dX7_checkNote_4 : decode cX7_checkNote 4 = .ok (.iload_n 0, 1) := by decide +kernel
theorem dX7_checkNote_5 : decode cX7_checkNote 5 = .ok (.bipush 10, 2) := by decide +kernel
theorem dX7_checkNote_7 : decode cX7_checkNote 7 = .ok (.if_icmp .lt 14, 3) := by decide +kernel
theorem dX7_checkNote_10 : decode cX7_checkNote 10 = .ok (.new 184, 3) := by decide +kernel
theorem dX7_checkNote_13 : decode cX7_checkNote 13 = .ok (.dup, 1) := by decide +kernel
theorem dX7_checkNote_14 : decode cX7_checkNote 14 = .ok (.ldc_w 463, 3) := by decide +kernel
theorem dX7_checkNote_17 : decode cX7_checkNote 17 = .ok (.invokespecial 188, 3) := by decide +kernel
theorem dX7_checkNote_20 : decode cX7_checkNote 20 = .ok (.athrow, 1) := by decide +kernel
theorem dX7_checkNote_21 : decode cX7_checkNote 21 = .ok (.return_, 1) := by decide +kernel
theorem dX7_checkSize_0 : decode cX7_checkSize 0 = .ok (.iload_n 0, 1) := by decide +kernel
theorem dX7_checkSize_1 : decode cX7_checkSize 1 = .ok (.bipush 18, 2) := by decide +kernel
theorem dX7_checkSize_3 : decode cX7_checkSize 3 = .ok (.if_icmp .lt 9, 3) := by decide +kernel
theorem dX7_checkSize_6 : decode cX7_checkSize 6 = .ok (.iload_n 0, 1) := by decide +kernel
theorem dX7_checkSize_7 : decode cX7_checkSize 7 = .ok (.bipush 60, 2) := by decide +kernel
theorem dX7_checkSize_9 : decode cX7_checkSize 9 = .ok (.if_icmp .le 14, 3) := by decide +kernel
theorem dX7_checkSize_12 : decode cX7_checkSize 12 = .ok (.new 75, 3) := by decide +kernel
theorem dX7_checkSize_15 : decode cX7_checkSize 15 = .ok (.dup, 1) := by decide +kernel
theorem dX7_checkSize_16 : decode cX7_checkSize 16 = .ok (.ldc_w 465, 3) := by decide +kernel
theorem dX7_checkSize_19 : decode cX7_checkSize 19 = .ok (.invokespecial 79, 3) := by decide +kernel
theorem dX7_checkSize_22 : decode cX7_checkSize 22 = .ok (.athrow, 1) := by decide +kernel
theorem dX7_checkSize_23 : decode cX7_checkSize 23 = .ok (.iload_n 1, 1) := by decide +kernel
theorem dX7_checkSize_24 : decode cX7_checkSize 24 = .ok (.iconst 2, 1) := by decide +kernel
theorem dX7_checkSize_25 : decode cX7_checkSize 25 = .ok (.if_icmp .lt 9, 3) := by decide +kernel
theorem dX7_checkSize_28 : decode cX7_checkSize 28 = .ok (.iload_n 1, 1) := by decide +kernel
theorem dX7_checkSize_29 : decode cX7_checkSize 29 = .ok (.bipush 20, 2) := by decide +kernel
theorem dX7_checkSize_31 : decode cX7_checkSize 31 = .ok (.if_icmp .le 14, 3) := by decide +kernel
theorem dX7_checkSize_34 : decode cX7_checkSize 34 = .ok (.new 75, 3) := by decide +kernel
theorem dX7_checkSize_37 : decode cX7_checkSize 37 = .ok (.dup, 1) := by decide +kernel
theorem dX7_checkSize_38 : decode cX7_checkSize 38 = .ok (.ldc_w 467, 3) := by decide +kernel
theorem dX7_checkSize_41 : decode cX7_checkSize 41 = .ok (.invokespecial 79, 3) := by decide +kernel
theorem dX7_checkSize_44 : decode cX7_checkSize 44 = .ok (.athrow, 1) := by decide +kernel
theorem dX7_checkSize_45 : decode cX7_checkSize 45 = .ok (.return_, 1) := by decide +kernel
theorem dX7_checkWhat_0 : decode cX7_checkWhat 0 = .ok (.iload_n 0, 1) := by decide +kernel
theorem dX7_checkWhat_1 : decode cX7_checkWhat 1 = .ok (.ifCond .lt 8, 3) := by decide +kernel
theorem dX7_checkWhat_4 : decode cX7_checkWhat 4 = .ok (.iload_n 0, 1) := by decide +kernel
theorem dX7_checkWhat_5 : decode cX7_checkWhat 5 = .ok (.iload_n 1, 1) := by decide +kernel
theorem dX7_checkWhat_6 : decode cX7_checkWhat 6 = .ok (.if_icmp .lt 14, 3) := by decide +kernel
theorem dX7_checkWhat_9 : decode cX7_checkWhat 9 = .ok (.new 75, 3) := by decide +kernel
theorem dX7_checkWhat_12 : decode cX7_checkWhat 12 = .ok (.dup, 1) := by decide +kernel
theorem dX7_checkWhat_13 : decode cX7_checkWhat 13 = .ok (.ldc_w 469, 3) := by decide +kernel
theorem dX7_checkWhat_16 : decode cX7_checkWhat 16 = .ok (.invokespecial 79, 3) := by decide +kernel
theorem dX7_checkWhat_19 : decode cX7_checkWhat 19 = .ok (.athrow, 1) := by decide +kernel
theorem dX7_checkWhat_20 : decode cX7_checkWhat 20 = .ok (.return_, 1) := by decide +kernel
theorem dX7_checkWordList_0 : decode cX7_checkWordList 0 = .ok (.aload_n 0, 1) := by decide +kernel
theorem dX7_checkWordList_1 : decode cX7_checkWordList 1 = .ok (.getfield 12, 3) := by decide +kernel
theorem dX7_checkWordList_4 : decode cX7_checkWordList 4 = .ok (.iconst 0, 1) := by decide +kernel
theorem dX7_checkWordList_5 : decode cX7_checkWordList 5 = .ok (.invokevirtual 106, 3) := by decide +kernel
theorem dX7_checkWordList_8 : decode cX7_checkWordList 8 = .ok (.ifCond .ne 14, 3) := by decide +kernel
theorem dX7_checkWordList_11 : decode cX7_checkWordList 11 = .ok (.new 86, 3) := by decide +kernel
theorem dX7_checkWordList_14 : decode cX7_checkWordList 14 = .ok (.dup, 1) := by decide +kernel
theorem dX7_checkWordList_15 : decode cX7_checkWordList 15 = .ok (.ldc_w 471, 3) := by decide +kernel
theorem dX7_checkWordList_18 : decode cX7_checkWordList 18 = .ok (.invokespecial 90, 3) := by decide +kernel
theorem dX7_checkWordList_21 : decode cX7_checkWordList 21 = .ok (.athrow, 1) := by decide +kernel
theorem dX7_checkWordList_22 : decode cX7_checkWordList 22 = .ok (.return_, 1) := by decide +kernel
theorem dX7_checkPage_0 : decode cX7_checkPage 0 = .ok (.iload_n 1, 1) := by decide +kernel
theorem dX7_checkPage_1 : decode cX7_checkPage 1 = .ok (.ifCond .lt 14, 3) := by decide +kernel
theorem dX7_checkPage_4 : decode cX7_checkPage 4 = .ok (.iload_n 1, 1) := by decide +kernel
theorem dX7_checkPage_5 : decode cX7_checkPage 5 = .ok (.aload_n 0, 1) := by decide +kernel
theorem dX7_checkPage_6 : decode cX7_checkPage 6 = .ok (.getfield 64, 3) := by decide +kernel
theorem dX7_checkPage_9 : decode cX7_checkPage 9 = .ok (.invokevirtual 149, 3) := by decide +kernel
theorem dX7_checkPage_12 : decode cX7_checkPage 12 = .ok (.if_icmp .lt 14, 3) := by decide +kernel
theorem dX7_checkPage_15 : decode cX7_checkPage 15 = .ok (.new 184, 3) := by decide +kernel
theorem dX7_checkPage_18 : decode cX7_checkPage 18 = .ok (.dup, 1) := by decide +kernel
theorem dX7_checkPage_19 : decode cX7_checkPage 19 = .ok (.ldc_w 473, 3) := by decide +kernel
theorem dX7_checkPage_22 : decode cX7_checkPage 22 = .ok (.invokespecial 188, 3) := by decide +kernel
theorem dX7_checkPage_25 : decode cX7_checkPage 25 = .ok (.athrow, 1) := by decide +kernel
theorem dX7_checkPage_26 : decode cX7_checkPage 26 = .ok (.return_, 1) := by decide +kernel
theorem dX7_checkLine_0 : decode cX7_checkLine 0 = .ok (.iload_n 1, 1) := by decide +kernel
theorem dX7_checkLine_1 : decode cX7_checkLine 1 = .ok (.ifCond .lt 14, 3) := by decide +kernel
theorem dX7_checkLine_4 : decode cX7_checkLine 4 = .ok (.iload_n 1, 1) := by decide +kernel
theorem dX7_checkLine_5 : decode cX7_checkLine 5 = .ok (.aload_n 0, 1) := by decide +kernel
theorem dX7_checkLine_6 : decode cX7_checkLine 6 = .ok (.getfield 64, 3) := by decide +kernel
theorem dX7_checkLine_9 : decode cX7_checkLine 9 = .ok (.invokevirtual 349, 3) := by decide +kernel
theorem dX7_checkLine_12 : decode cX7_checkLine 12 = .ok (.if_icmp .lt 14, 3) := by decide +kernel
theorem dX7_checkLine_15 : decode cX7_checkLine 15 = .ok (.new 184, 3) := by decide +kernel
theorem dX7_checkLine_18 : decode cX7_checkLine 18 = .ok (.dup, 1) := by decide +kernel
theorem dX7_checkLine_19 : decode cX7_checkLine 19 = .ok (.ldc_w 475, 3) := by decide +kernel
theorem dX7_checkLine_22 : decode cX7_checkLine 22 = .ok (.invokespecial 188, 3) := by decide +kernel
theorem dX7_checkLine_25 : decode cX7_checkLine 25 = .ok (.athrow, 1) := by decide +kernel
theorem dX7_checkLine_26 : decode cX7_checkLine 26 = .ok (.return_, 1) := by decide +kernel
theorem dX7_checkParagraph_0 : decode cX7_checkParagraph 0 = .ok (.iload_n 1, 1) := by decide +kernel
theorem dX7_checkParagraph_1 : decode cX7_checkParagraph 1 = .ok (.ifCond .lt 14, 3) := by decide +kernel
theorem dX7_checkParagraph_4 : decode cX7_checkParagraph 4 = .ok (.iload_n 1, 1) := by decide +kernel
theorem dX7_checkParagraph_5 : decode cX7_checkParagraph 5 = .ok (.aload_n 0, 1) := by decide +kernel
theorem dX7_checkParagraph_6 : decode cX7_checkParagraph 6 = .ok (.getfield 41, 3) := by decide +kernel
theorem dX7_checkParagraph_9 : decode cX7_checkParagraph 9 = .ok (.invokevirtual 122, 3) := by decide +kernel
theorem dX7_checkParagraph_12 : decode cX7_checkParagraph 12 = .ok (.if_icmp .lt 14, 3) := by decide +kernel
theorem dX7_checkParagraph_15 : decode cX7_checkParagraph 15 = .ok (.new 184, 3) := by decide +kernel
theorem dX7_checkParagraph_18 : decode cX7_checkParagraph 18 = .ok (.dup, 1) := by decide +kernel
theorem dX7_checkParagraph_19 : decode cX7_checkParagraph 19 = .ok (.ldc_w 477, 3) := by decide +kernel
theorem dX7_checkParagraph_22 : decode cX7_checkParagraph 22 = .ok (.invokespecial 188, 3) := by decide +kernel
theorem dX7_checkParagraph_25 : decode cX7_checkParagraph 25 = .ok (.athrow, 1) := by decide +kernel
theorem dX7_checkParagraph_26 : decode cX7_checkParagraph 26 = .ok (.return_, 1) := by decide +kernel
theorem dX7_checkOffset_0 : decode cX7_checkOffset 0 = .ok (.aload_n 0, 1) := by decide +kernel
theorem dX7_checkOffset_1 : decode cX7_checkOffset 1 = .ok (.iload_n 1, 1) := by decide +kernel
theorem dX7_checkOffset_2 : decode cX7_checkOffset 2 = .ok (.invokevirtual 241, 3) := by decide +kernel
theorem dX7_checkOffset_5 : decode cX7_checkOffset 5 = .ok (.iload_n 2, 1) := by decide +kernel
theorem dX7_checkOffset_6 : decode cX7_checkOffset 6 = .ok (.ifCond .lt 15, 3) := by decide +kernel
theorem dX7_checkOffset_9 : decode cX7_checkOffset 9 = .ok (.iload_n 2, 1) := by decide +kernel
theorem dX7_checkOffset_10 : decode cX7_checkOffset 10 = .ok (.aload_n 0, 1) := by decide +kernel
theorem dX7_checkOffset_11 : decode cX7_checkOffset 11 = .ok (.getfield 41, 3) := by decide +kernel
theorem dX7_checkOffset_14 : decode cX7_checkOffset 14 = .ok (.iload_n 1, 1) := by decide +kernel
theorem dX7_checkOffset_15 : decode cX7_checkOffset 15 = .ok (.invokevirtual 249, 3) := by decide +kernel
theorem dX7_checkOffset_18 : decode cX7_checkOffset 18 = .ok (.if_icmp .lt 14, 3) := by decide +kernel
theorem dX7_checkOffset_21 : decode cX7_checkOffset 21 = .ok (.new 184, 3) := by decide +kernel
theorem dX7_checkOffset_24 : decode cX7_checkOffset 24 = .ok (.dup, 1) := by decide +kernel
theorem dX7_checkOffset_25 : decode cX7_checkOffset 25 = .ok (.ldc_w 479, 3) := by decide +kernel
theorem dX7_checkOffset_28 : decode cX7_checkOffset 28 = .ok (.invokespecial 188, 3) := by decide +kernel
theorem dX7_checkOffset_31 : decode cX7_checkOffset 31 = .ok (.athrow, 1) := by decide +kernel
theorem dX7_checkOffset_32 : decode cX7_checkOffset 32 = .ok (.return_, 1) := by decide +kernel
theorem dX7_checkAnnotation_0 : decode cX7_checkAnnotation 0 = .ok (.iload_n 1, 1) := by decide +kernel
theorem dX7_checkAnnotation_1 : decode cX7_checkAnnotation 1 = .ok (.ifCond .lt 14, 3) := by decide +kernel
theorem dX7_checkAnnotation_4 : decode cX7_checkAnnotation 4 = .ok (.iload_n 1, 1) := by decide +kernel
theorem dX7_checkAnnotation_5 : decode cX7_checkAnnotation 5 = .ok (.aload_n 0, 1) := by decide +kernel
theorem dX7_checkAnnotation_6 : decode cX7_checkAnnotation 6 = .ok (.getfield 48, 3) := by decide +kernel
theorem dX7_checkAnnotation_9 : decode cX7_checkAnnotation 9 = .ok (.invokevirtual 256, 3) := by decide +kernel
theorem dX7_checkAnnotation_12 : decode cX7_checkAnnotation 12 = .ok (.if_icmp .lt 14, 3) := by decide +kernel
theorem dX7_checkAnnotation_15 : decode cX7_checkAnnotation 15 = .ok (.new 184, 3) := by decide +kernel
theorem dX7_checkAnnotation_18 : decode cX7_checkAnnotation 18 = .ok (.dup, 1) := by decide +kernel
theorem dX7_checkAnnotation_19 : decode cX7_checkAnnotation 19 = .ok (.ldc_w 481, 3) := by decide +kernel
theorem dX7_checkAnnotation_22 : decode cX7_checkAnnotation 22 = .ok (.invokespecial 188, 3) := by decide +kernel
theorem dX7_checkAnnotation_25 : decode cX7_checkAnnotation 25 = .ok (.athrow, 1) := by decide +kernel
theorem dX7_checkAnnotation_26 : decode cX7_checkAnnotation 26 = .ok (.return_, 1) := by decide +kernel
theorem dX8_init_0 : decode cX8_init 0 = .ok (.aload_n 0, 1) := by decide +kernel
theorem dX8_init_1 : decode cX8_init 1 = .ok (.invokespecial 1, 3) := by decide +kernel
theorem dX8_init_4 : decode cX8_init 4 = .ok (.aload_n 0, 1) := by decide +kernel
theorem dX8_init_5 : decode cX8_init 5 = .ok (.sipush 3695, 3) := by decide +kernel
theorem dX8_init_8 : decode cX8_init 8 = .ok (.newarray .int, 2) := by decide +kernel
theorem dX8_init_10 : decode cX8_init 10 = .ok (.putfield 7, 3) := by decide +kernel
theorem dX8_init_13 : decode cX8_init 13 = .ok (.aload_n 0, 1) := by decide +kernel
theorem dX8_init_14 : decode cX8_init 14 = .ok (.sipush 14780, 3) := by decide +kernel
theorem dX8_init_17 : decode cX8_init 17 = .ok (.newarray .int, 2) := by decide +kernel
theorem dX8_init_19 : decode cX8_init 19 = .ok (.putfield 13, 3) := by decide +kernel
theorem dX8_init_22 : decode cX8_init 22 = .ok (.aload_n 0, 1) := by decide +kernel
theorem dX8_init_23 : decode cX8_init 23 = .ok (.sipush 1000, 3) := by decide +kernel
theorem dX8_init_26 : decode cX8_init 26 = .ok (.newarray .int, 2) := by decide +kernel
theorem dX8_init_28 : decode cX8_init 28 = .ok (.putfield 16, 3) := by decide +kernel
theorem dX8_init_31 : decode cX8_init 31 = .ok (.aload_n 0, 1) := by decide +kernel
theorem dX8_init_32 : decode cX8_init 32 = .ok (.bipush 10, 2) := by decide +kernel
theorem dX8_init_34 : decode cX8_init 34 = .ok (.newarray .int, 2) := by decide +kernel
theorem dX8_init_36 : decode cX8_init 36 = .ok (.putfield 19, 3) := by decide +kernel
theorem dX8_init_39 : decode cX8_init 39 = .ok (.aload_n 0, 1) := by decide +kernel
theorem dX8_init_40 : decode cX8_init 40 = .ok (.bipush 30, 2) := by decide +kernel
theorem dX8_init_42 : decode cX8_init 42 = .ok (.putfield 22, 3) := by decide +kernel
theorem dX8_init_45 : decode cX8_init 45 = .ok (.aload_n 0, 1) := by decide +kernel
theorem dX8_init_46 : decode cX8_init 46 = .ok (.bipush 8, 2) := by decide +kernel
theorem dX8_init_48 : decode cX8_init 48 = .ok (.putfield 26, 3) := by decide +kernel
theorem dX8_init_51 : decode cX8_init 51 = .ok (.aload_n 0, 1) := by decide +kernel
theorem dX8_init_52 : decode cX8_init 52 = .ok (.iconst 5, 1) := by decide +kernel
theorem dX8_init_53 : decode cX8_init 53 = .ok (.newarray .int, 2) := by decide +kernel
theorem dX8_init_55 : decode cX8_init 55 = .ok (.putfield 29, 3) := by decide +kernel
theorem dX8_init_58 : decode cX8_init 58 = .ok (.aload_n 0, 1) := by decide +kernel
theorem dX8_init_59 : decode cX8_init 59 = .ok (.bipush 100, 2) := by decide +kernel
theorem dX8_init_61 : decode cX8_init 61 = .ok (.newarray .int, 2) := by decide +kernel
theorem dX8_init_63 : decode cX8_init 63 = .ok (.putfield 32, 3) := by decide +kernel
theorem dX8_init_66 : decode cX8_init 66 = .ok (.aload_n 0, 1) := by decide +kernel
theorem dX8_init_67 : decode cX8_init 67 = .ok (.sipush 240, 3) := by decide +kernel
theorem dX8_init_70 : decode cX8_init 70 = .ok (.newarray .int, 2) := by decide +kernel
theorem dX8_init_72 : decode cX8_init 72 = .ok (.putfield 35, 3) := by decide +kernel
theorem dX8_init_75 : decode cX8_init 75 = .ok (.aload_n 0, 1) := by decide +kernel
theorem dX8_init_76 : decode cX8_init 76 = .ok (.sipush 240, 3) := by decide +kernel
theorem dX8_init_79 : decode cX8_init 79 = .ok (.newarray .int, 2) := by decide +kernel
theorem dX8_init_81 : decode cX8_init 81 = .ok (.putfield 38, 3) := by decide +kernel
theorem dX8_init_84 : decode cX8_init 84 = .ok (.aload_n 0, 1) := by decide +kernel
theorem dX8_init_85 : decode cX8_init 85 = .ok (.sipush 240, 3) := by decide +kernel
theorem dX8_init_88 : decode cX8_init 88 = .ok (.newarray .int, 2) := by decide +kernel
theorem dX8_init_90 : decode cX8_init 90 = .ok (.putfield 41, 3) := by decide +kernel
theorem dX8_init_93 : decode cX8_init 93 = .ok (.aload_n 0, 1) := by decide +kernel
theorem dX8_init_94 : decode cX8_init 94 = .ok (.sipush 241, 3) := by decide +kernel
theorem dX8_init_97 : decode cX8_init 97 = .ok (.newarray .int, 2) := by decide +kernel
theorem dX8_init_99 : decode cX8_init 99 = .ok (.putfield 44, 3) := by decide +kernel
theorem dX8_init_102 : decode cX8_init 102 = .ok (.aload_n 0, 1) := by decide +kernel
theorem dX8_init_103 : decode cX8_init 103 = .ok (.getfield 7, 3) := by decide +kernel
theorem dX8_init_106 : decode cX8_init 106 = .ok (.iconst 0, 1) := by decide +kernel
theorem dX8_init_107 : decode cX8_init 107 = .ok (.iconst 1, 1) := by decide +kernel
theorem dX8_init_108 : decode cX8_init 108 = .ok (.iastore, 1) := by decide +kernel
theorem dX8_init_109 : decode cX8_init 109 = .ok (.aload_n 0, 1) := by decide +kernel
theorem dX8_init_110 : decode cX8_init 110 = .ok (.getfield 7, 3) := by decide +kernel
theorem dX8_init_113 : decode cX8_init 113 = .ok (.bipush 85, 2) := by decide +kernel
theorem dX8_init_115 : decode cX8_init 115 = .ok (.iconst 1, 1) := by decide +kernel
theorem dX8_init_116 : decode cX8_init 116 = .ok (.iastore, 1) := by decide +kernel
theorem dX8_init_117 : decode cX8_init 117 = .ok (.aload_n 0, 1) := by decide +kernel
theorem dX8_init_118 : decode cX8_init 118 = .ok (.getfield 7, 3) := by decide +kernel
theorem dX8_init_121 : decode cX8_init 121 = .ok (.bipush 95, 2) := by decide +kernel
theorem dX8_init_123 : decode cX8_init 123 = .ok (.bipush 97, 2) := by decide +kernel
theorem dX8_init_125 : decode cX8_init 125 = .ok (.iastore, 1) := by decide +kernel
theorem dX8_init_126 : decode cX8_init 126 = .ok (.aload_n 0, 1) := by decide +kernel
theorem dX8_init_127 : decode cX8_init 127 = .ok (.getfield 29, 3) := by decide +kernel
theorem dX8_init_130 : decode cX8_init 130 = .ok (.iconst 0, 1) := by decide +kernel
theorem dX8_init_131 : decode cX8_init 131 = .ok (.iconst 2, 1) := by decide +kernel
theorem dX8_init_132 : decode cX8_init 132 = .ok (.iastore, 1) := by decide +kernel
theorem dX8_init_133 : decode cX8_init 133 = .ok (.aload_n 0, 1) := by decide +kernel
theorem dX8_init_134 : decode cX8_init 134 = .ok (.getfield 29, 3) := by decide +kernel
theorem dX8_init_137 : decode cX8_init 137 = .ok (.iconst 1, 1) := by decide +kernel
theorem dX8_init_138 : decode cX8_init 138 = .ok (.iconst 4, 1) := by decide +kernel
theorem dX8_init_139 : decode cX8_init 139 = .ok (.iastore, 1) := by decide +kernel
theorem dX8_init_140 : decode cX8_init 140 = .ok (.return_, 1) := by decide +kernel
theorem dX8_thrown_0 : decode cX8_thrown 0 = .ok (.aload_n 0, 1) := by decide +kernel
theorem dX8_thrown_1 : decode cX8_thrown 1 = .ok (.getfield 47, 3) := by decide +kernel
theorem dX8_thrown_4 : decode cX8_thrown 4 = .ok (.ireturn, 1) := by decide +kernel
theorem dX8_within_0 : decode cX8_within 0 = .ok (.iload_n 0, 1) := by decide +kernel
theorem dX8_within_1 : decode cX8_within 1 = .ok (.iload_n 1, 1) := by decide +kernel
theorem dX8_within_2 : decode cX8_within 2 = .ok (.if_icmp .lt 12, 3) := by decide +kernel
theorem dX8_within_5 : decode cX8_within 5 = .ok (.iload_n 0, 1) := by decide +kernel
theorem dX8_within_6 : decode cX8_within 6 = .ok (.iload_n 2, 1) := by decide +kernel
theorem dX8_within_7 : decode cX8_within 7 = .ok (.if_icmp .gt 7, 3) := by decide +kernel
theorem dX8_within_10 : decode cX8_within 10 = .ok (.iconst 1, 1) := by decide +kernel
theorem dX8_within_11 : decode cX8_within 11 = .ok (.goto 4, 3) := by decide +kernel
theorem dX8_within_14 : decode cX8_within 14 = .ok (.iconst 0, 1) := by decide +kernel
theorem dX8_within_15 : decode cX8_within 15 = .ok (.ireturn, 1) := by decide +kernel
theorem dX8_append_0 : decode cX8_append 0 = .ok (.aload_n 0, 1) := by decide +kernel
theorem dX8_append_1 : decode cX8_append 1 = .ok (.iload_n 1, 1) := by decide +kernel
theorem dX8_append_2 : decode cX8_append 2 = .ok (.bipush 32, 2) := by decide +kernel
theorem dX8_append_4 : decode cX8_append 4 = .ok (.bipush 126, 2) := by decide +kernel
theorem dX8_append_6 : decode cX8_append 6 = .ok (.invokestatic 50, 3) := by decide +kernel
theorem dX8_append_9 : decode cX8_append 9 = .ok (.ifCond .ne 7, 3) := by decide +kernel
theorem dX8_append_12 : decode cX8_append 12 = .ok (.iconst 1, 1) := by decide +kernel
theorem dX8_append_13 : decode cX8_append 13 = .ok (.goto 17, 3) := by decide +kernel
theorem dX8_append_16 : decode cX8_append 16 = .ok (.aload_n 0, 1) := by decide +kernel
theorem dX8_append_17 : decode cX8_append 17 = .ok (.getfield 54, 3) := by decide +kernel
theorem dX8_append_20 : decode cX8_append 20 = .ok (.bipush 100, 2) := by decide +kernel
theorem dX8_append_22 : decode cX8_append 22 = .ok (.if_icmp .ne 7, 3) := by decide +kernel
theorem dX8_append_25 : decode cX8_append 25 = .ok (.iconst 2, 1) := by decide +kernel
theorem dX8_append_26 : decode cX8_append 26 = .ok (.goto 4, 3) := by decide +kernel
theorem dX8_append_29 : decode cX8_append 29 = .ok (.iconst 0, 1) := by decide +kernel
theorem dX8_append_30 : decode cX8_append 30 = .ok (.putfield 47, 3) := by decide +kernel
theorem dX8_append_33 : decode cX8_append 33 = .ok (.aload_n 0, 1) := by decide +kernel
theorem dX8_append_34 : decode cX8_append 34 = .ok (.getfield 47, 3) := by decide +kernel
theorem dX8_append_37 : decode cX8_append 37 = .ok (.ifCond .le 5, 3) := by decide +kernel
theorem dX8_append_40 : decode cX8_append 40 = .ok (.iconst 0, 1) := by decide +kernel
theorem dX8_append_41 : decode cX8_append 41 = .ok (.ireturn, 1) := by decide +kernel
theorem dX8_append_42 : decode cX8_append 42 = .ok (.aload_n 0, 1) := by decide +kernel
theorem dX8_append_43 : decode cX8_append 43 = .ok (.getfield 32, 3) := by decide +kernel
theorem dX8_append_46 : decode cX8_append 46 = .ok (.aload_n 0, 1) := by decide +kernel
theorem dX8_append_47 : decode cX8_append 47 = .ok (.getfield 54, 3) := by decide +kernel
theorem dX8_append_50 : decode cX8_append 50 = .ok (.iload_n 1, 1) := by decide +kernel
theorem dX8_append_51 : decode cX8_append 51 = .ok (.iastore, 1) := by decide +kernel
theorem dX8_append_52 : decode cX8_append 52 = .ok (.aload_n 0, 1) := by decide +kernel
theorem dX8_append_53 : decode cX8_append 53 = .ok (.dup, 1) := by decide +kernel
theorem dX8_append_54 : decode cX8_append 54 = .ok (.getfield 54, 3) := by decide +kernel
theorem dX8_append_57 : decode cX8_append 57 = .ok (.iconst 1, 1) := by decide +kernel
theorem dX8_append_58 : decode cX8_append 58 = .ok (.iadd, 1) := by decide +kernel
theorem dX8_append_59 : decode cX8_append 59 = .ok (.putfield 54, 3) := by decide +kernel
theorem dX8_append_62 : decode cX8_append 62 = .ok (.aload_n 0, 1) := by decide +kernel
theorem dX8_append_63 : decode cX8_append 63 = .ok (.getfield 54, 3) := by decide +kernel
theorem dX8_append_66 : decode cX8_append 66 = .ok (.ireturn, 1) := by decide +kernel
theorem dX8_clearInput_0 : decode cX8_clearInput 0 = .ok (.aload_n 0, 1) := by decide +kernel
theorem dX8_clearInput_1 : decode cX8_clearInput 1 = .ok (.iconst 0, 1) := by decide +kernel
theorem dX8_clearInput_2 : decode cX8_clearInput 2 = .ok (.putfield 47, 3) := by decide +kernel
theorem dX8_clearInput_5 : decode cX8_clearInput 5 = .ok (.aload_n 0, 1) := by decide +kernel
theorem dX8_clearInput_6 : decode cX8_clearInput 6 = .ok (.getfield 54, 3) := by decide +kernel
theorem dX8_clearInput_9 : decode cX8_clearInput 9 = .ok (.istore_n 1, 1) := by decide +kernel
theorem dX8_clearInput_10 : decode cX8_clearInput 10 = .ok (.aload_n 0, 1) := by decide +kernel
theorem dX8_clearInput_11 : decode cX8_clearInput 11 = .ok (.iconst 0, 1) := by decide +kernel
theorem dX8_clearInput_12 : decode cX8_clearInput 12 = .ok (.putfield 54, 3) := by decide +kernel
theorem dX8_clearInput_15 : decode cX8_clearInput 15 = .ok (.iload_n 1, 1) := by decide +kernel
theorem dX8_clearInput_16 : decode cX8_clearInput 16 = .ok (.ireturn, 1) := by decide +kernel
theorem dX8_isSign_0 : decode cX8_isSign 0 = .ok (.iload_n 0, 1) := by decide +kernel
theorem dX8_isSign_1 : decode cX8_isSign 1 = .ok (.bipush 97, 2) := by decide +kernel
theorem dX8_isSign_3 : decode cX8_isSign 3 = .ok (.bipush 122, 2) := by decide +kernel
theorem dX8_isSign_5 : decode cX8_isSign 5 = .ok (.invokestatic 50, 3) := by decide +kernel
theorem dX8_isSign_8 : decode cX8_isSign 8 = .ok (.ifCond .ne 43, 3) := by decide +kernel
theorem dX8_isSign_11 : decode cX8_isSign 11 = .ok (.iload_n 0, 1) := by decide +kernel
theorem dX8_isSign_12 : decode cX8_isSign 12 = .ok (.bipush 65, 2) := by decide +kernel
theorem dX8_isSign_14 : decode cX8_isSign 14 = .ok (.bipush 90, 2) := by decide +kernel
theorem dX8_isSign_16 : decode cX8_isSign 16 = .ok (.invokestatic 50, 3) := by decide +kernel
theorem dX8_isSign_19 : decode cX8_isSign 19 = .ok (.ifCond .ne 32, 3) := by decide +kernel
theorem dX8_isSign_22 : decode cX8_isSign 22 = .ok (.iload_n 0, 1) := by decide +kernel
theorem dX8_isSign_23 : decode cX8_isSign 23 = .ok (.bipush 48, 2) := by decide +kernel
theorem dX8_isSign_25 : decode cX8_isSign 25 = .ok (.bipush 57, 2) := by decide +kernel
theorem dX8_isSign_27 : decode cX8_isSign 27 = .ok (.invokestatic 50, 3) := by decide +kernel
theorem dX8_isSign_30 : decode cX8_isSign 30 = .ok (.ifCond .ne 21, 3) := by decide +kernel
theorem dX8_isSign_33 : decode cX8_isSign 33 = .ok (.iload_n 0, 1) := by decide +kernel
theorem dX8_isSign_34 : decode cX8_isSign 34 = .ok (.bipush 46, 2) := by decide +kernel
theorem dX8_isSign_36 : decode cX8_isSign 36 = .ok (.if_icmp .eq 15, 3) := by decide +kernel
theorem dX8_isSign_39 : decode cX8_isSign 39 = .ok (.iload_n 0, 1) := by decide +kernel
theorem dX8_isSign_40 : decode cX8_isSign 40 = .ok (.bipush 44, 2) := by decide +kernel
theorem dX8_isSign_42 : decode cX8_isSign 42 = .ok (.if_icmp .eq 9, 3) := by decide +kernel
theorem dX8_isSign_45 : decode cX8_isSign 45 = .ok (.iload_n 0, 1) := by decide +kernel
theorem dX8_isSign_46 : decode cX8_isSign 46 = .ok (.bipush 39, 2) := by decide +kernel
theorem dX8_isSign_48 : decode cX8_isSign 48 = .ok (.if_icmp .ne 7, 3) := by decide +kernel
theorem dX8_isSign_51 : decode cX8_isSign 51 = .ok (.iconst 1, 1) := by decide +kernel
theorem dX8_isSign_52 : decode cX8_isSign 52 = .ok (.goto 4, 3) := by decide +kernel
theorem dX8_isSign_55 : decode cX8_isSign 55 = .ok (.iconst 0, 1) := by decide +kernel
theorem dX8_isSign_56 : decode cX8_isSign 56 = .ok (.ireturn, 1) := by decide +kernel
theorem dX8_isWordOver_0 : decode cX8_isWordOver 0 = .ok (.aload_n 0, 1) := by decide +kernel
theorem dX8_isWordOver_1 : decode cX8_isWordOver 1 = .ok (.getfield 57, 3) := by decide +kernel
theorem dX8_isWordOver_4 : decode cX8_isWordOver 4 = .ok (.ifCond .le 15, 3) := by decide +kernel
theorem dX8_isWordOver_7 : decode cX8_isWordOver 7 = .ok (.aload_n 0, 1) := by decide +kernel
theorem dX8_isWordOver_8 : decode cX8_isWordOver 8 = .ok (.getfield 60, 3) := by decide +kernel
theorem dX8_isWordOver_11 : decode cX8_isWordOver 11 = .ok (.iconst 1, 1) := by decide +kernel
theorem dX8_isWordOver_12 : decode cX8_isWordOver 12 = .ok (.if_icmp .eq 7, 3) := by decide +kernel
theorem dX8_isWordOver_15 : decode cX8_isWordOver 15 = .ok (.iconst 1, 1) := by decide +kernel
theorem dX8_isWordOver_16 : decode cX8_isWordOver 16 = .ok (.goto 4, 3) := by decide +kernel
theorem dX8_isWordOver_19 : decode cX8_isWordOver 19 = .ok (.iconst 0, 1) := by decide +kernel
theorem dX8_isWordOver_20 : decode cX8_isWordOver 20 = .ok (.ireturn, 1) := by decide +kernel
theorem dX8_fresh_0 : decode cX8_fresh 0 = .ok (.aload_n 0, 1) := by decide +kernel
theorem dX8_fresh_1 : decode cX8_fresh 1 = .ok (.iload_n 1, 1) := by decide +kernel
theorem dX8_fresh_2 : decode cX8_fresh 2 = .ok (.ifCond .eq 7, 3) := by decide +kernel
theorem dX8_fresh_5 : decode cX8_fresh 5 = .ok (.iconst 0, 1) := by decide +kernel
theorem dX8_fresh_6 : decode cX8_fresh 6 = .ok (.goto 7, 3) := by decide +kernel
theorem dX8_fresh_9 : decode cX8_fresh 9 = .ok (.aload_n 0, 1) := by decide +kernel
theorem dX8_fresh_10 : decode cX8_fresh 10 = .ok (.getfield 57, 3) := by decide +kernel
theorem dX8_fresh_13 : decode cX8_fresh 13 = .ok (.putfield 57, 3) := by decide +kernel
theorem dX8_fresh_16 : decode cX8_fresh 16 = .ok (.aload_n 0, 1) := by decide +kernel
theorem dX8_fresh_17 : decode cX8_fresh 17 = .ok (.iload_n 1, 1) := by decide +kernel
theorem dX8_fresh_18 : decode cX8_fresh 18 = .ok (.ifCond .eq 7, 3) := by decide +kernel
theorem dX8_fresh_21 : decode cX8_fresh 21 = .ok (.iconst 0, 1) := by decide +kernel
theorem dX8_fresh_22 : decode cX8_fresh 22 = .ok (.goto 7, 3) := by decide +kernel
theorem dX8_fresh_25 : decode cX8_fresh 25 = .ok (.aload_n 0, 1) := by decide +kernel
theorem dX8_fresh_26 : decode cX8_fresh 26 = .ok (.getfield 60, 3) := by decide +kernel
theorem dX8_fresh_29 : decode cX8_fresh 29 = .ok (.putfield 60, 3) := by decide +kernel
theorem dX8_fresh_32 : decode cX8_fresh 32 = .ok (.iload_n 1, 1) := by decide +kernel
theorem dX8_fresh_33 : decode cX8_fresh 33 = .ok (.ireturn, 1) := by decide +kernel
theorem dX8_takesPlain_0 : decode cX8_takesPlain 0 = .ok (.aload_n 0, 1) := by decide +kernel
theorem dX8_takesPlain_1 : decode cX8_takesPlain 1 = .ok (.getfield 60, 3) := by decide +kernel
theorem dX8_takesPlain_4 : decode cX8_takesPlain 4 = .ok (.iconst 1, 1) := by decide +kernel
theorem dX8_takesPlain_5 : decode cX8_takesPlain 5 = .ok (.if_icmp .ne 27, 3) := by decide +kernel
theorem dX8_takesPlain_8 : decode cX8_takesPlain 8 = .ok (.iload_n 1, 1) := by decide +kernel
theorem dX8_takesPlain_9 : decode cX8_takesPlain 9 = .ok (.bipush 48, 2) := by decide +kernel
theorem dX8_takesPlain_11 : decode cX8_takesPlain 11 = .ok (.bipush 57, 2) := by decide +kernel
theorem dX8_takesPlain_13 : decode cX8_takesPlain 13 = .ok (.invokestatic 50, 3) := by decide +kernel
theorem dX8_takesPlain_16 : decode cX8_takesPlain 16 = .ok (.istore_n 2, 1) := by decide +kernel
theorem dX8_takesPlain_17 : decode cX8_takesPlain 17 = .ok (.aload_n 0, 1) := by decide +kernel
theorem dX8_takesPlain_18 : decode cX8_takesPlain 18 = .ok (.iload_n 2, 1) := by decide +kernel
theorem dX8_takesPlain_19 : decode cX8_takesPlain 19 = .ok (.ifCond .eq 7, 3) := by decide +kernel
theorem dX8_takesPlain_22 : decode cX8_takesPlain 22 = .ok (.iconst 2, 1) := by decide +kernel
theorem dX8_takesPlain_23 : decode cX8_takesPlain 23 = .ok (.goto 4, 3) := by decide +kernel
theorem dX8_takesPlain_26 : decode cX8_takesPlain 26 = .ok (.iconst 1, 1) := by decide +kernel
theorem dX8_takesPlain_27 : decode cX8_takesPlain 27 = .ok (.putfield 60, 3) := by decide +kernel
theorem dX8_takesPlain_30 : decode cX8_takesPlain 30 = .ok (.iload_n 2, 1) := by decide +kernel
theorem dX8_takesPlain_31 : decode cX8_takesPlain 31 = .ok (.ireturn, 1) := by decide +kernel
theorem dX8_takesPlain_32 : decode cX8_takesPlain 32 = .ok (.iload_n 1, 1) := by decide +kernel
theorem dX8_takesPlain_33 : decode cX8_takesPlain 33 = .ok (.bipush 94, 2) := by decide +kernel
theorem dX8_takesPlain_35 : decode cX8_takesPlain 35 = .ok (.if_icmp .ne 41, 3) := by decide +kernel
theorem dX8_takesPlain_38 : decode cX8_takesPlain 38 = .ok (.aload_n 0, 1) := by decide +kernel
theorem dX8_takesPlain_39 : decode cX8_takesPlain 39 = .ok (.getfield 57, 3) := by decide +kernel
theorem dX8_takesPlain_42 : decode cX8_takesPlain 42 = .ok (.ifCond .le 14, 3) := by decide +kernel
theorem dX8_takesPlain_45 : decode cX8_takesPlain 45 = .ok (.aload_n 0, 1) := by decide +kernel
theorem dX8_takesPlain_46 : decode cX8_takesPlain 46 = .ok (.getfield 60, 3) := by decide +kernel
theorem dX8_takesPlain_49 : decode cX8_takesPlain 49 = .ok (.ifCond .ne 7, 3) := by decide +kernel
theorem dX8_takesPlain_52 : decode cX8_takesPlain 52 = .ok (.iconst 1, 1) := by decide +kernel
theorem dX8_takesPlain_53 : decode cX8_takesPlain 53 = .ok (.goto 4, 3) := by decide +kernel
theorem dX8_takesPlain_56 : decode cX8_takesPlain 56 = .ok (.iconst 0, 1) := by decide +kernel
theorem dX8_takesPlain_57 : decode cX8_takesPlain 57 = .ok (.istore_n 2, 1) := by decide +kernel
theorem dX8_takesPlain_58 : decode cX8_takesPlain 58 = .ok (.aload_n 0, 1) := by decide +kernel
theorem dX8_takesPlain_59 : decode cX8_takesPlain 59 = .ok (.iload_n 2, 1) := by decide +kernel
theorem dX8_takesPlain_60 : decode cX8_takesPlain 60 = .ok (.ifCond .eq 7, 3) := by decide +kernel
theorem dX8_takesPlain_63 : decode cX8_takesPlain 63 = .ok (.iconst 1, 1) := by decide +kernel
theorem dX8_takesPlain_64 : decode cX8_takesPlain 64 = .ok (.goto 7, 3) := by decide +kernel
theorem dX8_takesPlain_67 : decode cX8_takesPlain 67 = .ok (.aload_n 0, 1) := by decide +kernel
theorem dX8_takesPlain_68 : decode cX8_takesPlain 68 = .ok (.getfield 60, 3) := by decide +kernel
theorem dX8_takesPlain_71 : decode cX8_takesPlain 71 = .ok (.putfield 60, 3) := by decide +kernel
theorem dX8_takesPlain_74 : decode cX8_takesPlain 74 = .ok (.iload_n 2, 1) := by decide +kernel
theorem dX8_takesPlain_75 : decode cX8_takesPlain 75 = .ok (.ireturn, 1) := by decide +kernel
theorem dX8_takesPlain_76 : decode cX8_takesPlain 76 = .ok (.iload_n 1, 1) := by decide +kernel
theorem dX8_takesPlain_77 : decode cX8_takesPlain 77 = .ok (.invokestatic 63, 3) := by decide +kernel
theorem dX8_takesPlain_80 : decode cX8_takesPlain 80 = .ok (.ifCond .eq 23, 3) := by decide +kernel
theorem dX8_takesPlain_83 : decode cX8_takesPlain 83 = .ok (.aload_n 0, 1) := by decide +kernel
theorem dX8_takesPlain_84 : decode cX8_takesPlain 84 = .ok (.getfield 60, 3) := by decide +kernel
theorem dX8_takesPlain_87 : decode cX8_takesPlain 87 = .ok (.ifCond .ne 16, 3) := by decide +kernel
theorem dX8_takesPlain_90 : decode cX8_takesPlain 90 = .ok (.aload_n 0, 1) := by decide +kernel
theorem dX8_takesPlain_91 : decode cX8_takesPlain 91 = .ok (.getfield 57, 3) := by decide +kernel
theorem dX8_takesPlain_94 : decode cX8_takesPlain 94 = .ok (.bipush 12, 2) := by decide +kernel
theorem dX8_takesPlain_96 : decode cX8_takesPlain 96 = .ok (.if_icmp .ge 7, 3) := by decide +kernel
theorem dX8_takesPlain_99 : decode cX8_takesPlain 99 = .ok (.iconst 1, 1) := by decide +kernel
theorem dX8_takesPlain_100 : decode cX8_takesPlain 100 = .ok (.goto 4, 3) := by decide +kernel
theorem dX8_takesPlain_103 : decode cX8_takesPlain 103 = .ok (.iconst 0, 1) := by decide +kernel
theorem dX8_takesPlain_104 : decode cX8_takesPlain 104 = .ok (.istore_n 2, 1) := by decide +kernel
theorem dX8_takesPlain_105 : decode cX8_takesPlain 105 = .ok (.aload_n 0, 1) := by decide +kernel
theorem dX8_takesPlain_106 : decode cX8_takesPlain 106 = .ok (.dup, 1) := by decide +kernel
theorem dX8_takesPlain_107 : decode cX8_takesPlain 107 = .ok (.getfield 57, 3) := by decide +kernel
theorem dX8_takesPlain_110 : decode cX8_takesPlain 110 = .ok (.iload_n 2, 1) := by decide +kernel
theorem dX8_takesPlain_111 : decode cX8_takesPlain 111 = .ok (.ifCond .eq 7, 3) := by decide +kernel
theorem dX8_takesPlain_114 : decode cX8_takesPlain 114 = .ok (.iconst 1, 1) := by decide +kernel
theorem dX8_takesPlain_115 : decode cX8_takesPlain 115 = .ok (.goto 4, 3) := by decide +kernel
theorem dX8_takesPlain_118 : decode cX8_takesPlain 118 = .ok (.iconst 0, 1) := by decide +kernel
theorem dX8_takesPlain_119 : decode cX8_takesPlain 119 = .ok (.iadd, 1) := by decide +kernel
theorem dX8_takesPlain_120 : decode cX8_takesPlain 120 = .ok (.putfield 57, 3) := by decide +kernel
theorem dX8_takesPlain_123 : decode cX8_takesPlain 123 = .ok (.aload_n 0, 1) := by decide +kernel
theorem dX8_takesPlain_124 : decode cX8_takesPlain 124 = .ok (.aload_n 0, 1) := by decide +kernel
theorem dX8_takesPlain_125 : decode cX8_takesPlain 125 = .ok (.getfield 67, 3) := by decide +kernel
theorem dX8_takesPlain_128 : decode cX8_takesPlain 128 = .ok (.ifCond .eq 11, 3) := by decide +kernel
theorem dX8_takesPlain_131 : decode cX8_takesPlain 131 = .ok (.iload_n 2, 1) := by decide +kernel
theorem dX8_takesPlain_132 : decode cX8_takesPlain 132 = .ok (.ifCond .ne 7, 3) := by decide +kernel
theorem dX8_takesPlain_135 : decode cX8_takesPlain 135 = .ok (.iconst 1, 1) := by decide +kernel
theorem dX8_takesPlain_136 : decode cX8_takesPlain 136 = .ok (.goto 4, 3) := by decide +kernel
theorem dX8_takesPlain_139 : decode cX8_takesPlain 139 = .ok (.iconst 0, 1) := by decide +kernel
theorem dX8_takesPlain_140 : decode cX8_takesPlain 140 = .ok (.putfield 67, 3) := by decide +kernel
theorem dX8_takesPlain_143 : decode cX8_takesPlain 143 = .ok (.iload_n 2, 1) := by decide +kernel
theorem dX8_takesPlain_144 : decode cX8_takesPlain 144 = .ok (.ireturn, 1) := by decide +kernel
theorem dX8_takes_0 : decode cX8_takes 0 = .ok (.iload_n 1, 1) := by decide +kernel
theorem dX8_takes_1 : decode cX8_takes 1 = .ok (.bipush 32, 2) := by decide +kernel
theorem dX8_takes_3 : decode cX8_takes 3 = .ok (.if_icmp .ne 58, 3) := by decide +kernel
theorem dX8_takes_6 : decode cX8_takes 6 = .ok (.aload_n 0, 1) := by decide +kernel
theorem dX8_takes_7 : decode cX8_takes 7 = .ok (.invokevirtual 71, 3) := by decide +kernel
theorem dX8_takes_10 : decode cX8_takes 10 = .ok (.ifCond .eq 25, 3) := by decide +kernel
theorem dX8_takes_13 : decode cX8_takes 13 = .ok (.aload_n 0, 1) := by decide +kernel
theorem dX8_takes_14 : decode cX8_takes 14 = .ok (.getfield 75, 3) := by decide +kernel
theorem dX8_takes_17 : decode cX8_takes 17 = .ok (.iload_n 2, 1) := by decide +kernel
theorem dX8_takes_18 : decode cX8_takes 18 = .ok (.ifCond .eq 8, 3) := by decide +kernel
theorem dX8_takes_21 : decode cX8_takes 21 = .ok (.bipush 24, 2) := by decide +kernel
theorem dX8_takes_23 : decode cX8_takes 23 = .ok (.goto 5, 3) := by decide +kernel
theorem dX8_takes_26 : decode cX8_takes 26 = .ok (.bipush 12, 2) := by decide +kernel
theorem dX8_takes_28 : decode cX8_takes 28 = .ok (.if_icmp .ge 7, 3) := by decide +kernel
theorem dX8_takes_31 : decode cX8_takes 31 = .ok (.iconst 1, 1) := by decide +kernel
theorem dX8_takes_32 : decode cX8_takes 32 = .ok (.goto 4, 3) := by decide +kernel
theorem dX8_takes_35 : decode cX8_takes 35 = .ok (.iconst 0, 1) := by decide +kernel
theorem dX8_takes_36 : decode cX8_takes 36 = .ok (.istore_n 3, 1) := by decide +kernel
theorem dX8_takes_37 : decode cX8_takes 37 = .ok (.aload_n 0, 1) := by decide +kernel
theorem dX8_takes_38 : decode cX8_takes 38 = .ok (.dup, 1) := by decide +kernel
theorem dX8_takes_39 : decode cX8_takes 39 = .ok (.getfield 75, 3) := by decide +kernel
theorem dX8_takes_42 : decode cX8_takes 42 = .ok (.iload_n 3, 1) := by decide +kernel
theorem dX8_takes_43 : decode cX8_takes 43 = .ok (.ifCond .eq 7, 3) := by decide +kernel
theorem dX8_takes_46 : decode cX8_takes 46 = .ok (.iconst 1, 1) := by decide +kernel
theorem dX8_takes_47 : decode cX8_takes 47 = .ok (.goto 4, 3) := by decide +kernel
theorem dX8_takes_50 : decode cX8_takes 50 = .ok (.iconst 0, 1) := by decide +kernel
theorem dX8_takes_51 : decode cX8_takes 51 = .ok (.iadd, 1) := by decide +kernel
theorem dX8_takes_52 : decode cX8_takes 52 = .ok (.putfield 75, 3) := by decide +kernel
theorem dX8_takes_55 : decode cX8_takes 55 = .ok (.aload_n 0, 1) := by decide +kernel
theorem dX8_takes_56 : decode cX8_takes 56 = .ok (.iload_n 3, 1) := by decide +kernel
theorem dX8_takes_57 : decode cX8_takes 57 = .ok (.invokevirtual 78, 3) := by decide +kernel
theorem dX8_takes_60 : decode cX8_takes 60 = .ok (.ireturn, 1) := by decide +kernel
theorem dX8_takes_61 : decode cX8_takes 61 = .ok (.iload_n 1, 1) := by decide +kernel
theorem dX8_takes_62 : decode cX8_takes 62 = .ok (.bipush 124, 2) := by decide +kernel
theorem dX8_takes_64 : decode cX8_takes 64 = .ok (.if_icmp .ne 89, 3) := by decide +kernel
theorem dX8_takes_67 : decode cX8_takes 67 = .ok (.iload_n 2, 1) := by decide +kernel
theorem dX8_takes_68 : decode cX8_takes 68 = .ok (.ifCond .eq 23, 3) := by decide +kernel
theorem dX8_takes_71 : decode cX8_takes 71 = .ok (.aload_n 0, 1) := by decide +kernel
theorem dX8_takes_72 : decode cX8_takes 72 = .ok (.invokevirtual 71, 3) := by decide +kernel
theorem dX8_takes_75 : decode cX8_takes 75 = .ok (.ifCond .eq 16, 3) := by decide +kernel
theorem dX8_takes_78 : decode cX8_takes 78 = .ok (.aload_n 0, 1) := by decide +kernel
theorem dX8_takes_79 : decode cX8_takes 79 = .ok (.getfield 82, 3) := by decide +kernel
theorem dX8_takes_82 : decode cX8_takes 82 = .ok (.bipush 10, 2) := by decide +kernel
theorem dX8_takes_84 : decode cX8_takes 84 = .ok (.if_icmp .ge 7, 3) := by decide +kernel
theorem dX8_takes_87 : decode cX8_takes 87 = .ok (.iconst 1, 1) := by decide +kernel
theorem dX8_takes_88 : decode cX8_takes 88 = .ok (.goto 4, 3) := by decide +kernel
theorem dX8_takes_91 : decode cX8_takes 91 = .ok (.iconst 0, 1) := by decide +kernel
theorem dX8_takes_92 : decode cX8_takes 92 = .ok (.istore_n 3, 1) := by decide +kernel
theorem dX8_takes_93 : decode cX8_takes 93 = .ok (.aload_n 0, 1) := by decide +kernel
theorem dX8_takes_94 : decode cX8_takes 94 = .ok (.dup, 1) := by decide +kernel
theorem dX8_takes_95 : decode cX8_takes 95 = .ok (.getfield 82, 3) := by decide +kernel
theorem dX8_takes_98 : decode cX8_takes 98 = .ok (.iload_n 3, 1) := by decide +kernel
theorem dX8_takes_99 : decode cX8_takes 99 = .ok (.ifCond .eq 7, 3) := by decide +kernel
theorem dX8_takes_102 : decode cX8_takes 102 = .ok (.iconst 1, 1) := by decide +kernel
theorem dX8_takes_103 : decode cX8_takes 103 = .ok (.goto 4, 3) := by decide +kernel
theorem dX8_takes_106 : decode cX8_takes 106 = .ok (.iconst 0, 1) := by decide +kernel
theorem dX8_takes_107 : decode cX8_takes 107 = .ok (.iadd, 1) := by decide +kernel
theorem dX8_takes_108 : decode cX8_takes 108 = .ok (.putfield 82, 3) := by decide +kernel
theorem dX8_takes_111 : decode cX8_takes 111 = .ok (.aload_n 0, 1) := by decide +kernel
theorem dX8_takes_112 : decode cX8_takes 112 = .ok (.iload_n 3, 1) := by decide +kernel
theorem dX8_takes_113 : decode cX8_takes 113 = .ok (.ifCond .eq 7, 3) := by decide +kernel
theorem dX8_takes_116 : decode cX8_takes 116 = .ok (.iconst 1, 1) := by decide +kernel
theorem dX8_takes_117 : decode cX8_takes 117 = .ok (.goto 7, 3) := by decide +kernel
theorem dX8_takes_120 : decode cX8_takes 120 = .ok (.aload_n 0, 1) := by decide +kernel
theorem dX8_takes_121 : decode cX8_takes 121 = .ok (.getfield 75, 3) := by decide +kernel
theorem dX8_takes_124 : decode cX8_takes 124 = .ok (.putfield 75, 3) := by decide +kernel
theorem dX8_takes_127 : decode cX8_takes 127 = .ok (.aload_n 0, 1) := by decide +kernel
theorem dX8_takes_128 : decode cX8_takes 128 = .ok (.iload_n 3, 1) := by decide +kernel
theorem dX8_takes_129 : decode cX8_takes 129 = .ok (.ifCond .ne 10, 3) := by decide +kernel
theorem dX8_takes_132 : decode cX8_takes 132 = .ok (.aload_n 0, 1) := by decide +kernel
theorem dX8_takes_133 : decode cX8_takes 133 = .ok (.getfield 67, 3) := by decide +kernel
theorem dX8_takes_136 : decode cX8_takes 136 = .ok (.ifCond .eq 7, 3) := by decide +kernel
theorem dX8_takes_139 : decode cX8_takes 139 = .ok (.iconst 1, 1) := by decide +kernel
theorem dX8_takes_140 : decode cX8_takes 140 = .ok (.goto 4, 3) := by decide +kernel
theorem dX8_takes_143 : decode cX8_takes 143 = .ok (.iconst 0, 1) := by decide +kernel
theorem dX8_takes_144 : decode cX8_takes 144 = .ok (.putfield 67, 3) := by decide +kernel
theorem dX8_takes_147 : decode cX8_takes 147 = .ok (.aload_n 0, 1) := by decide +kernel
theorem dX8_takes_148 : decode cX8_takes 148 = .ok (.iload_n 3, 1) := by decide +kernel
theorem dX8_takes_149 : decode cX8_takes 149 = .ok (.invokevirtual 78, 3) := by decide +kernel
theorem dX8_takes_152 : decode cX8_takes 152 = .ok (.ireturn, 1) := by decide +kernel
theorem dX8_takes_153 : decode cX8_takes 153 = .ok (.iload_n 1, 1) := by decide +kernel
theorem dX8_takes_154 : decode cX8_takes 154 = .ok (.bipush 35, 2) := by decide +kernel
theorem dX8_takes_156 : decode cX8_takes 156 = .ok (.if_icmp .eq 9, 3) := by decide +kernel
theorem dX8_takes_159 : decode cX8_takes 159 = .ok (.iload_n 1, 1) := by decide +kernel
theorem dX8_takes_160 : decode cX8_takes 160 = .ok (.bipush 62, 2) := by decide +kernel
theorem dX8_takes_162 : decode cX8_takes 162 = .ok (.if_icmp .ne 27, 3) := by decide +kernel
theorem dX8_takes_165 : decode cX8_takes 165 = .ok (.iload_n 2, 1) := by decide +kernel
theorem dX8_takes_166 : decode cX8_takes 166 = .ok (.ifCond .eq 14, 3) := by decide +kernel
theorem dX8_takes_169 : decode cX8_takes 169 = .ok (.aload_n 0, 1) := by decide +kernel
theorem dX8_takes_170 : decode cX8_takes 170 = .ok (.getfield 67, 3) := by decide +kernel
theorem dX8_takes_173 : decode cX8_takes 173 = .ok (.ifCond .eq 7, 3) := by decide +kernel
theorem dX8_takes_176 : decode cX8_takes 176 = .ok (.iconst 1, 1) := by decide +kernel
theorem dX8_takes_177 : decode cX8_takes 177 = .ok (.goto 4, 3) := by decide +kernel
theorem dX8_takes_180 : decode cX8_takes 180 = .ok (.iconst 0, 1) := by decide +kernel
theorem dX8_takes_181 : decode cX8_takes 181 = .ok (.istore_n 3, 1) := by decide +kernel
theorem dX8_takes_182 : decode cX8_takes 182 = .ok (.aload_n 0, 1) := by decide +kernel
theorem dX8_takes_183 : decode cX8_takes 183 = .ok (.iconst 0, 1) := by decide +kernel
theorem dX8_takes_184 : decode cX8_takes 184 = .ok (.putfield 67, 3) := by decide +kernel
theorem dX8_takes_187 : decode cX8_takes 187 = .ok (.iload_n 3, 1) := by decide +kernel
theorem dX8_takes_188 : decode cX8_takes 188 = .ok (.ireturn, 1) := by decide +kernel
theorem dX8_takes_189 : decode cX8_takes 189 = .ok (.aload_n 0, 1) := by decide +kernel
theorem dX8_takes_190 : decode cX8_takes 190 = .ok (.iload_n 1, 1) := by decide +kernel
theorem dX8_takes_191 : decode cX8_takes 191 = .ok (.invokevirtual 85, 3) := by decide +kernel
theorem dX8_takes_194 : decode cX8_takes 194 = .ok (.ireturn, 1) := by decide +kernel
theorem dX8_rightLength_0 : decode cX8_rightLength 0 = .ok (.aload_n 0, 1) := by decide +kernel
theorem dX8_rightLength_1 : decode cX8_rightLength 1 = .ok (.iconst 0, 1) := by decide +kernel
theorem dX8_rightLength_2 : decode cX8_rightLength 2 = .ok (.putfield 57, 3) := by decide +kernel
theorem dX8_rightLength_5 : decode cX8_rightLength 5 = .ok (.aload_n 0, 1) := by decide +kernel
theorem dX8_rightLength_6 : decode cX8_rightLength 6 = .ok (.iconst 0, 1) := by decide +kernel
theorem dX8_rightLength_7 : decode cX8_rightLength 7 = .ok (.putfield 60, 3) := by decide +kernel
theorem dX8_rightLength_10 : decode cX8_rightLength 10 = .ok (.aload_n 0, 1) := by decide +kernel
theorem dX8_rightLength_11 : decode cX8_rightLength 11 = .ok (.iconst 1, 1) := by decide +kernel
theorem dX8_rightLength_12 : decode cX8_rightLength 12 = .ok (.putfield 75, 3) := by decide +kernel
theorem dX8_rightLength_15 : decode cX8_rightLength 15 = .ok (.aload_n 0, 1) := by decide +kernel
theorem dX8_rightLength_16 : decode cX8_rightLength 16 = .ok (.iconst 1, 1) := by decide +kernel
theorem dX8_rightLength_17 : decode cX8_rightLength 17 = .ok (.putfield 82, 3) := by decide +kernel
theorem dX8_rightLength_20 : decode cX8_rightLength 20 = .ok (.aload_n 0, 1) := by decide +kernel
theorem dX8_rightLength_21 : decode cX8_rightLength 21 = .ok (.iconst 1, 1) := by decide +kernel
theorem dX8_rightLength_22 : decode cX8_rightLength 22 = .ok (.putfield 67, 3) := by decide +kernel
theorem dX8_rightLength_25 : decode cX8_rightLength 25 = .ok (.iconst 0, 1) := by decide +kernel
theorem dX8_rightLength_26 : decode cX8_rightLength 26 = .ok (.istore_n 2, 1) := by decide +kernel
theorem dX8_rightLength_27 : decode cX8_rightLength 27 = .ok (.iload_n 2, 1) := by decide +kernel
theorem dX8_rightLength_28 : decode cX8_rightLength 28 = .ok (.aload_n 0, 1) := by decide +kernel
theorem dX8_rightLength_29 : decode cX8_rightLength 29 = .ok (.getfield 54, 3) := by decide +kernel
theorem dX8_rightLength_32 : decode cX8_rightLength 32 = .ok (.if_icmp .ge 23, 3) := by decide +kernel
theorem dX8_rightLength_35 : decode cX8_rightLength 35 = .ok (.aload_n 0, 1) := by decide +kernel
theorem dX8_rightLength_36 : decode cX8_rightLength 36 = .ok (.aload_n 0, 1) := by decide +kernel
theorem dX8_rightLength_37 : decode cX8_rightLength 37 = .ok (.getfield 32, 3) := by decide +kernel
theorem dX8_rightLength_40 : decode cX8_rightLength 40 = .ok (.iload_n 2, 1) := by decide +kernel
theorem dX8_rightLength_41 : decode cX8_rightLength 41 = .ok (.iaload, 1) := by decide +kernel
theorem dX8_rightLength_42 : decode cX8_rightLength 42 = .ok (.iload_n 1, 1) := by decide +kernel
theorem dX8_rightLength_43 : decode cX8_rightLength 43 = .ok (.invokevirtual 88, 3) := by decide +kernel
theorem dX8_rightLength_46 : decode cX8_rightLength 46 = .ok (.ifCond .eq 9, 3) := by decide +kernel
theorem dX8_rightLength_49 : decode cX8_rightLength 49 = .ok (.iinc 2 1, 3) := by decide +kernel
theorem dX8_rightLength_52 : decode cX8_rightLength 52 = .ok (.goto (-25), 3) := by decide +kernel
theorem dX8_rightLength_55 : decode cX8_rightLength 55 = .ok (.iload_n 2, 1) := by decide +kernel
theorem dX8_rightLength_56 : decode cX8_rightLength 56 = .ok (.ireturn, 1) := by decide +kernel
theorem dX8_isText_0 : decode cX8_isText 0 = .ok (.aload_n 0, 1) := by decide +kernel
theorem dX8_isText_1 : decode cX8_isText 1 = .ok (.iload_n 1, 1) := by decide +kernel
theorem dX8_isText_2 : decode cX8_isText 2 = .ok (.invokevirtual 92, 3) := by decide +kernel
theorem dX8_isText_5 : decode cX8_isText 5 = .ok (.aload_n 0, 1) := by decide +kernel
theorem dX8_isText_6 : decode cX8_isText 6 = .ok (.getfield 54, 3) := by decide +kernel
theorem dX8_isText_9 : decode cX8_isText 9 = .ok (.if_icmp .ne 14, 3) := by decide +kernel
theorem dX8_isText_12 : decode cX8_isText 12 = .ok (.aload_n 0, 1) := by decide +kernel
theorem dX8_isText_13 : decode cX8_isText 13 = .ok (.invokevirtual 71, 3) := by decide +kernel
theorem dX8_isText_16 : decode cX8_isText 16 = .ok (.ifCond .eq 7, 3) := by decide +kernel
theorem dX8_isText_19 : decode cX8_isText 19 = .ok (.iconst 1, 1) := by decide +kernel
theorem dX8_isText_20 : decode cX8_isText 20 = .ok (.goto 4, 3) := by decide +kernel
theorem dX8_isText_23 : decode cX8_isText 23 = .ok (.iconst 0, 1) := by decide +kernel
theorem dX8_isText_24 : decode cX8_isText 24 = .ok (.ireturn, 1) := by decide +kernel
theorem dX8_firstError_0 : decode cX8_firstError 0 = .ok (.aload_n 0, 1) := by decide +kernel
theorem dX8_firstError_1 : decode cX8_firstError 1 = .ok (.iconst 0, 1) := by decide +kernel
theorem dX8_firstError_2 : decode cX8_firstError 2 = .ok (.putfield 47, 3) := by decide +kernel
theorem dX8_firstError_5 : decode cX8_firstError 5 = .ok (.aload_n 0, 1) := by decide +kernel
theorem dX8_firstError_6 : decode cX8_firstError 6 = .ok (.iload_n 1, 1) := by decide +kernel
theorem dX8_firstError_7 : decode cX8_firstError 7 = .ok (.invokevirtual 92, 3) := by decide +kernel
theorem dX8_firstError_10 : decode cX8_firstError 10 = .ok (.ireturn, 1) := by decide +kernel
theorem dX8_layBook_0 : decode cX8_layBook 0 = .ok (.iconst 0, 1) := by decide +kernel
theorem dX8_layBook_1 : decode cX8_layBook 1 = .ok (.istore_n 1, 1) := by decide +kernel
theorem dX8_layBook_2 : decode cX8_layBook 2 = .ok (.iload_n 1, 1) := by decide +kernel
theorem dX8_layBook_3 : decode cX8_layBook 3 = .ok (.bipush 95, 2) := by decide +kernel
theorem dX8_layBook_5 : decode cX8_layBook 5 = .ok (.if_icmp .ge 16, 3) := by decide +kernel
theorem dX8_layBook_8 : decode cX8_layBook 8 = .ok (.aload_n 0, 1) := by decide +kernel
theorem dX8_layBook_9 : decode cX8_layBook 9 = .ok (.getfield 7, 3) := by decide +kernel
theorem dX8_layBook_12 : decode cX8_layBook 12 = .ok (.iload_n 1, 1) := by decide +kernel
theorem dX8_layBook_13 : decode cX8_layBook 13 = .ok (.iconst 0, 1) := by decide +kernel
theorem dX8_layBook_14 : decode cX8_layBook 14 = .ok (.iastore, 1) := by decide +kernel
theorem dX8_layBook_15 : decode cX8_layBook 15 = .ok (.iinc 1 1, 3) := by decide +kernel
theorem dX8_layBook_18 : decode cX8_layBook 18 = .ok (.goto (-16), 3) := by decide +kernel
theorem dX8_layBook_21 : decode cX8_layBook 21 = .ok (.aload_n 0, 1) := by decide +kernel
theorem dX8_layBook_22 : decode cX8_layBook 22 = .ok (.getfield 7, 3) := by decide +kernel
theorem dX8_layBook_25 : decode cX8_layBook 25 = .ok (.iconst 0, 1) := by decide +kernel
theorem dX8_layBook_26 : decode cX8_layBook 26 = .ok (.iconst 1, 1) := by decide +kernel
theorem dX8_layBook_27 : decode cX8_layBook 27 = .ok (.iastore, 1) := by decide +kernel
theorem dX8_layBook_28 : decode cX8_layBook 28 = .ok (.iconst 0, 1) := by decide +kernel
theorem dX8_layBook_29 : decode cX8_layBook 29 = .ok (.istore_n 1, 1) := by decide +kernel
theorem dX8_layBook_30 : decode cX8_layBook 30 = .ok (.iload_n 1, 1) := by decide +kernel
theorem dX8_layBook_31 : decode cX8_layBook 31 = .ok (.aload_n 0, 1) := by decide +kernel
theorem dX8_layBook_32 : decode cX8_layBook 32 = .ok (.getfield 54, 3) := by decide +kernel
theorem dX8_layBook_35 : decode cX8_layBook 35 = .ok (.if_icmp .ge 116, 3) := by decide +kernel
theorem dX8_layBook_38 : decode cX8_layBook 38 = .ok (.aload_n 0, 1) := by decide +kernel
theorem dX8_layBook_39 : decode cX8_layBook 39 = .ok (.getfield 7, 3) := by decide +kernel
theorem dX8_layBook_42 : decode cX8_layBook 42 = .ok (.iconst 0, 1) := by decide +kernel
theorem dX8_layBook_43 : decode cX8_layBook 43 = .ok (.iaload, 1) := by decide +kernel
theorem dX8_layBook_44 : decode cX8_layBook 44 = .ok (.iconst 1, 1) := by decide +kernel
theorem dX8_layBook_45 : decode cX8_layBook 45 = .ok (.isub, 1) := by decide +kernel
theorem dX8_layBook_46 : decode cX8_layBook 46 = .ok (.istore_n 2, 1) := by decide +kernel
theorem dX8_layBook_47 : decode cX8_layBook 47 = .ok (.aload_n 0, 1) := by decide +kernel
theorem dX8_layBook_48 : decode cX8_layBook 48 = .ok (.getfield 32, 3) := by decide +kernel
theorem dX8_layBook_51 : decode cX8_layBook 51 = .ok (.iload_n 1, 1) := by decide +kernel
theorem dX8_layBook_52 : decode cX8_layBook 52 = .ok (.iaload, 1) := by decide +kernel
theorem dX8_layBook_53 : decode cX8_layBook 53 = .ok (.istore_n 3, 1) := by decide +kernel
theorem dX8_layBook_54 : decode cX8_layBook 54 = .ok (.iload_n 3, 1) := by decide +kernel
theorem dX8_layBook_55 : decode cX8_layBook 55 = .ok (.bipush 124, 2) := by decide +kernel
theorem dX8_layBook_57 : decode cX8_layBook 57 = .ok (.if_icmp .ne 16, 3) := by decide +kernel
theorem dX8_layBook_60 : decode cX8_layBook 60 = .ok (.aload_n 0, 1) := by decide +kernel
theorem dX8_layBook_61 : decode cX8_layBook 61 = .ok (.getfield 7, 3) := by decide +kernel
theorem dX8_layBook_64 : decode cX8_layBook 64 = .ok (.iconst 0, 1) := by decide +kernel
theorem dX8_layBook_65 : decode cX8_layBook 65 = .ok (.dup2, 1) := by decide +kernel
theorem dX8_layBook_66 : decode cX8_layBook 66 = .ok (.iaload, 1) := by decide +kernel
theorem dX8_layBook_67 : decode cX8_layBook 67 = .ok (.iconst 1, 1) := by decide +kernel
theorem dX8_layBook_68 : decode cX8_layBook 68 = .ok (.iadd, 1) := by decide +kernel
theorem dX8_layBook_69 : decode cX8_layBook 69 = .ok (.iastore, 1) := by decide +kernel
theorem dX8_layBook_70 : decode cX8_layBook 70 = .ok (.goto 75, 3) := by decide +kernel
theorem dX8_layBook_73 : decode cX8_layBook 73 = .ok (.iload_n 3, 1) := by decide +kernel
theorem dX8_layBook_74 : decode cX8_layBook 74 = .ok (.bipush 35, 2) := by decide +kernel
theorem dX8_layBook_76 : decode cX8_layBook 76 = .ok (.if_icmp .eq 9, 3) := by decide +kernel
theorem dX8_layBook_79 : decode cX8_layBook 79 = .ok (.iload_n 3, 1) := by decide +kernel
theorem dX8_layBook_80 : decode cX8_layBook 80 = .ok (.bipush 62, 2) := by decide +kernel
theorem dX8_layBook_82 : decode cX8_layBook 82 = .ok (.if_icmp .ne 26, 3) := by decide +kernel
theorem dX8_layBook_85 : decode cX8_layBook 85 = .ok (.aload_n 0, 1) := by decide +kernel
theorem dX8_layBook_86 : decode cX8_layBook 86 = .ok (.getfield 7, 3) := by decide +kernel
theorem dX8_layBook_89 : decode cX8_layBook 89 = .ok (.bipush 75, 2) := by decide +kernel
theorem dX8_layBook_91 : decode cX8_layBook 91 = .ok (.iload_n 2, 1) := by decide +kernel
theorem dX8_layBook_92 : decode cX8_layBook 92 = .ok (.iadd, 1) := by decide +kernel
theorem dX8_layBook_93 : decode cX8_layBook 93 = .ok (.iload_n 3, 1) := by decide +kernel
theorem dX8_layBook_94 : decode cX8_layBook 94 = .ok (.bipush 35, 2) := by decide +kernel
theorem dX8_layBook_96 : decode cX8_layBook 96 = .ok (.if_icmp .ne 7, 3) := by decide +kernel
theorem dX8_layBook_99 : decode cX8_layBook 99 = .ok (.iconst 1, 1) := by decide +kernel
theorem dX8_layBook_100 : decode cX8_layBook 100 = .ok (.goto 4, 3) := by decide +kernel
theorem dX8_layBook_103 : decode cX8_layBook 103 = .ok (.iconst 2, 1) := by decide +kernel
theorem dX8_layBook_104 : decode cX8_layBook 104 = .ok (.iastore, 1) := by decide +kernel
theorem dX8_layBook_105 : decode cX8_layBook 105 = .ok (.goto 40, 3) := by decide +kernel
theorem dX8_layBook_108 : decode cX8_layBook 108 = .ok (.aload_n 0, 1) := by decide +kernel
theorem dX8_layBook_109 : decode cX8_layBook 109 = .ok (.getfield 7, 3) := by decide +kernel
theorem dX8_layBook_112 : decode cX8_layBook 112 = .ok (.bipush 95, 2) := by decide +kernel
theorem dX8_layBook_114 : decode cX8_layBook 114 = .ok (.sipush 360, 3) := by decide +kernel
theorem dX8_layBook_117 : decode cX8_layBook 117 = .ok (.iload_n 2, 1) := by decide +kernel
theorem dX8_layBook_118 : decode cX8_layBook 118 = .ok (.imul, 1) := by decide +kernel
theorem dX8_layBook_119 : decode cX8_layBook 119 = .ok (.iadd, 1) := by decide +kernel
theorem dX8_layBook_120 : decode cX8_layBook 120 = .ok (.aload_n 0, 1) := by decide +kernel
theorem dX8_layBook_121 : decode cX8_layBook 121 = .ok (.getfield 7, 3) := by decide +kernel
theorem dX8_layBook_124 : decode cX8_layBook 124 = .ok (.bipush 85, 2) := by decide +kernel
theorem dX8_layBook_126 : decode cX8_layBook 126 = .ok (.iload_n 2, 1) := by decide +kernel
theorem dX8_layBook_127 : decode cX8_layBook 127 = .ok (.iadd, 1) := by decide +kernel
theorem dX8_layBook_128 : decode cX8_layBook 128 = .ok (.iaload, 1) := by decide +kernel
theorem dX8_layBook_129 : decode cX8_layBook 129 = .ok (.iadd, 1) := by decide +kernel
theorem dX8_layBook_130 : decode cX8_layBook 130 = .ok (.iload_n 3, 1) := by decide +kernel
theorem dX8_layBook_131 : decode cX8_layBook 131 = .ok (.iastore, 1) := by decide +kernel
theorem dX8_layBook_132 : decode cX8_layBook 132 = .ok (.aload_n 0, 1) := by decide +kernel
theorem dX8_layBook_133 : decode cX8_layBook 133 = .ok (.getfield 7, 3) := by decide +kernel
theorem dX8_layBook_136 : decode cX8_layBook 136 = .ok (.bipush 85, 2) := by decide +kernel
theorem dX8_layBook_138 : decode cX8_layBook 138 = .ok (.iload_n 2, 1) := by decide +kernel
theorem dX8_layBook_139 : decode cX8_layBook 139 = .ok (.iadd, 1) := by decide +kernel
theorem dX8_layBook_140 : decode cX8_layBook 140 = .ok (.dup2, 1) := by decide +kernel
theorem dX8_layBook_141 : decode cX8_layBook 141 = .ok (.iaload, 1) := by decide +kernel
theorem dX8_layBook_142 : decode cX8_layBook 142 = .ok (.iconst 1, 1) := by decide +kernel
theorem dX8_layBook_143 : decode cX8_layBook 143 = .ok (.iadd, 1) := by decide +kernel
theorem dX8_layBook_144 : decode cX8_layBook 144 = .ok (.iastore, 1) := by decide +kernel
theorem dX8_layBook_145 : decode cX8_layBook 145 = .ok (.iinc 1 1, 3) := by decide +kernel
theorem dX8_layBook_148 : decode cX8_layBook 148 = .ok (.goto (-118), 3) := by decide +kernel
theorem dX8_layBook_151 : decode cX8_layBook 151 = .ok (.return_, 1) := by decide +kernel
theorem dX8_load_0 : decode cX8_load 0 = .ok (.aload_n 0, 1) := by decide +kernel
theorem dX8_load_1 : decode cX8_load 1 = .ok (.aload_n 0, 1) := by decide +kernel
theorem dX8_load_2 : decode cX8_load 2 = .ok (.iconst 1, 1) := by decide +kernel
theorem dX8_load_3 : decode cX8_load 3 = .ok (.invokevirtual 96, 3) := by decide +kernel
theorem dX8_load_6 : decode cX8_load 6 = .ok (.ifCond .eq 7, 3) := by decide +kernel
theorem dX8_load_9 : decode cX8_load 9 = .ok (.iconst 0, 1) := by decide +kernel
theorem dX8_load_10 : decode cX8_load 10 = .ok (.goto 4, 3) := by decide +kernel
theorem dX8_load_13 : decode cX8_load 13 = .ok (.iconst 1, 1) := by decide +kernel
theorem dX8_load_14 : decode cX8_load 14 = .ok (.putfield 47, 3) := by decide +kernel
theorem dX8_load_17 : decode cX8_load 17 = .ok (.aload_n 0, 1) := by decide +kernel
theorem dX8_load_18 : decode cX8_load 18 = .ok (.getfield 47, 3) := by decide +kernel
theorem dX8_load_21 : decode cX8_load 21 = .ok (.ifCond .le 5, 3) := by decide +kernel
theorem dX8_load_24 : decode cX8_load 24 = .ok (.iconst 0, 1) := by decide +kernel
theorem dX8_load_25 : decode cX8_load 25 = .ok (.ireturn, 1) := by decide +kernel
theorem dX8_load_26 : decode cX8_load 26 = .ok (.aload_n 0, 1) := by decide +kernel
theorem dX8_load_27 : decode cX8_load 27 = .ok (.invokevirtual 99, 3) := by decide +kernel
theorem dX8_load_30 : decode cX8_load 30 = .ok (.aload_n 0, 1) := by decide +kernel
theorem dX8_load_31 : decode cX8_load 31 = .ok (.iconst 0, 1) := by decide +kernel
theorem dX8_load_32 : decode cX8_load 32 = .ok (.putfield 102, 3) := by decide +kernel
theorem dX8_load_35 : decode cX8_load 35 = .ok (.aload_n 0, 1) := by decide +kernel
theorem dX8_load_36 : decode cX8_load 36 = .ok (.iconst 0, 1) := by decide +kernel
theorem dX8_load_37 : decode cX8_load 37 = .ok (.putfield 54, 3) := by decide +kernel
theorem dX8_load_40 : decode cX8_load 40 = .ok (.aload_n 0, 1) := by decide +kernel
theorem dX8_load_41 : decode cX8_load 41 = .ok (.getfield 7, 3) := by decide +kernel
theorem dX8_load_44 : decode cX8_load 44 = .ok (.iconst 0, 1) := by decide +kernel
theorem dX8_load_45 : decode cX8_load 45 = .ok (.iaload, 1) := by decide +kernel
theorem dX8_load_46 : decode cX8_load 46 = .ok (.ireturn, 1) := by decide +kernel
theorem dX8_noteWords_0 : decode cX8_noteWords 0 = .ok (.aload_n 0, 1) := by decide +kernel
theorem dX8_noteWords_1 : decode cX8_noteWords 1 = .ok (.getfield 19, 3) := by decide +kernel
theorem dX8_noteWords_4 : decode cX8_noteWords 4 = .ok (.iload_n 1, 1) := by decide +kernel
theorem dX8_noteWords_5 : decode cX8_noteWords 5 = .ok (.iaload, 1) := by decide +kernel
theorem dX8_noteWords_6 : decode cX8_noteWords 6 = .ok (.ifCond .le 7, 3) := by decide +kernel
theorem dX8_noteWords_9 : decode cX8_noteWords 9 = .ok (.iconst 1, 1) := by decide +kernel
theorem dX8_noteWords_10 : decode cX8_noteWords 10 = .ok (.goto 4, 3) := by decide +kernel
theorem dX8_noteWords_13 : decode cX8_noteWords 13 = .ok (.iconst 0, 1) := by decide +kernel
theorem dX8_noteWords_14 : decode cX8_noteWords 14 = .ok (.istore_n 2, 1) := by decide +kernel
theorem dX8_noteWords_15 : decode cX8_noteWords 15 = .ok (.iconst 0, 1) := by decide +kernel
theorem dX8_noteWords_16 : decode cX8_noteWords 16 = .ok (.istore_n 3, 1) := by decide +kernel
theorem dX8_noteWords_17 : decode cX8_noteWords 17 = .ok (.iload_n 3, 1) := by decide +kernel
theorem dX8_noteWords_18 : decode cX8_noteWords 18 = .ok (.aload_n 0, 1) := by decide +kernel
theorem dX8_noteWords_19 : decode cX8_noteWords 19 = .ok (.getfield 19, 3) := by decide +kernel
theorem dX8_noteWords_22 : decode cX8_noteWords 22 = .ok (.iload_n 1, 1) := by decide +kernel
theorem dX8_noteWords_23 : decode cX8_noteWords 23 = .ok (.iaload, 1) := by decide +kernel
theorem dX8_noteWords_24 : decode cX8_noteWords 24 = .ok (.if_icmp .ge 33, 3) := by decide +kernel
theorem dX8_noteWords_27 : decode cX8_noteWords 27 = .ok (.iload_n 2, 1) := by decide +kernel
theorem dX8_noteWords_28 : decode cX8_noteWords 28 = .ok (.aload_n 0, 1) := by decide +kernel
theorem dX8_noteWords_29 : decode cX8_noteWords 29 = .ok (.getfield 16, 3) := by decide +kernel
theorem dX8_noteWords_32 : decode cX8_noteWords 32 = .ok (.bipush 100, 2) := by decide +kernel
theorem dX8_noteWords_34 : decode cX8_noteWords 34 = .ok (.iload_n 1, 1) := by decide +kernel
theorem dX8_noteWords_35 : decode cX8_noteWords 35 = .ok (.imul, 1) := by decide +kernel
theorem dX8_noteWords_36 : decode cX8_noteWords 36 = .ok (.iload_n 3, 1) := by decide +kernel
theorem dX8_noteWords_37 : decode cX8_noteWords 37 = .ok (.iadd, 1) := by decide +kernel
theorem dX8_noteWords_38 : decode cX8_noteWords 38 = .ok (.iaload, 1) := by decide +kernel
theorem dX8_noteWords_39 : decode cX8_noteWords 39 = .ok (.bipush 32, 2) := by decide +kernel
theorem dX8_noteWords_41 : decode cX8_noteWords 41 = .ok (.if_icmp .ne 7, 3) := by decide +kernel
theorem dX8_noteWords_44 : decode cX8_noteWords 44 = .ok (.iconst 1, 1) := by decide +kernel
theorem dX8_noteWords_45 : decode cX8_noteWords 45 = .ok (.goto 4, 3) := by decide +kernel
theorem dX8_noteWords_48 : decode cX8_noteWords 48 = .ok (.iconst 0, 1) := by decide +kernel
theorem dX8_noteWords_49 : decode cX8_noteWords 49 = .ok (.iadd, 1) := by decide +kernel
theorem dX8_noteWords_50 : decode cX8_noteWords 50 = .ok (.istore_n 2, 1) := by decide +kernel
theorem dX8_noteWords_51 : decode cX8_noteWords 51 = .ok (.iinc 3 1, 3) := by decide +kernel
theorem dX8_noteWords_54 : decode cX8_noteWords 54 = .ok (.goto (-37), 3) := by decide +kernel
theorem dX8_noteWords_57 : decode cX8_noteWords 57 = .ok (.iload_n 2, 1) := by decide +kernel
theorem dX8_noteWords_58 : decode cX8_noteWords 58 = .ok (.ireturn, 1) := by decide +kernel
theorem dX8_setNote_0 : decode cX8_setNote 0 = .ok (.aload_n 0, 1) := by decide +kernel
theorem dX8_setNote_1 : decode cX8_setNote 1 = .ok (.iload_n 1, 1) := by decide +kernel
theorem dX8_setNote_2 : decode cX8_setNote 2 = .ok (.iconst 0, 1) := by decide +kernel
theorem dX8_setNote_3 : decode cX8_setNote 3 = .ok (.bipush 9, 2) := by decide +kernel
theorem dX8_setNote_5 : decode cX8_setNote 5 = .ok (.invokestatic 50, 3) := by decide +kernel
theorem dX8_setNote_8 : decode cX8_setNote 8 = .ok (.ifCond .ne 7, 3) := by decide +kernel
theorem dX8_setNote_11 : decode cX8_setNote 11 = .ok (.iconst 1, 1) := by decide +kernel
theorem dX8_setNote_12 : decode cX8_setNote 12 = .ok (.goto 16, 3) := by decide +kernel
theorem dX8_setNote_15 : decode cX8_setNote 15 = .ok (.aload_n 0, 1) := by decide +kernel
theorem dX8_setNote_16 : decode cX8_setNote 16 = .ok (.iconst 0, 1) := by decide +kernel
theorem dX8_setNote_17 : decode cX8_setNote 17 = .ok (.invokevirtual 96, 3) := by decide +kernel
theorem dX8_setNote_20 : decode cX8_setNote 20 = .ok (.ifCond .eq 7, 3) := by decide +kernel
theorem dX8_setNote_23 : decode cX8_setNote 23 = .ok (.iconst 0, 1) := by decide +kernel
theorem dX8_setNote_24 : decode cX8_setNote 24 = .ok (.goto 4, 3) := by decide +kernel
theorem dX8_setNote_27 : decode cX8_setNote 27 = .ok (.iconst 2, 1) := by decide +kernel
theorem dX8_setNote_28 : decode cX8_setNote 28 = .ok (.putfield 47, 3) := by decide +kernel
theorem dX8_setNote_31 : decode cX8_setNote 31 = .ok (.aload_n 0, 1) := by decide +kernel
theorem dX8_setNote_32 : decode cX8_setNote 32 = .ok (.getfield 47, 3) := by decide +kernel
theorem dX8_setNote_35 : decode cX8_setNote 35 = .ok (.ifCond .le 5, 3) := by decide +kernel
theorem dX8_setNote_38 : decode cX8_setNote 38 = .ok (.iconst 0, 1) := by decide +kernel
theorem dX8_setNote_39 : decode cX8_setNote 39 = .ok (.ireturn, 1) := by decide +kernel
theorem dX8_setNote_40 : decode cX8_setNote 40 = .ok (.aload_n 0, 1) := by decide +kernel
theorem dX8_setNote_41 : decode cX8_setNote 41 = .ok (.iload_n 1, 1) := by decide +kernel
theorem dX8_setNote_42 : decode cX8_setNote 42 = .ok (.invokevirtual 105, 3) := by decide +kernel
theorem dX8_setNote_45 : decode cX8_setNote 45 = .ok (.istore_n 2, 1) := by decide +kernel
theorem dX8_setNote_46 : decode cX8_setNote 46 = .ok (.iconst 0, 1) := by decide +kernel
theorem dX8_setNote_47 : decode cX8_setNote 47 = .ok (.istore_n 3, 1) := by decide +kernel
theorem dX8_setNote_48 : decode cX8_setNote 48 = .ok (.iload_n 3, 1) := by decide +kernel
theorem dX8_setNote_49 : decode cX8_setNote 49 = .ok (.aload_n 0, 1) := by decide +kernel
theorem dX8_setNote_50 : decode cX8_setNote 50 = .ok (.getfield 54, 3) := by decide +kernel
theorem dX8_setNote_53 : decode cX8_setNote 53 = .ok (.if_icmp .ge 26, 3) := by decide +kernel
theorem dX8_setNote_56 : decode cX8_setNote 56 = .ok (.aload_n 0, 1) := by decide +kernel
theorem dX8_setNote_57 : decode cX8_setNote 57 = .ok (.getfield 16, 3) := by decide +kernel
theorem dX8_setNote_60 : decode cX8_setNote 60 = .ok (.bipush 100, 2) := by decide +kernel
theorem dX8_setNote_62 : decode cX8_setNote 62 = .ok (.iload_n 1, 1) := by decide +kernel
theorem dX8_setNote_63 : decode cX8_setNote 63 = .ok (.imul, 1) := by decide +kernel
theorem dX8_setNote_64 : decode cX8_setNote 64 = .ok (.iload_n 3, 1) := by decide +kernel
theorem dX8_setNote_65 : decode cX8_setNote 65 = .ok (.iadd, 1) := by decide +kernel
theorem dX8_setNote_66 : decode cX8_setNote 66 = .ok (.aload_n 0, 1) := by decide +kernel
theorem dX8_setNote_67 : decode cX8_setNote 67 = .ok (.getfield 32, 3) := by decide +kernel
theorem dX8_setNote_70 : decode cX8_setNote 70 = .ok (.iload_n 3, 1) := by decide +kernel
theorem dX8_setNote_71 : decode cX8_setNote 71 = .ok (.iaload, 1) := by decide +kernel
theorem dX8_setNote_72 : decode cX8_setNote 72 = .ok (.iastore, 1) := by decide +kernel
theorem dX8_setNote_73 : decode cX8_setNote 73 = .ok (.iinc 3 1, 3) := by decide +kernel
theorem dX8_setNote_76 : decode cX8_setNote 76 = .ok (.goto (-28), 3) := by decide +kernel
theorem dX8_setNote_79 : decode cX8_setNote 79 = .ok (.aload_n 0, 1) := by decide +kernel
theorem dX8_setNote_80 : decode cX8_setNote 80 = .ok (.getfield 19, 3) := by decide +kernel
theorem dX8_setNote_83 : decode cX8_setNote 83 = .ok (.iload_n 1, 1) := by decide +kernel
theorem dX8_setNote_84 : decode cX8_setNote 84 = .ok (.aload_n 0, 1) := by decide +kernel
theorem dX8_setNote_85 : decode cX8_setNote 85 = .ok (.getfield 54, 3) := by decide +kernel
theorem dX8_setNote_88 : decode cX8_setNote 88 = .ok (.iastore, 1) := by decide +kernel
theorem dX8_setNote_89 : decode cX8_setNote 89 = .ok (.aload_n 0, 1) := by decide +kernel
theorem dX8_setNote_90 : decode cX8_setNote 90 = .ok (.iconst 0, 1) := by decide +kernel
theorem dX8_setNote_91 : decode cX8_setNote 91 = .ok (.putfield 54, 3) := by decide +kernel
theorem dX8_setNote_94 : decode cX8_setNote 94 = .ok (.iload_n 2, 1) := by decide +kernel
theorem dX8_setNote_95 : decode cX8_setNote 95 = .ok (.ireturn, 1) := by decide +kernel
theorem dX8_removeNote_0 : decode cX8_removeNote 0 = .ok (.aload_n 0, 1) := by decide +kernel
theorem dX8_removeNote_1 : decode cX8_removeNote 1 = .ok (.iload_n 1, 1) := by decide +kernel
theorem dX8_removeNote_2 : decode cX8_removeNote 2 = .ok (.iconst 0, 1) := by decide +kernel
theorem dX8_removeNote_3 : decode cX8_removeNote 3 = .ok (.bipush 9, 2) := by decide +kernel
theorem dX8_removeNote_5 : decode cX8_removeNote 5 = .ok (.invokestatic 50, 3) := by decide +kernel
theorem dX8_removeNote_8 : decode cX8_removeNote 8 = .ok (.ifCond .ne 7, 3) := by decide +kernel
theorem dX8_removeNote_11 : decode cX8_removeNote 11 = .ok (.iconst 1, 1) := by decide +kernel
theorem dX8_removeNote_12 : decode cX8_removeNote 12 = .ok (.goto 17, 3) := by decide +kernel
theorem dX8_removeNote_15 : decode cX8_removeNote 15 = .ok (.aload_n 0, 1) := by decide +kernel
theorem dX8_removeNote_16 : decode cX8_removeNote 16 = .ok (.getfield 19, 3) := by decide +kernel
theorem dX8_removeNote_19 : decode cX8_removeNote 19 = .ok (.iload_n 1, 1) := by decide +kernel
theorem dX8_removeNote_20 : decode cX8_removeNote 20 = .ok (.iaload, 1) := by decide +kernel
theorem dX8_removeNote_21 : decode cX8_removeNote 21 = .ok (.ifCond .le 7, 3) := by decide +kernel
theorem dX8_removeNote_24 : decode cX8_removeNote 24 = .ok (.iconst 0, 1) := by decide +kernel
theorem dX8_removeNote_25 : decode cX8_removeNote 25 = .ok (.goto 4, 3) := by decide +kernel
theorem dX8_removeNote_28 : decode cX8_removeNote 28 = .ok (.iconst 2, 1) := by decide +kernel
theorem dX8_removeNote_29 : decode cX8_removeNote 29 = .ok (.putfield 47, 3) := by decide +kernel
theorem dX8_removeNote_32 : decode cX8_removeNote 32 = .ok (.aload_n 0, 1) := by decide +kernel
theorem dX8_removeNote_33 : decode cX8_removeNote 33 = .ok (.getfield 47, 3) := by decide +kernel
theorem dX8_removeNote_36 : decode cX8_removeNote 36 = .ok (.ifCond .le 5, 3) := by decide +kernel
theorem dX8_removeNote_39 : decode cX8_removeNote 39 = .ok (.iconst 0, 1) := by decide +kernel
theorem dX8_removeNote_40 : decode cX8_removeNote 40 = .ok (.ireturn, 1) := by decide +kernel
theorem dX8_removeNote_41 : decode cX8_removeNote 41 = .ok (.aload_n 0, 1) := by decide +kernel
theorem dX8_removeNote_42 : decode cX8_removeNote 42 = .ok (.iload_n 1, 1) := by decide +kernel
theorem dX8_removeNote_43 : decode cX8_removeNote 43 = .ok (.invokevirtual 105, 3) := by decide +kernel
theorem dX8_removeNote_46 : decode cX8_removeNote 46 = .ok (.istore_n 2, 1) := by decide +kernel
theorem dX8_removeNote_47 : decode cX8_removeNote 47 = .ok (.aload_n 0, 1) := by decide +kernel
theorem dX8_removeNote_48 : decode cX8_removeNote 48 = .ok (.getfield 19, 3) := by decide +kernel
theorem dX8_removeNote_51 : decode cX8_removeNote 51 = .ok (.iload_n 1, 1) := by decide +kernel
theorem dX8_removeNote_52 : decode cX8_removeNote 52 = .ok (.iconst 0, 1) := by decide +kernel
theorem dX8_removeNote_53 : decode cX8_removeNote 53 = .ok (.iastore, 1) := by decide +kernel
theorem dX8_removeNote_54 : decode cX8_removeNote 54 = .ok (.iload_n 2, 1) := by decide +kernel
theorem dX8_removeNote_55 : decode cX8_removeNote 55 = .ok (.ireturn, 1) := by decide +kernel
theorem dX8_sizeOf_0 : decode cX8_sizeOf 0 = .ok (.iload_n 1, 1) := by decide +kernel
theorem dX8_sizeOf_1 : decode cX8_sizeOf 1 = .ok (.bipush 10, 2) := by decide +kernel
theorem dX8_sizeOf_3 : decode cX8_sizeOf 3 = .ok (.if_icmp .ge 15, 3) := by decide +kernel
theorem dX8_sizeOf_6 : decode cX8_sizeOf 6 = .ok (.aload_n 0, 1) := by decide +kernel
theorem dX8_sizeOf_7 : decode cX8_sizeOf 7 = .ok (.getfield 7, 3) := by decide +kernel
theorem dX8_sizeOf_10 : decode cX8_sizeOf 10 = .ok (.bipush 85, 2) := by decide +kernel
theorem dX8_sizeOf_12 : decode cX8_sizeOf 12 = .ok (.iload_n 1, 1) := by decide +kernel
theorem dX8_sizeOf_13 : decode cX8_sizeOf 13 = .ok (.iadd, 1) := by decide +kernel
theorem dX8_sizeOf_14 : decode cX8_sizeOf 14 = .ok (.iaload, 1) := by decide +kernel
theorem dX8_sizeOf_15 : decode cX8_sizeOf 15 = .ok (.goto 14, 3) := by decide +kernel
theorem dX8_sizeOf_18 : decode cX8_sizeOf 18 = .ok (.aload_n 0, 1) := by decide +kernel
theorem dX8_sizeOf_19 : decode cX8_sizeOf 19 = .ok (.getfield 19, 3) := by decide +kernel
theorem dX8_sizeOf_22 : decode cX8_sizeOf 22 = .ok (.iload_n 1, 1) := by decide +kernel
theorem dX8_sizeOf_23 : decode cX8_sizeOf 23 = .ok (.bipush 10, 2) := by decide +kernel
theorem dX8_sizeOf_25 : decode cX8_sizeOf 25 = .ok (.isub, 1) := by decide +kernel
theorem dX8_sizeOf_26 : decode cX8_sizeOf 26 = .ok (.iaload, 1) := by decide +kernel
theorem dX8_sizeOf_27 : decode cX8_sizeOf 27 = .ok (.iconst 2, 1) := by decide +kernel
theorem dX8_sizeOf_28 : decode cX8_sizeOf 28 = .ok (.iadd, 1) := by decide +kernel
theorem dX8_sizeOf_29 : decode cX8_sizeOf 29 = .ok (.ireturn, 1) := by decide +kernel
theorem dX8_charOf_0 : decode cX8_charOf 0 = .ok (.iload_n 1, 1) := by decide +kernel
theorem dX8_charOf_1 : decode cX8_charOf 1 = .ok (.bipush 10, 2) := by decide +kernel
theorem dX8_charOf_3 : decode cX8_charOf 3 = .ok (.if_icmp .ge 19, 3) := by decide +kernel
theorem dX8_charOf_6 : decode cX8_charOf 6 = .ok (.aload_n 0, 1) := by decide +kernel
theorem dX8_charOf_7 : decode cX8_charOf 7 = .ok (.getfield 7, 3) := by decide +kernel
theorem dX8_charOf_10 : decode cX8_charOf 10 = .ok (.bipush 95, 2) := by decide +kernel
theorem dX8_charOf_12 : decode cX8_charOf 12 = .ok (.sipush 360, 3) := by decide +kernel
theorem dX8_charOf_15 : decode cX8_charOf 15 = .ok (.iload_n 1, 1) := by decide +kernel
theorem dX8_charOf_16 : decode cX8_charOf 16 = .ok (.imul, 1) := by decide +kernel
theorem dX8_charOf_17 : decode cX8_charOf 17 = .ok (.iadd, 1) := by decide +kernel
theorem dX8_charOf_18 : decode cX8_charOf 18 = .ok (.iload_n 2, 1) := by decide +kernel
theorem dX8_charOf_19 : decode cX8_charOf 19 = .ok (.iadd, 1) := by decide +kernel
theorem dX8_charOf_20 : decode cX8_charOf 20 = .ok (.iaload, 1) := by decide +kernel
theorem dX8_charOf_21 : decode cX8_charOf 21 = .ok (.ireturn, 1) := by decide +kernel
theorem dX8_charOf_22 : decode cX8_charOf 22 = .ok (.iload_n 1, 1) := by decide +kernel
theorem dX8_charOf_23 : decode cX8_charOf 23 = .ok (.bipush 10, 2) := by decide +kernel
theorem dX8_charOf_25 : decode cX8_charOf 25 = .ok (.isub, 1) := by decide +kernel
theorem dX8_charOf_26 : decode cX8_charOf 26 = .ok (.istore_n 3, 1) := by decide +kernel
theorem dX8_charOf_27 : decode cX8_charOf 27 = .ok (.iload_n 2, 1) := by decide +kernel
theorem dX8_charOf_28 : decode cX8_charOf 28 = .ok (.ifCond .ne 10, 3) := by decide +kernel
theorem dX8_charOf_31 : decode cX8_charOf 31 = .ok (.bipush 48, 2) := by decide +kernel
theorem dX8_charOf_33 : decode cX8_charOf 33 = .ok (.iload_n 3, 1) := by decide +kernel
theorem dX8_charOf_34 : decode cX8_charOf 34 = .ok (.iadd, 1) := by decide +kernel
theorem dX8_charOf_35 : decode cX8_charOf 35 = .ok (.goto 26, 3) := by decide +kernel
theorem dX8_charOf_38 : decode cX8_charOf 38 = .ok (.iload_n 2, 1) := by decide +kernel
theorem dX8_charOf_39 : decode cX8_charOf 39 = .ok (.iconst 1, 1) := by decide +kernel
theorem dX8_charOf_40 : decode cX8_charOf 40 = .ok (.if_icmp .ne 8, 3) := by decide +kernel
theorem dX8_charOf_43 : decode cX8_charOf 43 = .ok (.bipush 32, 2) := by decide +kernel
theorem dX8_charOf_45 : decode cX8_charOf 45 = .ok (.goto 16, 3) := by decide +kernel
theorem dX8_charOf_48 : decode cX8_charOf 48 = .ok (.aload_n 0, 1) := by decide +kernel
theorem dX8_charOf_49 : decode cX8_charOf 49 = .ok (.getfield 16, 3) := by decide +kernel
theorem dX8_charOf_52 : decode cX8_charOf 52 = .ok (.bipush 100, 2) := by decide +kernel
theorem dX8_charOf_54 : decode cX8_charOf 54 = .ok (.iload_n 3, 1) := by decide +kernel
theorem dX8_charOf_55 : decode cX8_charOf 55 = .ok (.imul, 1) := by decide +kernel
theorem dX8_charOf_56 : decode cX8_charOf 56 = .ok (.iload_n 2, 1) := by decide +kernel
theorem dX8_charOf_57 : decode cX8_charOf 57 = .ok (.iadd, 1) := by decide +kernel
theorem dX8_charOf_58 : decode cX8_charOf 58 = .ok (.iconst 2, 1) := by decide +kernel
theorem dX8_charOf_59 : decode cX8_charOf 59 = .ok (.isub, 1) := by decide +kernel
theorem dX8_charOf_60 : decode cX8_charOf 60 = .ok (.iaload, 1) := by decide +kernel
theorem dX8_charOf_61 : decode cX8_charOf 61 = .ok (.ireturn, 1) := by decide +kernel
theorem dX8_wordEnd_0 : decode cX8_wordEnd 0 = .ok (.iload_n 2, 1) := by decide +kernel
theorem dX8_wordEnd_1 : decode cX8_wordEnd 1 = .ok (.istore_n 3, 1) := by decide +kernel
theorem dX8_wordEnd_2 : decode cX8_wordEnd 2 = .ok (.iload_n 3, 1) := by decide +kernel
theorem dX8_wordEnd_3 : decode cX8_wordEnd 3 = .ok (.aload_n 0, 1) := by decide +kernel
theorem dX8_wordEnd_4 : decode cX8_wordEnd 4 = .ok (.iload_n 1, 1) := by decide +kernel
theorem dX8_wordEnd_5 : decode cX8_wordEnd 5 = .ok (.invokevirtual 109, 3) := by decide +kernel
theorem dX8_wordEnd_8 : decode cX8_wordEnd 8 = .ok (.if_icmp .ge 20, 3) := by decide +kernel
theorem dX8_wordEnd_11 : decode cX8_wordEnd 11 = .ok (.aload_n 0, 1) := by decide +kernel
theorem dX8_wordEnd_12 : decode cX8_wordEnd 12 = .ok (.iload_n 1, 1) := by decide +kernel
theorem dX8_wordEnd_13 : decode cX8_wordEnd 13 = .ok (.iload_n 3, 1) := by decide +kernel
theorem dX8_wordEnd_14 : decode cX8_wordEnd 14 = .ok (.invokevirtual 112, 3) := by decide +kernel
theorem dX8_wordEnd_17 : decode cX8_wordEnd 17 = .ok (.bipush 32, 2) := by decide +kernel
theorem dX8_wordEnd_19 : decode cX8_wordEnd 19 = .ok (.if_icmp .eq 9, 3) := by decide +kernel
theorem dX8_wordEnd_22 : decode cX8_wordEnd 22 = .ok (.iinc 3 1, 3) := by decide +kernel
theorem dX8_wordEnd_25 : decode cX8_wordEnd 25 = .ok (.goto (-23), 3) := by decide +kernel
theorem dX8_wordEnd_28 : decode cX8_wordEnd 28 = .ok (.iload_n 3, 1) := by decide +kernel
theorem dX8_wordEnd_29 : decode cX8_wordEnd 29 = .ok (.ireturn, 1) := by decide +kernel
theorem dX8_lineEnd_0 : decode cX8_lineEnd 0 = .ok (.aload_n 0, 1) := by decide +kernel
theorem dX8_lineEnd_1 : decode cX8_lineEnd 1 = .ok (.iload_n 1, 1) := by decide +kernel
theorem dX8_lineEnd_2 : decode cX8_lineEnd 2 = .ok (.iload_n 2, 1) := by decide +kernel
theorem dX8_lineEnd_3 : decode cX8_lineEnd 3 = .ok (.invokevirtual 116, 3) := by decide +kernel
theorem dX8_lineEnd_6 : decode cX8_lineEnd 6 = .ok (.istore 5, 2) := by decide +kernel
theorem dX8_lineEnd_8 : decode cX8_lineEnd 8 = .ok (.iload 5, 2) := by decide +kernel
theorem dX8_lineEnd_10 : decode cX8_lineEnd 10 = .ok (.aload_n 0, 1) := by decide +kernel
theorem dX8_lineEnd_11 : decode cX8_lineEnd 11 = .ok (.iload_n 1, 1) := by decide +kernel
theorem dX8_lineEnd_12 : decode cX8_lineEnd 12 = .ok (.invokevirtual 109, 3) := by decide +kernel
theorem dX8_lineEnd_15 : decode cX8_lineEnd 15 = .ok (.if_icmp .ge 7, 3) := by decide +kernel
theorem dX8_lineEnd_18 : decode cX8_lineEnd 18 = .ok (.iconst 1, 1) := by decide +kernel
theorem dX8_lineEnd_19 : decode cX8_lineEnd 19 = .ok (.goto 4, 3) := by decide +kernel
theorem dX8_lineEnd_22 : decode cX8_lineEnd 22 = .ok (.iconst 0, 1) := by decide +kernel
theorem dX8_lineEnd_23 : decode cX8_lineEnd 23 = .ok (.istore 6, 2) := by decide +kernel
theorem dX8_lineEnd_25 : decode cX8_lineEnd 25 = .ok (.iload 6, 2) := by decide +kernel
theorem dX8_lineEnd_27 : decode cX8_lineEnd 27 = .ok (.ifCond .eq 71, 3) := by decide +kernel
theorem dX8_lineEnd_30 : decode cX8_lineEnd 30 = .ok (.aload_n 0, 1) := by decide +kernel
theorem dX8_lineEnd_31 : decode cX8_lineEnd 31 = .ok (.iload_n 1, 1) := by decide +kernel
theorem dX8_lineEnd_32 : decode cX8_lineEnd 32 = .ok (.iload 5, 2) := by decide +kernel
theorem dX8_lineEnd_34 : decode cX8_lineEnd 34 = .ok (.iconst 1, 1) := by decide +kernel
theorem dX8_lineEnd_35 : decode cX8_lineEnd 35 = .ok (.iadd, 1) := by decide +kernel
theorem dX8_lineEnd_36 : decode cX8_lineEnd 36 = .ok (.invokevirtual 116, 3) := by decide +kernel
theorem dX8_lineEnd_39 : decode cX8_lineEnd 39 = .ok (.istore 7, 2) := by decide +kernel
theorem dX8_lineEnd_41 : decode cX8_lineEnd 41 = .ok (.iload_n 3, 1) := by decide +kernel
theorem dX8_lineEnd_42 : decode cX8_lineEnd 42 = .ok (.iload 7, 2) := by decide +kernel
theorem dX8_lineEnd_44 : decode cX8_lineEnd 44 = .ok (.iadd, 1) := by decide +kernel
theorem dX8_lineEnd_45 : decode cX8_lineEnd 45 = .ok (.iload_n 2, 1) := by decide +kernel
theorem dX8_lineEnd_46 : decode cX8_lineEnd 46 = .ok (.isub, 1) := by decide +kernel
theorem dX8_lineEnd_47 : decode cX8_lineEnd 47 = .ok (.iload 4, 2) := by decide +kernel
theorem dX8_lineEnd_49 : decode cX8_lineEnd 49 = .ok (.if_icmp .gt 7, 3) := by decide +kernel
theorem dX8_lineEnd_52 : decode cX8_lineEnd 52 = .ok (.iconst 1, 1) := by decide +kernel
theorem dX8_lineEnd_53 : decode cX8_lineEnd 53 = .ok (.goto 4, 3) := by decide +kernel
theorem dX8_lineEnd_56 : decode cX8_lineEnd 56 = .ok (.iconst 0, 1) := by decide +kernel
theorem dX8_lineEnd_57 : decode cX8_lineEnd 57 = .ok (.istore 6, 2) := by decide +kernel
theorem dX8_lineEnd_59 : decode cX8_lineEnd 59 = .ok (.iload 6, 2) := by decide +kernel
theorem dX8_lineEnd_61 : decode cX8_lineEnd 61 = .ok (.ifCond .eq 8, 3) := by decide +kernel
theorem dX8_lineEnd_64 : decode cX8_lineEnd 64 = .ok (.iload 7, 2) := by decide +kernel
theorem dX8_lineEnd_66 : decode cX8_lineEnd 66 = .ok (.goto 5, 3) := by decide +kernel
theorem dX8_lineEnd_69 : decode cX8_lineEnd 69 = .ok (.iload 5, 2) := by decide +kernel
theorem dX8_lineEnd_71 : decode cX8_lineEnd 71 = .ok (.istore 5, 2) := by decide +kernel
theorem dX8_lineEnd_73 : decode cX8_lineEnd 73 = .ok (.iload 6, 2) := by decide +kernel
theorem dX8_lineEnd_75 : decode cX8_lineEnd 75 = .ok (.ifCond .eq 17, 3) := by decide +kernel
theorem dX8_lineEnd_78 : decode cX8_lineEnd 78 = .ok (.iload 5, 2) := by decide +kernel
theorem dX8_lineEnd_80 : decode cX8_lineEnd 80 = .ok (.aload_n 0, 1) := by decide +kernel
theorem dX8_lineEnd_81 : decode cX8_lineEnd 81 = .ok (.iload_n 1, 1) := by decide +kernel
theorem dX8_lineEnd_82 : decode cX8_lineEnd 82 = .ok (.invokevirtual 109, 3) := by decide +kernel
theorem dX8_lineEnd_85 : decode cX8_lineEnd 85 = .ok (.if_icmp .ge 7, 3) := by decide +kernel
theorem dX8_lineEnd_88 : decode cX8_lineEnd 88 = .ok (.iconst 1, 1) := by decide +kernel
theorem dX8_lineEnd_89 : decode cX8_lineEnd 89 = .ok (.goto 4, 3) := by decide +kernel
theorem dX8_lineEnd_92 : decode cX8_lineEnd 92 = .ok (.iconst 0, 1) := by decide +kernel
theorem dX8_lineEnd_93 : decode cX8_lineEnd 93 = .ok (.istore 6, 2) := by decide +kernel
theorem dX8_lineEnd_95 : decode cX8_lineEnd 95 = .ok (.goto (-70), 3) := by decide +kernel
theorem dX8_lineEnd_98 : decode cX8_lineEnd 98 = .ok (.iload 5, 2) := by decide +kernel
theorem dX8_lineEnd_100 : decode cX8_lineEnd 100 = .ok (.ireturn, 1) := by decide +kernel
theorem dX8_wordsOf_0 : decode cX8_wordsOf 0 = .ok (.iconst 1, 1) := by decide +kernel
theorem dX8_wordsOf_1 : decode cX8_wordsOf 1 = .ok (.istore_n 2, 1) := by decide +kernel
theorem dX8_wordsOf_2 : decode cX8_wordsOf 2 = .ok (.iconst 0, 1) := by decide +kernel
theorem dX8_wordsOf_3 : decode cX8_wordsOf 3 = .ok (.istore_n 3, 1) := by decide +kernel
theorem dX8_wordsOf_4 : decode cX8_wordsOf 4 = .ok (.iload_n 3, 1) := by decide +kernel
theorem dX8_wordsOf_5 : decode cX8_wordsOf 5 = .ok (.aload_n 0, 1) := by decide +kernel
theorem dX8_wordsOf_6 : decode cX8_wordsOf 6 = .ok (.getfield 7, 3) := by decide +kernel
theorem dX8_wordsOf_9 : decode cX8_wordsOf 9 = .ok (.bipush 85, 2) := by decide +kernel
theorem dX8_wordsOf_11 : decode cX8_wordsOf 11 = .ok (.iload_n 1, 1) := by decide +kernel
theorem dX8_wordsOf_12 : decode cX8_wordsOf 12 = .ok (.iadd, 1) := by decide +kernel
theorem dX8_wordsOf_13 : decode cX8_wordsOf 13 = .ok (.iaload, 1) := by decide +kernel
theorem dX8_wordsOf_14 : decode cX8_wordsOf 14 = .ok (.if_icmp .ge 28, 3) := by decide +kernel
theorem dX8_wordsOf_17 : decode cX8_wordsOf 17 = .ok (.iload_n 2, 1) := by decide +kernel
theorem dX8_wordsOf_18 : decode cX8_wordsOf 18 = .ok (.aload_n 0, 1) := by decide +kernel
theorem dX8_wordsOf_19 : decode cX8_wordsOf 19 = .ok (.iload_n 1, 1) := by decide +kernel
theorem dX8_wordsOf_20 : decode cX8_wordsOf 20 = .ok (.iload_n 3, 1) := by decide +kernel
theorem dX8_wordsOf_21 : decode cX8_wordsOf 21 = .ok (.invokevirtual 112, 3) := by decide +kernel
theorem dX8_wordsOf_24 : decode cX8_wordsOf 24 = .ok (.bipush 32, 2) := by decide +kernel
theorem dX8_wordsOf_26 : decode cX8_wordsOf 26 = .ok (.if_icmp .ne 7, 3) := by decide +kernel
theorem dX8_wordsOf_29 : decode cX8_wordsOf 29 = .ok (.iconst 1, 1) := by decide +kernel
theorem dX8_wordsOf_30 : decode cX8_wordsOf 30 = .ok (.goto 4, 3) := by decide +kernel
theorem dX8_wordsOf_33 : decode cX8_wordsOf 33 = .ok (.iconst 0, 1) := by decide +kernel
theorem dX8_wordsOf_34 : decode cX8_wordsOf 34 = .ok (.iadd, 1) := by decide +kernel
theorem dX8_wordsOf_35 : decode cX8_wordsOf 35 = .ok (.istore_n 2, 1) := by decide +kernel
theorem dX8_wordsOf_36 : decode cX8_wordsOf 36 = .ok (.iinc 3 1, 3) := by decide +kernel
theorem dX8_wordsOf_39 : decode cX8_wordsOf 39 = .ok (.goto (-35), 3) := by decide +kernel
theorem dX8_wordsOf_42 : decode cX8_wordsOf 42 = .ok (.iload_n 2, 1) := by decide +kernel
theorem dX8_wordsOf_43 : decode cX8_wordsOf 43 = .ok (.ireturn, 1) := by decide +kernel
theorem dX8_startOf_0 : decode cX8_startOf 0 = .ok (.iconst 0, 1) := by decide +kernel
theorem dX8_startOf_1 : decode cX8_startOf 1 = .ok (.istore_n 3, 1) := by decide +kernel
theorem dX8_startOf_2 : decode cX8_startOf 2 = .ok (.iconst 0, 1) := by decide +kernel
theorem dX8_startOf_3 : decode cX8_startOf 3 = .ok (.istore 4, 2) := by decide +kernel
theorem dX8_startOf_5 : decode cX8_startOf 5 = .ok (.iload 4, 2) := by decide +kernel
theorem dX8_startOf_7 : decode cX8_startOf 7 = .ok (.iload_n 2, 1) := by decide +kernel
theorem dX8_startOf_8 : decode cX8_startOf 8 = .ok (.if_icmp .ge 18, 3) := by decide +kernel
theorem dX8_startOf_11 : decode cX8_startOf 11 = .ok (.aload_n 0, 1) := by decide +kernel
theorem dX8_startOf_12 : decode cX8_startOf 12 = .ok (.iload_n 1, 1) := by decide +kernel
theorem dX8_startOf_13 : decode cX8_startOf 13 = .ok (.iload_n 3, 1) := by decide +kernel
theorem dX8_startOf_14 : decode cX8_startOf 14 = .ok (.invokevirtual 116, 3) := by decide +kernel
theorem dX8_startOf_17 : decode cX8_startOf 17 = .ok (.iconst 1, 1) := by decide +kernel
theorem dX8_startOf_18 : decode cX8_startOf 18 = .ok (.iadd, 1) := by decide +kernel
theorem dX8_startOf_19 : decode cX8_startOf 19 = .ok (.istore_n 3, 1) := by decide +kernel
theorem dX8_startOf_20 : decode cX8_startOf 20 = .ok (.iinc 4 1, 3) := by decide +kernel
theorem dX8_startOf_23 : decode cX8_startOf 23 = .ok (.goto (-18), 3) := by decide +kernel
theorem dX8_startOf_26 : decode cX8_startOf 26 = .ok (.iload_n 3, 1) := by decide +kernel
theorem dX8_startOf_27 : decode cX8_startOf 27 = .ok (.aload_n 0, 1) := by decide +kernel
theorem dX8_startOf_28 : decode cX8_startOf 28 = .ok (.getfield 7, 3) := by decide +kernel
theorem dX8_startOf_31 : decode cX8_startOf 31 = .ok (.bipush 85, 2) := by decide +kernel
theorem dX8_startOf_33 : decode cX8_startOf 33 = .ok (.iload_n 1, 1) := by decide +kernel
theorem dX8_startOf_34 : decode cX8_startOf 34 = .ok (.iadd, 1) := by decide +kernel
theorem dX8_startOf_35 : decode cX8_startOf 35 = .ok (.iaload, 1) := by decide +kernel
theorem dX8_startOf_36 : decode cX8_startOf 36 = .ok (.if_icmp .le 15, 3) := by decide +kernel
theorem dX8_startOf_39 : decode cX8_startOf 39 = .ok (.aload_n 0, 1) := by decide +kernel
theorem dX8_startOf_40 : decode cX8_startOf 40 = .ok (.getfield 7, 3) := by decide +kernel
theorem dX8_startOf_43 : decode cX8_startOf 43 = .ok (.bipush 85, 2) := by decide +kernel
theorem dX8_startOf_45 : decode cX8_startOf 45 = .ok (.iload_n 1, 1) := by decide +kernel
theorem dX8_startOf_46 : decode cX8_startOf 46 = .ok (.iadd, 1) := by decide +kernel
theorem dX8_startOf_47 : decode cX8_startOf 47 = .ok (.iaload, 1) := by decide +kernel
theorem dX8_startOf_48 : decode cX8_startOf 48 = .ok (.goto 4, 3) := by decide +kernel
theorem dX8_startOf_51 : decode cX8_startOf 51 = .ok (.iload_n 3, 1) := by decide +kernel
theorem dX8_startOf_52 : decode cX8_startOf 52 = .ok (.ireturn, 1) := by decide +kernel
theorem dX8_indentOf_0 : decode cX8_indentOf 0 = .ok (.aload_n 0, 1) := by decide +kernel
theorem dX8_indentOf_1 : decode cX8_indentOf 1 = .ok (.getfield 7, 3) := by decide +kernel
theorem dX8_indentOf_4 : decode cX8_indentOf 4 = .ok (.bipush 75, 2) := by decide +kernel
theorem dX8_indentOf_6 : decode cX8_indentOf 6 = .ok (.iload_n 1, 1) := by decide +kernel
theorem dX8_indentOf_7 : decode cX8_indentOf 7 = .ok (.iadd, 1) := by decide +kernel
theorem dX8_indentOf_8 : decode cX8_indentOf 8 = .ok (.iaload, 1) := by decide +kernel
theorem dX8_indentOf_9 : decode cX8_indentOf 9 = .ok (.iconst 2, 1) := by decide +kernel
theorem dX8_indentOf_10 : decode cX8_indentOf 10 = .ok (.if_icmp .ne 12, 3) := by decide +kernel
theorem dX8_indentOf_13 : decode cX8_indentOf 13 = .ok (.aload_n 0, 1) := by decide +kernel
theorem dX8_indentOf_14 : decode cX8_indentOf 14 = .ok (.getfield 29, 3) := by decide +kernel
theorem dX8_indentOf_17 : decode cX8_indentOf 17 = .ok (.iconst 1, 1) := by decide +kernel
theorem dX8_indentOf_18 : decode cX8_indentOf 18 = .ok (.iaload, 1) := by decide +kernel
theorem dX8_indentOf_19 : decode cX8_indentOf 19 = .ok (.goto 29, 3) := by decide +kernel
theorem dX8_indentOf_22 : decode cX8_indentOf 22 = .ok (.aload_n 0, 1) := by decide +kernel
theorem dX8_indentOf_23 : decode cX8_indentOf 23 = .ok (.getfield 7, 3) := by decide +kernel
theorem dX8_indentOf_26 : decode cX8_indentOf 26 = .ok (.bipush 75, 2) := by decide +kernel
theorem dX8_indentOf_28 : decode cX8_indentOf 28 = .ok (.iload_n 1, 1) := by decide +kernel
theorem dX8_indentOf_29 : decode cX8_indentOf 29 = .ok (.iadd, 1) := by decide +kernel
theorem dX8_indentOf_30 : decode cX8_indentOf 30 = .ok (.iaload, 1) := by decide +kernel
theorem dX8_indentOf_31 : decode cX8_indentOf 31 = .ok (.ifCond .ne 16, 3) := by decide +kernel
theorem dX8_indentOf_34 : decode cX8_indentOf 34 = .ok (.iload_n 2, 1) := by decide +kernel
theorem dX8_indentOf_35 : decode cX8_indentOf 35 = .ok (.ifCond .ne 12, 3) := by decide +kernel
theorem dX8_indentOf_38 : decode cX8_indentOf 38 = .ok (.aload_n 0, 1) := by decide +kernel
theorem dX8_indentOf_39 : decode cX8_indentOf 39 = .ok (.getfield 29, 3) := by decide +kernel
theorem dX8_indentOf_42 : decode cX8_indentOf 42 = .ok (.iconst 0, 1) := by decide +kernel
theorem dX8_indentOf_43 : decode cX8_indentOf 43 = .ok (.iaload, 1) := by decide +kernel
theorem dX8_indentOf_44 : decode cX8_indentOf 44 = .ok (.goto 4, 3) := by decide +kernel
theorem dX8_indentOf_47 : decode cX8_indentOf 47 = .ok (.iconst 0, 1) := by decide +kernel
theorem dX8_indentOf_48 : decode cX8_indentOf 48 = .ok (.ireturn, 1) := by decide +kernel
theorem dX8_layLines_0 : decode cX8_layLines 0 = .ok (.aload_n 0, 1) := by decide +kernel
theorem dX8_layLines_1 : decode cX8_layLines 1 = .ok (.iload_n 1, 1) := by decide +kernel
theorem dX8_layLines_2 : decode cX8_layLines 2 = .ok (.putfield 119, 3) := by decide +kernel
theorem dX8_layLines_5 : decode cX8_layLines 5 = .ok (.aload_n 0, 1) := by decide +kernel
theorem dX8_layLines_6 : decode cX8_layLines 6 = .ok (.iconst 0, 1) := by decide +kernel
theorem dX8_layLines_7 : decode cX8_layLines 7 = .ok (.putfield 122, 3) := by decide +kernel
theorem dX8_layLines_10 : decode cX8_layLines 10 = .ok (.iconst 0, 1) := by decide +kernel
theorem dX8_layLines_11 : decode cX8_layLines 11 = .ok (.istore_n 2, 1) := by decide +kernel
theorem dX8_layLines_12 : decode cX8_layLines 12 = .ok (.iload_n 2, 1) := by decide +kernel
theorem dX8_layLines_13 : decode cX8_layLines 13 = .ok (.aload_n 0, 1) := by decide +kernel
theorem dX8_layLines_14 : decode cX8_layLines 14 = .ok (.getfield 7, 3) := by decide +kernel
theorem dX8_layLines_17 : decode cX8_layLines 17 = .ok (.iconst 0, 1) := by decide +kernel
theorem dX8_layLines_18 : decode cX8_layLines 18 = .ok (.iaload, 1) := by decide +kernel
theorem dX8_layLines_19 : decode cX8_layLines 19 = .ok (.if_icmp .ge 94, 3) := by decide +kernel
theorem dX8_layLines_22 : decode cX8_layLines 22 = .ok (.iconst 0, 1) := by decide +kernel
theorem dX8_layLines_23 : decode cX8_layLines 23 = .ok (.istore_n 3, 1) := by decide +kernel
theorem dX8_layLines_24 : decode cX8_layLines 24 = .ok (.iload_n 3, 1) := by decide +kernel
theorem dX8_layLines_25 : decode cX8_layLines 25 = .ok (.aload_n 0, 1) := by decide +kernel
theorem dX8_layLines_26 : decode cX8_layLines 26 = .ok (.getfield 7, 3) := by decide +kernel
theorem dX8_layLines_29 : decode cX8_layLines 29 = .ok (.bipush 85, 2) := by decide +kernel
theorem dX8_layLines_31 : decode cX8_layLines 31 = .ok (.iload_n 2, 1) := by decide +kernel
theorem dX8_layLines_32 : decode cX8_layLines 32 = .ok (.iadd, 1) := by decide +kernel
theorem dX8_layLines_33 : decode cX8_layLines 33 = .ok (.iaload, 1) := by decide +kernel
theorem dX8_layLines_34 : decode cX8_layLines 34 = .ok (.if_icmp .ge 73, 3) := by decide +kernel
theorem dX8_layLines_37 : decode cX8_layLines 37 = .ok (.aload_n 0, 1) := by decide +kernel
theorem dX8_layLines_38 : decode cX8_layLines 38 = .ok (.getfield 35, 3) := by decide +kernel
theorem dX8_layLines_41 : decode cX8_layLines 41 = .ok (.aload_n 0, 1) := by decide +kernel
theorem dX8_layLines_42 : decode cX8_layLines 42 = .ok (.getfield 122, 3) := by decide +kernel
theorem dX8_layLines_45 : decode cX8_layLines 45 = .ok (.iload_n 2, 1) := by decide +kernel
theorem dX8_layLines_46 : decode cX8_layLines 46 = .ok (.iastore, 1) := by decide +kernel
theorem dX8_layLines_47 : decode cX8_layLines 47 = .ok (.aload_n 0, 1) := by decide +kernel
theorem dX8_layLines_48 : decode cX8_layLines 48 = .ok (.getfield 38, 3) := by decide +kernel
theorem dX8_layLines_51 : decode cX8_layLines 51 = .ok (.aload_n 0, 1) := by decide +kernel
theorem dX8_layLines_52 : decode cX8_layLines 52 = .ok (.getfield 122, 3) := by decide +kernel
theorem dX8_layLines_55 : decode cX8_layLines 55 = .ok (.iload_n 3, 1) := by decide +kernel
theorem dX8_layLines_56 : decode cX8_layLines 56 = .ok (.iastore, 1) := by decide +kernel
theorem dX8_layLines_57 : decode cX8_layLines 57 = .ok (.aload_n 0, 1) := by decide +kernel
theorem dX8_layLines_58 : decode cX8_layLines 58 = .ok (.getfield 41, 3) := by decide +kernel
theorem dX8_layLines_61 : decode cX8_layLines 61 = .ok (.aload_n 0, 1) := by decide +kernel
theorem dX8_layLines_62 : decode cX8_layLines 62 = .ok (.getfield 122, 3) := by decide +kernel
theorem dX8_layLines_65 : decode cX8_layLines 65 = .ok (.aload_n 0, 1) := by decide +kernel
theorem dX8_layLines_66 : decode cX8_layLines 66 = .ok (.iload_n 2, 1) := by decide +kernel
theorem dX8_layLines_67 : decode cX8_layLines 67 = .ok (.iload_n 3, 1) := by decide +kernel
theorem dX8_layLines_68 : decode cX8_layLines 68 = .ok (.aload_n 0, 1) := by decide +kernel
theorem dX8_layLines_69 : decode cX8_layLines 69 = .ok (.iload_n 2, 1) := by decide +kernel
theorem dX8_layLines_70 : decode cX8_layLines 70 = .ok (.iload_n 3, 1) := by decide +kernel
theorem dX8_layLines_71 : decode cX8_layLines 71 = .ok (.invokevirtual 125, 3) := by decide +kernel
theorem dX8_layLines_74 : decode cX8_layLines 74 = .ok (.aload_n 0, 1) := by decide +kernel
theorem dX8_layLines_75 : decode cX8_layLines 75 = .ok (.getfield 119, 3) := by decide +kernel
theorem dX8_layLines_78 : decode cX8_layLines 78 = .ok (.invokevirtual 128, 3) := by decide +kernel
theorem dX8_layLines_81 : decode cX8_layLines 81 = .ok (.iastore, 1) := by decide +kernel
theorem dX8_layLines_82 : decode cX8_layLines 82 = .ok (.aload_n 0, 1) := by decide +kernel
theorem dX8_layLines_83 : decode cX8_layLines 83 = .ok (.getfield 41, 3) := by decide +kernel
theorem dX8_layLines_86 : decode cX8_layLines 86 = .ok (.aload_n 0, 1) := by decide +kernel
theorem dX8_layLines_87 : decode cX8_layLines 87 = .ok (.getfield 122, 3) := by decide +kernel
theorem dX8_layLines_90 : decode cX8_layLines 90 = .ok (.iaload, 1) := by decide +kernel
theorem dX8_layLines_91 : decode cX8_layLines 91 = .ok (.iconst 1, 1) := by decide +kernel
theorem dX8_layLines_92 : decode cX8_layLines 92 = .ok (.iadd, 1) := by decide +kernel
theorem dX8_layLines_93 : decode cX8_layLines 93 = .ok (.istore_n 3, 1) := by decide +kernel
theorem dX8_layLines_94 : decode cX8_layLines 94 = .ok (.aload_n 0, 1) := by decide +kernel
theorem dX8_layLines_95 : decode cX8_layLines 95 = .ok (.dup, 1) := by decide +kernel
theorem dX8_layLines_96 : decode cX8_layLines 96 = .ok (.getfield 122, 3) := by decide +kernel
theorem dX8_layLines_99 : decode cX8_layLines 99 = .ok (.iconst 1, 1) := by decide +kernel
theorem dX8_layLines_100 : decode cX8_layLines 100 = .ok (.iadd, 1) := by decide +kernel
theorem dX8_layLines_101 : decode cX8_layLines 101 = .ok (.putfield 122, 3) := by decide +kernel
theorem dX8_layLines_104 : decode cX8_layLines 104 = .ok (.goto (-80), 3) := by decide +kernel
theorem dX8_layLines_107 : decode cX8_layLines 107 = .ok (.iinc 2 1, 3) := by decide +kernel
theorem dX8_layLines_110 : decode cX8_layLines 110 = .ok (.goto (-98), 3) := by decide +kernel
theorem dX8_layLines_113 : decode cX8_layLines 113 = .ok (.return_, 1) := by decide +kernel
theorem dX8_isFirst_0 : decode cX8_isFirst 0 = .ok (.aload_n 0, 1) := by decide +kernel
theorem dX8_isFirst_1 : decode cX8_isFirst 1 = .ok (.getfield 38, 3) := by decide +kernel
theorem dX8_isFirst_4 : decode cX8_isFirst 4 = .ok (.iload_n 1, 1) := by decide +kernel
theorem dX8_isFirst_5 : decode cX8_isFirst 5 = .ok (.iaload, 1) := by decide +kernel
theorem dX8_isFirst_6 : decode cX8_isFirst 6 = .ok (.ifCond .ne 7, 3) := by decide +kernel
theorem dX8_isFirst_9 : decode cX8_isFirst 9 = .ok (.iconst 1, 1) := by decide +kernel
theorem dX8_isFirst_10 : decode cX8_isFirst 10 = .ok (.goto 4, 3) := by decide +kernel
theorem dX8_isFirst_13 : decode cX8_isFirst 13 = .ok (.iconst 0, 1) := by decide +kernel
theorem dX8_isFirst_14 : decode cX8_isFirst 14 = .ok (.ireturn, 1) := by decide +kernel
theorem dX8_gapBefore_0 : decode cX8_gapBefore 0 = .ok (.aload_n 0, 1) := by decide +kernel
theorem dX8_gapBefore_1 : decode cX8_gapBefore 1 = .ok (.iload_n 1, 1) := by decide +kernel
theorem dX8_gapBefore_2 : decode cX8_gapBefore 2 = .ok (.invokevirtual 132, 3) := by decide +kernel
theorem dX8_gapBefore_5 : decode cX8_gapBefore 5 = .ok (.ifCond .ne 7, 3) := by decide +kernel
theorem dX8_gapBefore_8 : decode cX8_gapBefore 8 = .ok (.iconst 0, 1) := by decide +kernel
theorem dX8_gapBefore_9 : decode cX8_gapBefore 9 = .ok (.goto 33, 3) := by decide +kernel
theorem dX8_gapBefore_12 : decode cX8_gapBefore 12 = .ok (.aload_n 0, 1) := by decide +kernel
theorem dX8_gapBefore_13 : decode cX8_gapBefore 13 = .ok (.getfield 29, 3) := by decide +kernel
theorem dX8_gapBefore_16 : decode cX8_gapBefore 16 = .ok (.iconst 2, 1) := by decide +kernel
theorem dX8_gapBefore_17 : decode cX8_gapBefore 17 = .ok (.iaload, 1) := by decide +kernel
theorem dX8_gapBefore_18 : decode cX8_gapBefore 18 = .ok (.aload_n 0, 1) := by decide +kernel
theorem dX8_gapBefore_19 : decode cX8_gapBefore 19 = .ok (.getfield 7, 3) := by decide +kernel
theorem dX8_gapBefore_22 : decode cX8_gapBefore 22 = .ok (.bipush 75, 2) := by decide +kernel
theorem dX8_gapBefore_24 : decode cX8_gapBefore 24 = .ok (.aload_n 0, 1) := by decide +kernel
theorem dX8_gapBefore_25 : decode cX8_gapBefore 25 = .ok (.getfield 35, 3) := by decide +kernel
theorem dX8_gapBefore_28 : decode cX8_gapBefore 28 = .ok (.iload_n 1, 1) := by decide +kernel
theorem dX8_gapBefore_29 : decode cX8_gapBefore 29 = .ok (.iaload, 1) := by decide +kernel
theorem dX8_gapBefore_30 : decode cX8_gapBefore 30 = .ok (.iadd, 1) := by decide +kernel
theorem dX8_gapBefore_31 : decode cX8_gapBefore 31 = .ok (.iaload, 1) := by decide +kernel
theorem dX8_gapBefore_32 : decode cX8_gapBefore 32 = .ok (.iconst 1, 1) := by decide +kernel
theorem dX8_gapBefore_33 : decode cX8_gapBefore 33 = .ok (.if_icmp .ne 7, 3) := by decide +kernel
theorem dX8_gapBefore_36 : decode cX8_gapBefore 36 = .ok (.iconst 1, 1) := by decide +kernel
theorem dX8_gapBefore_37 : decode cX8_gapBefore 37 = .ok (.goto 4, 3) := by decide +kernel
theorem dX8_gapBefore_40 : decode cX8_gapBefore 40 = .ok (.iconst 0, 1) := by decide +kernel
theorem dX8_gapBefore_41 : decode cX8_gapBefore 41 = .ok (.iadd, 1) := by decide +kernel
theorem dX8_gapBefore_42 : decode cX8_gapBefore 42 = .ok (.ireturn, 1) := by decide +kernel
theorem dX8_notesOn_0 : decode cX8_notesOn 0 = .ok (.iconst 0, 1) := by decide +kernel
theorem dX8_notesOn_1 : decode cX8_notesOn 1 = .ok (.istore_n 3, 1) := by decide +kernel
theorem dX8_notesOn_2 : decode cX8_notesOn 2 = .ok (.iload_n 1, 1) := by decide +kernel
theorem dX8_notesOn_3 : decode cX8_notesOn 3 = .ok (.istore 4, 2) := by decide +kernel
theorem dX8_notesOn_5 : decode cX8_notesOn 5 = .ok (.iload 4, 2) := by decide +kernel
theorem dX8_notesOn_7 : decode cX8_notesOn 7 = .ok (.iload_n 2, 1) := by decide +kernel
theorem dX8_notesOn_8 : decode cX8_notesOn 8 = .ok (.if_icmp .ge 81, 3) := by decide +kernel
theorem dX8_notesOn_11 : decode cX8_notesOn 11 = .ok (.aload_n 0, 1) := by decide +kernel
theorem dX8_notesOn_12 : decode cX8_notesOn 12 = .ok (.getfield 38, 3) := by decide +kernel
theorem dX8_notesOn_15 : decode cX8_notesOn 15 = .ok (.iload 4, 2) := by decide +kernel
theorem dX8_notesOn_17 : decode cX8_notesOn 17 = .ok (.iaload, 1) := by decide +kernel
theorem dX8_notesOn_18 : decode cX8_notesOn 18 = .ok (.istore 5, 2) := by decide +kernel
theorem dX8_notesOn_20 : decode cX8_notesOn 20 = .ok (.iload 5, 2) := by decide +kernel
theorem dX8_notesOn_22 : decode cX8_notesOn 22 = .ok (.aload_n 0, 1) := by decide +kernel
theorem dX8_notesOn_23 : decode cX8_notesOn 23 = .ok (.getfield 41, 3) := by decide +kernel
theorem dX8_notesOn_26 : decode cX8_notesOn 26 = .ok (.iload 4, 2) := by decide +kernel
theorem dX8_notesOn_28 : decode cX8_notesOn 28 = .ok (.iaload, 1) := by decide +kernel
theorem dX8_notesOn_29 : decode cX8_notesOn 29 = .ok (.if_icmp .ge 54, 3) := by decide +kernel
theorem dX8_notesOn_32 : decode cX8_notesOn 32 = .ok (.iload_n 3, 1) := by decide +kernel
theorem dX8_notesOn_33 : decode cX8_notesOn 33 = .ok (.aload_n 0, 1) := by decide +kernel
theorem dX8_notesOn_34 : decode cX8_notesOn 34 = .ok (.aload_n 0, 1) := by decide +kernel
theorem dX8_notesOn_35 : decode cX8_notesOn 35 = .ok (.getfield 35, 3) := by decide +kernel
theorem dX8_notesOn_38 : decode cX8_notesOn 38 = .ok (.iload 4, 2) := by decide +kernel
theorem dX8_notesOn_40 : decode cX8_notesOn 40 = .ok (.iaload, 1) := by decide +kernel
theorem dX8_notesOn_41 : decode cX8_notesOn 41 = .ok (.iload 5, 2) := by decide +kernel
theorem dX8_notesOn_43 : decode cX8_notesOn 43 = .ok (.invokevirtual 112, 3) := by decide +kernel
theorem dX8_notesOn_46 : decode cX8_notesOn 46 = .ok (.bipush 94, 2) := by decide +kernel
theorem dX8_notesOn_48 : decode cX8_notesOn 48 = .ok (.if_icmp .ne 26, 3) := by decide +kernel
theorem dX8_notesOn_51 : decode cX8_notesOn 51 = .ok (.iconst 1, 1) := by decide +kernel
theorem dX8_notesOn_52 : decode cX8_notesOn 52 = .ok (.aload_n 0, 1) := by decide +kernel
theorem dX8_notesOn_53 : decode cX8_notesOn 53 = .ok (.aload_n 0, 1) := by decide +kernel
theorem dX8_notesOn_54 : decode cX8_notesOn 54 = .ok (.getfield 35, 3) := by decide +kernel
theorem dX8_notesOn_57 : decode cX8_notesOn 57 = .ok (.iload 4, 2) := by decide +kernel
theorem dX8_notesOn_59 : decode cX8_notesOn 59 = .ok (.iaload, 1) := by decide +kernel
theorem dX8_notesOn_60 : decode cX8_notesOn 60 = .ok (.iload 5, 2) := by decide +kernel
theorem dX8_notesOn_62 : decode cX8_notesOn 62 = .ok (.iconst 1, 1) := by decide +kernel
theorem dX8_notesOn_63 : decode cX8_notesOn 63 = .ok (.iadd, 1) := by decide +kernel
theorem dX8_notesOn_64 : decode cX8_notesOn 64 = .ok (.invokevirtual 112, 3) := by decide +kernel
theorem dX8_notesOn_67 : decode cX8_notesOn 67 = .ok (.bipush 48, 2) := by decide +kernel
theorem dX8_notesOn_69 : decode cX8_notesOn 69 = .ok (.isub, 1) := by decide +kernel
theorem dX8_notesOn_70 : decode cX8_notesOn 70 = .ok (.ishl, 1) := by decide +kernel
theorem dX8_notesOn_71 : decode cX8_notesOn 71 = .ok (.goto 4, 3) := by decide +kernel
theorem dX8_notesOn_74 : decode cX8_notesOn 74 = .ok (.iconst 0, 1) := by decide +kernel
theorem dX8_notesOn_75 : decode cX8_notesOn 75 = .ok (.ior, 1) := by decide +kernel
theorem dX8_notesOn_76 : decode cX8_notesOn 76 = .ok (.istore_n 3, 1) := by decide +kernel
theorem dX8_notesOn_77 : decode cX8_notesOn 77 = .ok (.iinc 5 1, 3) := by decide +kernel
theorem dX8_notesOn_80 : decode cX8_notesOn 80 = .ok (.goto (-60), 3) := by decide +kernel
theorem dX8_notesOn_83 : decode cX8_notesOn 83 = .ok (.iinc 4 1, 3) := by decide +kernel
theorem dX8_notesOn_86 : decode cX8_notesOn 86 = .ok (.goto (-81), 3) := by decide +kernel
theorem dX8_notesOn_89 : decode cX8_notesOn 89 = .ok (.iload_n 3, 1) := by decide +kernel
theorem dX8_notesOn_90 : decode cX8_notesOn 90 = .ok (.ireturn, 1) := by decide +kernel
theorem dX8_noteLines_0 : decode cX8_noteLines 0 = .ok (.iconst 0, 1) := by decide +kernel
theorem dX8_noteLines_1 : decode cX8_noteLines 1 = .ok (.istore_n 2, 1) := by decide +kernel
theorem dX8_noteLines_2 : decode cX8_noteLines 2 = .ok (.iconst 0, 1) := by decide +kernel
theorem dX8_noteLines_3 : decode cX8_noteLines 3 = .ok (.istore_n 3, 1) := by decide +kernel
theorem dX8_noteLines_4 : decode cX8_noteLines 4 = .ok (.iload_n 3, 1) := by decide +kernel
theorem dX8_noteLines_5 : decode cX8_noteLines 5 = .ok (.aload_n 0, 1) := by decide +kernel
theorem dX8_noteLines_6 : decode cX8_noteLines 6 = .ok (.bipush 10, 2) := by decide +kernel
theorem dX8_noteLines_8 : decode cX8_noteLines 8 = .ok (.iload_n 1, 1) := by decide +kernel
theorem dX8_noteLines_9 : decode cX8_noteLines 9 = .ok (.iadd, 1) := by decide +kernel
theorem dX8_noteLines_10 : decode cX8_noteLines 10 = .ok (.invokevirtual 109, 3) := by decide +kernel
theorem dX8_noteLines_13 : decode cX8_noteLines 13 = .ok (.if_icmp .ge 26, 3) := by decide +kernel
theorem dX8_noteLines_16 : decode cX8_noteLines 16 = .ok (.aload_n 0, 1) := by decide +kernel
theorem dX8_noteLines_17 : decode cX8_noteLines 17 = .ok (.bipush 10, 2) := by decide +kernel
theorem dX8_noteLines_19 : decode cX8_noteLines 19 = .ok (.iload_n 1, 1) := by decide +kernel
theorem dX8_noteLines_20 : decode cX8_noteLines 20 = .ok (.iadd, 1) := by decide +kernel
theorem dX8_noteLines_21 : decode cX8_noteLines 21 = .ok (.iload_n 3, 1) := by decide +kernel
theorem dX8_noteLines_22 : decode cX8_noteLines 22 = .ok (.iconst 0, 1) := by decide +kernel
theorem dX8_noteLines_23 : decode cX8_noteLines 23 = .ok (.aload_n 0, 1) := by decide +kernel
theorem dX8_noteLines_24 : decode cX8_noteLines 24 = .ok (.getfield 119, 3) := by decide +kernel
theorem dX8_noteLines_27 : decode cX8_noteLines 27 = .ok (.invokevirtual 128, 3) := by decide +kernel
theorem dX8_noteLines_30 : decode cX8_noteLines 30 = .ok (.iconst 1, 1) := by decide +kernel
theorem dX8_noteLines_31 : decode cX8_noteLines 31 = .ok (.iadd, 1) := by decide +kernel
theorem dX8_noteLines_32 : decode cX8_noteLines 32 = .ok (.istore_n 3, 1) := by decide +kernel
theorem dX8_noteLines_33 : decode cX8_noteLines 33 = .ok (.iinc 2 1, 3) := by decide +kernel
theorem dX8_noteLines_36 : decode cX8_noteLines 36 = .ok (.goto (-32), 3) := by decide +kernel
theorem dX8_noteLines_39 : decode cX8_noteLines 39 = .ok (.iload_n 2, 1) := by decide +kernel
theorem dX8_noteLines_40 : decode cX8_noteLines 40 = .ok (.ireturn, 1) := by decide +kernel
theorem dX8_isShownNote_0 : decode cX8_isShownNote 0 = .ok (.iload_n 1, 1) := by decide +kernel
theorem dX8_isShownNote_1 : decode cX8_isShownNote 1 = .ok (.iload_n 2, 1) := by decide +kernel
theorem dX8_isShownNote_2 : decode cX8_isShownNote 2 = .ok (.ishr, 1) := by decide +kernel
theorem dX8_isShownNote_3 : decode cX8_isShownNote 3 = .ok (.iconst 1, 1) := by decide +kernel
theorem dX8_isShownNote_4 : decode cX8_isShownNote 4 = .ok (.iand, 1) := by decide +kernel
theorem dX8_isShownNote_5 : decode cX8_isShownNote 5 = .ok (.iconst 1, 1) := by decide +kernel
theorem dX8_isShownNote_6 : decode cX8_isShownNote 6 = .ok (.if_icmp .ne 26, 3) := by decide +kernel
theorem dX8_isShownNote_9 : decode cX8_isShownNote 9 = .ok (.aload_n 0, 1) := by decide +kernel
theorem dX8_isShownNote_10 : decode cX8_isShownNote 10 = .ok (.getfield 19, 3) := by decide +kernel
theorem dX8_isShownNote_13 : decode cX8_isShownNote 13 = .ok (.iload_n 2, 1) := by decide +kernel
theorem dX8_isShownNote_14 : decode cX8_isShownNote 14 = .ok (.iaload, 1) := by decide +kernel
theorem dX8_isShownNote_15 : decode cX8_isShownNote 15 = .ok (.ifCond .le 17, 3) := by decide +kernel
theorem dX8_isShownNote_18 : decode cX8_isShownNote 18 = .ok (.aload_n 0, 1) := by decide +kernel
theorem dX8_isShownNote_19 : decode cX8_isShownNote 19 = .ok (.getfield 29, 3) := by decide +kernel
theorem dX8_isShownNote_22 : decode cX8_isShownNote 22 = .ok (.iconst 4, 1) := by decide +kernel
theorem dX8_isShownNote_23 : decode cX8_isShownNote 23 = .ok (.iaload, 1) := by decide +kernel
theorem dX8_isShownNote_24 : decode cX8_isShownNote 24 = .ok (.iconst 1, 1) := by decide +kernel
theorem dX8_isShownNote_25 : decode cX8_isShownNote 25 = .ok (.if_icmp .ne 7, 3) := by decide +kernel
theorem dX8_isShownNote_28 : decode cX8_isShownNote 28 = .ok (.iconst 1, 1) := by decide +kernel
theorem dX8_isShownNote_29 : decode cX8_isShownNote 29 = .ok (.goto 4, 3) := by decide +kernel
theorem dX8_isShownNote_32 : decode cX8_isShownNote 32 = .ok (.iconst 0, 1) := by decide +kernel
theorem dX8_isShownNote_33 : decode cX8_isShownNote 33 = .ok (.ireturn, 1) := by decide +kernel
theorem dX8_noteRows_0 : decode cX8_noteRows 0 = .ok (.iconst 0, 1) := by decide +kernel
theorem dX8_noteRows_1 : decode cX8_noteRows 1 = .ok (.istore_n 2, 1) := by decide +kernel
theorem dX8_noteRows_2 : decode cX8_noteRows 2 = .ok (.iconst 0, 1) := by decide +kernel
theorem dX8_noteRows_3 : decode cX8_noteRows 3 = .ok (.istore_n 3, 1) := by decide +kernel
theorem dX8_noteRows_4 : decode cX8_noteRows 4 = .ok (.iload_n 3, 1) := by decide +kernel
theorem dX8_noteRows_5 : decode cX8_noteRows 5 = .ok (.bipush 10, 2) := by decide +kernel
theorem dX8_noteRows_7 : decode cX8_noteRows 7 = .ok (.if_icmp .ge 30, 3) := by decide +kernel
theorem dX8_noteRows_10 : decode cX8_noteRows 10 = .ok (.iload_n 2, 1) := by decide +kernel
theorem dX8_noteRows_11 : decode cX8_noteRows 11 = .ok (.aload_n 0, 1) := by decide +kernel
theorem dX8_noteRows_12 : decode cX8_noteRows 12 = .ok (.iload_n 1, 1) := by decide +kernel
theorem dX8_noteRows_13 : decode cX8_noteRows 13 = .ok (.iload_n 3, 1) := by decide +kernel
theorem dX8_noteRows_14 : decode cX8_noteRows 14 = .ok (.invokevirtual 135, 3) := by decide +kernel
theorem dX8_noteRows_17 : decode cX8_noteRows 17 = .ok (.ifCond .eq 11, 3) := by decide +kernel
theorem dX8_noteRows_20 : decode cX8_noteRows 20 = .ok (.aload_n 0, 1) := by decide +kernel
theorem dX8_noteRows_21 : decode cX8_noteRows 21 = .ok (.iload_n 3, 1) := by decide +kernel
theorem dX8_noteRows_22 : decode cX8_noteRows 22 = .ok (.invokevirtual 139, 3) := by decide +kernel
theorem dX8_noteRows_25 : decode cX8_noteRows 25 = .ok (.goto 4, 3) := by decide +kernel
theorem dX8_noteRows_28 : decode cX8_noteRows 28 = .ok (.iconst 0, 1) := by decide +kernel
theorem dX8_noteRows_29 : decode cX8_noteRows 29 = .ok (.iadd, 1) := by decide +kernel
theorem dX8_noteRows_30 : decode cX8_noteRows 30 = .ok (.istore_n 2, 1) := by decide +kernel
theorem dX8_noteRows_31 : decode cX8_noteRows 31 = .ok (.iinc 3 1, 3) := by decide +kernel
theorem dX8_noteRows_34 : decode cX8_noteRows 34 = .ok (.goto (-30), 3) := by decide +kernel
theorem dX8_noteRows_37 : decode cX8_noteRows 37 = .ok (.iload_n 2, 1) := by decide +kernel
theorem dX8_noteRows_38 : decode cX8_noteRows 38 = .ok (.ifCond .le 9, 3) := by decide +kernel
theorem dX8_noteRows_41 : decode cX8_noteRows 41 = .ok (.iload_n 2, 1) := by decide +kernel
theorem dX8_noteRows_42 : decode cX8_noteRows 42 = .ok (.iconst 1, 1) := by decide +kernel
theorem dX8_noteRows_43 : decode cX8_noteRows 43 = .ok (.iadd, 1) := by decide +kernel
theorem dX8_noteRows_44 : decode cX8_noteRows 44 = .ok (.goto 4, 3) := by decide +kernel
theorem dX8_noteRows_47 : decode cX8_noteRows 47 = .ok (.iconst 0, 1) := by decide +kernel
theorem dX8_noteRows_48 : decode cX8_noteRows 48 = .ok (.ireturn, 1) := by decide +kernel
theorem dX8_rowsOf_0 : decode cX8_rowsOf 0 = .ok (.iload_n 2, 1) := by decide +kernel
theorem dX8_rowsOf_1 : decode cX8_rowsOf 1 = .ok (.iload_n 1, 1) := by decide +kernel
theorem dX8_rowsOf_2 : decode cX8_rowsOf 2 = .ok (.isub, 1) := by decide +kernel
theorem dX8_rowsOf_3 : decode cX8_rowsOf 3 = .ok (.istore_n 3, 1) := by decide +kernel
theorem dX8_rowsOf_4 : decode cX8_rowsOf 4 = .ok (.iload_n 1, 1) := by decide +kernel
theorem dX8_rowsOf_5 : decode cX8_rowsOf 5 = .ok (.iconst 1, 1) := by decide +kernel
theorem dX8_rowsOf_6 : decode cX8_rowsOf 6 = .ok (.iadd, 1) := by decide +kernel
theorem dX8_rowsOf_7 : decode cX8_rowsOf 7 = .ok (.istore 4, 2) := by decide +kernel
theorem dX8_rowsOf_9 : decode cX8_rowsOf 9 = .ok (.iload 4, 2) := by decide +kernel
theorem dX8_rowsOf_11 : decode cX8_rowsOf 11 = .ok (.iload_n 2, 1) := by decide +kernel
theorem dX8_rowsOf_12 : decode cX8_rowsOf 12 = .ok (.if_icmp .ge 18, 3) := by decide +kernel
theorem dX8_rowsOf_15 : decode cX8_rowsOf 15 = .ok (.iload_n 3, 1) := by decide +kernel
theorem dX8_rowsOf_16 : decode cX8_rowsOf 16 = .ok (.aload_n 0, 1) := by decide +kernel
theorem dX8_rowsOf_17 : decode cX8_rowsOf 17 = .ok (.iload 4, 2) := by decide +kernel
theorem dX8_rowsOf_19 : decode cX8_rowsOf 19 = .ok (.invokevirtual 142, 3) := by decide +kernel
theorem dX8_rowsOf_22 : decode cX8_rowsOf 22 = .ok (.iadd, 1) := by decide +kernel
theorem dX8_rowsOf_23 : decode cX8_rowsOf 23 = .ok (.istore_n 3, 1) := by decide +kernel
theorem dX8_rowsOf_24 : decode cX8_rowsOf 24 = .ok (.iinc 4 1, 3) := by decide +kernel
theorem dX8_rowsOf_27 : decode cX8_rowsOf 27 = .ok (.goto (-18), 3) := by decide +kernel
theorem dX8_rowsOf_30 : decode cX8_rowsOf 30 = .ok (.iload_n 3, 1) := by decide +kernel
theorem dX8_rowsOf_31 : decode cX8_rowsOf 31 = .ok (.ireturn, 1) := by decide +kernel
theorem dX8_need_0 : decode cX8_need 0 = .ok (.aload_n 0, 1) := by decide +kernel
theorem dX8_need_1 : decode cX8_need 1 = .ok (.iload_n 1, 1) := by decide +kernel
theorem dX8_need_2 : decode cX8_need 2 = .ok (.iload_n 2, 1) := by decide +kernel
theorem dX8_need_3 : decode cX8_need 3 = .ok (.invokevirtual 145, 3) := by decide +kernel
theorem dX8_need_6 : decode cX8_need 6 = .ok (.aload_n 0, 1) := by decide +kernel
theorem dX8_need_7 : decode cX8_need 7 = .ok (.aload_n 0, 1) := by decide +kernel
theorem dX8_need_8 : decode cX8_need 8 = .ok (.iload_n 1, 1) := by decide +kernel
theorem dX8_need_9 : decode cX8_need 9 = .ok (.iload_n 2, 1) := by decide +kernel
theorem dX8_need_10 : decode cX8_need 10 = .ok (.invokevirtual 148, 3) := by decide +kernel
theorem dX8_need_13 : decode cX8_need 13 = .ok (.invokevirtual 151, 3) := by decide +kernel
theorem dX8_need_16 : decode cX8_need 16 = .ok (.iadd, 1) := by decide +kernel
theorem dX8_need_17 : decode cX8_need 17 = .ok (.ireturn, 1) := by decide +kernel
theorem dX8_isLast_0 : decode cX8_isLast 0 = .ok (.iload_n 1, 1) := by decide +kernel
theorem dX8_isLast_1 : decode cX8_isLast 1 = .ok (.aload_n 0, 1) := by decide +kernel
theorem dX8_isLast_2 : decode cX8_isLast 2 = .ok (.getfield 122, 3) := by decide +kernel
theorem dX8_isLast_5 : decode cX8_isLast 5 = .ok (.iconst 1, 1) := by decide +kernel
theorem dX8_isLast_6 : decode cX8_isLast 6 = .ok (.isub, 1) := by decide +kernel
theorem dX8_isLast_7 : decode cX8_isLast 7 = .ok (.if_icmp .eq 20, 3) := by decide +kernel
theorem dX8_isLast_10 : decode cX8_isLast 10 = .ok (.aload_n 0, 1) := by decide +kernel
theorem dX8_isLast_11 : decode cX8_isLast 11 = .ok (.getfield 35, 3) := by decide +kernel
theorem dX8_isLast_14 : decode cX8_isLast 14 = .ok (.iload_n 1, 1) := by decide +kernel
theorem dX8_isLast_15 : decode cX8_isLast 15 = .ok (.iconst 1, 1) := by decide +kernel
theorem dX8_isLast_16 : decode cX8_isLast 16 = .ok (.iadd, 1) := by decide +kernel
theorem dX8_isLast_17 : decode cX8_isLast 17 = .ok (.iaload, 1) := by decide +kernel
theorem dX8_isLast_18 : decode cX8_isLast 18 = .ok (.aload_n 0, 1) := by decide +kernel
theorem dX8_isLast_19 : decode cX8_isLast 19 = .ok (.getfield 35, 3) := by decide +kernel
theorem dX8_isLast_22 : decode cX8_isLast 22 = .ok (.iload_n 1, 1) := by decide +kernel
theorem dX8_isLast_23 : decode cX8_isLast 23 = .ok (.iaload, 1) := by decide +kernel
theorem dX8_isLast_24 : decode cX8_isLast 24 = .ok (.if_icmp .eq 7, 3) := by decide +kernel
theorem dX8_isLast_27 : decode cX8_isLast 27 = .ok (.iconst 1, 1) := by decide +kernel
theorem dX8_isLast_28 : decode cX8_isLast 28 = .ok (.goto 4, 3) := by decide +kernel
theorem dX8_isLast_31 : decode cX8_isLast 31 = .ok (.iconst 0, 1) := by decide +kernel
theorem dX8_isLast_32 : decode cX8_isLast 32 = .ok (.ireturn, 1) := by decide +kernel
theorem dX8_mayBreak_0 : decode cX8_mayBreak 0 = .ok (.aload_n 0, 1) := by decide +kernel
theorem dX8_mayBreak_1 : decode cX8_mayBreak 1 = .ok (.getfield 7, 3) := by decide +kernel
theorem dX8_mayBreak_4 : decode cX8_mayBreak 4 = .ok (.bipush 75, 2) := by decide +kernel
theorem dX8_mayBreak_6 : decode cX8_mayBreak 6 = .ok (.aload_n 0, 1) := by decide +kernel
theorem dX8_mayBreak_7 : decode cX8_mayBreak 7 = .ok (.getfield 35, 3) := by decide +kernel
theorem dX8_mayBreak_10 : decode cX8_mayBreak 10 = .ok (.iload_n 1, 1) := by decide +kernel
theorem dX8_mayBreak_11 : decode cX8_mayBreak 11 = .ok (.iconst 1, 1) := by decide +kernel
theorem dX8_mayBreak_12 : decode cX8_mayBreak 12 = .ok (.isub, 1) := by decide +kernel
theorem dX8_mayBreak_13 : decode cX8_mayBreak 13 = .ok (.iaload, 1) := by decide +kernel
theorem dX8_mayBreak_14 : decode cX8_mayBreak 14 = .ok (.iadd, 1) := by decide +kernel
theorem dX8_mayBreak_15 : decode cX8_mayBreak 15 = .ok (.iaload, 1) := by decide +kernel
theorem dX8_mayBreak_16 : decode cX8_mayBreak 16 = .ok (.iconst 1, 1) := by decide +kernel
theorem dX8_mayBreak_17 : decode cX8_mayBreak 17 = .ok (.if_icmp .ne 7, 3) := by decide +kernel
theorem dX8_mayBreak_20 : decode cX8_mayBreak 20 = .ok (.iconst 1, 1) := by decide +kernel
theorem dX8_mayBreak_21 : decode cX8_mayBreak 21 = .ok (.goto 4, 3) := by decide +kernel
theorem dX8_mayBreak_24 : decode cX8_mayBreak 24 = .ok (.iconst 0, 1) := by decide +kernel
theorem dX8_mayBreak_25 : decode cX8_mayBreak 25 = .ok (.istore_n 2, 1) := by decide +kernel
theorem dX8_mayBreak_26 : decode cX8_mayBreak 26 = .ok (.aload_n 0, 1) := by decide +kernel
theorem dX8_mayBreak_27 : decode cX8_mayBreak 27 = .ok (.getfield 35, 3) := by decide +kernel
theorem dX8_mayBreak_30 : decode cX8_mayBreak 30 = .ok (.iload_n 1, 1) := by decide +kernel
theorem dX8_mayBreak_31 : decode cX8_mayBreak 31 = .ok (.iaload, 1) := by decide +kernel
theorem dX8_mayBreak_32 : decode cX8_mayBreak 32 = .ok (.aload_n 0, 1) := by decide +kernel
theorem dX8_mayBreak_33 : decode cX8_mayBreak 33 = .ok (.getfield 35, 3) := by decide +kernel
theorem dX8_mayBreak_36 : decode cX8_mayBreak 36 = .ok (.iload_n 1, 1) := by decide +kernel
theorem dX8_mayBreak_37 : decode cX8_mayBreak 37 = .ok (.iconst 1, 1) := by decide +kernel
theorem dX8_mayBreak_38 : decode cX8_mayBreak 38 = .ok (.isub, 1) := by decide +kernel
theorem dX8_mayBreak_39 : decode cX8_mayBreak 39 = .ok (.iaload, 1) := by decide +kernel
theorem dX8_mayBreak_40 : decode cX8_mayBreak 40 = .ok (.if_icmp .ne 17, 3) := by decide +kernel
theorem dX8_mayBreak_43 : decode cX8_mayBreak 43 = .ok (.aload_n 0, 1) := by decide +kernel
theorem dX8_mayBreak_44 : decode cX8_mayBreak 44 = .ok (.iload_n 1, 1) := by decide +kernel
theorem dX8_mayBreak_45 : decode cX8_mayBreak 45 = .ok (.iconst 1, 1) := by decide +kernel
theorem dX8_mayBreak_46 : decode cX8_mayBreak 46 = .ok (.isub, 1) := by decide +kernel
theorem dX8_mayBreak_47 : decode cX8_mayBreak 47 = .ok (.invokevirtual 132, 3) := by decide +kernel
theorem dX8_mayBreak_50 : decode cX8_mayBreak 50 = .ok (.ifCond .eq 7, 3) := by decide +kernel
theorem dX8_mayBreak_53 : decode cX8_mayBreak 53 = .ok (.iconst 1, 1) := by decide +kernel
theorem dX8_mayBreak_54 : decode cX8_mayBreak 54 = .ok (.goto 4, 3) := by decide +kernel
theorem dX8_mayBreak_57 : decode cX8_mayBreak 57 = .ok (.iconst 0, 1) := by decide +kernel
theorem dX8_mayBreak_58 : decode cX8_mayBreak 58 = .ok (.istore_n 3, 1) := by decide +kernel
theorem dX8_mayBreak_59 : decode cX8_mayBreak 59 = .ok (.aload_n 0, 1) := by decide +kernel
theorem dX8_mayBreak_60 : decode cX8_mayBreak 60 = .ok (.iload_n 1, 1) := by decide +kernel
theorem dX8_mayBreak_61 : decode cX8_mayBreak 61 = .ok (.invokevirtual 154, 3) := by decide +kernel
theorem dX8_mayBreak_64 : decode cX8_mayBreak 64 = .ok (.ifCond .eq 15, 3) := by decide +kernel
theorem dX8_mayBreak_67 : decode cX8_mayBreak 67 = .ok (.aload_n 0, 1) := by decide +kernel
theorem dX8_mayBreak_68 : decode cX8_mayBreak 68 = .ok (.iload_n 1, 1) := by decide +kernel
theorem dX8_mayBreak_69 : decode cX8_mayBreak 69 = .ok (.invokevirtual 132, 3) := by decide +kernel
theorem dX8_mayBreak_72 : decode cX8_mayBreak 72 = .ok (.ifCond .ne 7, 3) := by decide +kernel
theorem dX8_mayBreak_75 : decode cX8_mayBreak 75 = .ok (.iconst 1, 1) := by decide +kernel
theorem dX8_mayBreak_76 : decode cX8_mayBreak 76 = .ok (.goto 4, 3) := by decide +kernel
theorem dX8_mayBreak_79 : decode cX8_mayBreak 79 = .ok (.iconst 0, 1) := by decide +kernel
theorem dX8_mayBreak_80 : decode cX8_mayBreak 80 = .ok (.istore 4, 2) := by decide +kernel
theorem dX8_mayBreak_82 : decode cX8_mayBreak 82 = .ok (.iload_n 2, 1) := by decide +kernel
theorem dX8_mayBreak_83 : decode cX8_mayBreak 83 = .ok (.ifCond .ne 16, 3) := by decide +kernel
theorem dX8_mayBreak_86 : decode cX8_mayBreak 86 = .ok (.iload_n 3, 1) := by decide +kernel
theorem dX8_mayBreak_87 : decode cX8_mayBreak 87 = .ok (.ifCond .ne 12, 3) := by decide +kernel
theorem dX8_mayBreak_90 : decode cX8_mayBreak 90 = .ok (.iload 4, 2) := by decide +kernel
theorem dX8_mayBreak_92 : decode cX8_mayBreak 92 = .ok (.ifCond .ne 7, 3) := by decide +kernel
theorem dX8_mayBreak_95 : decode cX8_mayBreak 95 = .ok (.iconst 1, 1) := by decide +kernel
theorem dX8_mayBreak_96 : decode cX8_mayBreak 96 = .ok (.goto 4, 3) := by decide +kernel
theorem dX8_mayBreak_99 : decode cX8_mayBreak 99 = .ok (.iconst 0, 1) := by decide +kernel
theorem dX8_mayBreak_100 : decode cX8_mayBreak 100 = .ok (.ireturn, 1) := by decide +kernel
theorem dX8_breakOf_0 : decode cX8_breakOf 0 = .ok (.iload_n 1, 1) := by decide +kernel
theorem dX8_breakOf_1 : decode cX8_breakOf 1 = .ok (.iconst 1, 1) := by decide +kernel
theorem dX8_breakOf_2 : decode cX8_breakOf 2 = .ok (.iadd, 1) := by decide +kernel
theorem dX8_breakOf_3 : decode cX8_breakOf 3 = .ok (.istore_n 2, 1) := by decide +kernel
theorem dX8_breakOf_4 : decode cX8_breakOf 4 = .ok (.iload_n 2, 1) := by decide +kernel
theorem dX8_breakOf_5 : decode cX8_breakOf 5 = .ok (.aload_n 0, 1) := by decide +kernel
theorem dX8_breakOf_6 : decode cX8_breakOf 6 = .ok (.getfield 122, 3) := by decide +kernel
theorem dX8_breakOf_9 : decode cX8_breakOf 9 = .ok (.if_icmp .ge 24, 3) := by decide +kernel
theorem dX8_breakOf_12 : decode cX8_breakOf 12 = .ok (.aload_n 0, 1) := by decide +kernel
theorem dX8_breakOf_13 : decode cX8_breakOf 13 = .ok (.iload_n 1, 1) := by decide +kernel
theorem dX8_breakOf_14 : decode cX8_breakOf 14 = .ok (.iload_n 2, 1) := by decide +kernel
theorem dX8_breakOf_15 : decode cX8_breakOf 15 = .ok (.iconst 1, 1) := by decide +kernel
theorem dX8_breakOf_16 : decode cX8_breakOf 16 = .ok (.iadd, 1) := by decide +kernel
theorem dX8_breakOf_17 : decode cX8_breakOf 17 = .ok (.invokevirtual 157, 3) := by decide +kernel
theorem dX8_breakOf_20 : decode cX8_breakOf 20 = .ok (.aload_n 0, 1) := by decide +kernel
theorem dX8_breakOf_21 : decode cX8_breakOf 21 = .ok (.getfield 160, 3) := by decide +kernel
theorem dX8_breakOf_24 : decode cX8_breakOf 24 = .ok (.if_icmp .gt 9, 3) := by decide +kernel
theorem dX8_breakOf_27 : decode cX8_breakOf 27 = .ok (.iinc 2 1, 3) := by decide +kernel
theorem dX8_breakOf_30 : decode cX8_breakOf 30 = .ok (.goto (-26), 3) := by decide +kernel
theorem dX8_breakOf_33 : decode cX8_breakOf 33 = .ok (.aload_n 0, 1) := by decide +kernel
theorem dX8_breakOf_34 : decode cX8_breakOf 34 = .ok (.getfield 29, 3) := by decide +kernel
theorem dX8_breakOf_37 : decode cX8_breakOf 37 = .ok (.iconst 3, 1) := by decide +kernel
theorem dX8_breakOf_38 : decode cX8_breakOf 38 = .ok (.iaload, 1) := by decide +kernel
theorem dX8_breakOf_39 : decode cX8_breakOf 39 = .ok (.iconst 1, 1) := by decide +kernel
theorem dX8_breakOf_40 : decode cX8_breakOf 40 = .ok (.if_icmp .ne 44, 3) := by decide +kernel
theorem dX8_breakOf_43 : decode cX8_breakOf 43 = .ok (.iload_n 2, 1) := by decide +kernel
theorem dX8_breakOf_44 : decode cX8_breakOf 44 = .ok (.aload_n 0, 1) := by decide +kernel
theorem dX8_breakOf_45 : decode cX8_breakOf 45 = .ok (.getfield 122, 3) := by decide +kernel
theorem dX8_breakOf_48 : decode cX8_breakOf 48 = .ok (.if_icmp .ge 36, 3) := by decide +kernel
theorem dX8_breakOf_51 : decode cX8_breakOf 51 = .ok (.aload_n 0, 1) := by decide +kernel
theorem dX8_breakOf_52 : decode cX8_breakOf 52 = .ok (.iload_n 2, 1) := by decide +kernel
theorem dX8_breakOf_53 : decode cX8_breakOf 53 = .ok (.invokevirtual 163, 3) := by decide +kernel
theorem dX8_breakOf_56 : decode cX8_breakOf 56 = .ok (.ifCond .ne 28, 3) := by decide +kernel
theorem dX8_breakOf_59 : decode cX8_breakOf 59 = .ok (.iload_n 2, 1) := by decide +kernel
theorem dX8_breakOf_60 : decode cX8_breakOf 60 = .ok (.iconst 1, 1) := by decide +kernel
theorem dX8_breakOf_61 : decode cX8_breakOf 61 = .ok (.isub, 1) := by decide +kernel
theorem dX8_breakOf_62 : decode cX8_breakOf 62 = .ok (.istore_n 3, 1) := by decide +kernel
theorem dX8_breakOf_63 : decode cX8_breakOf 63 = .ok (.iload_n 3, 1) := by decide +kernel
theorem dX8_breakOf_64 : decode cX8_breakOf 64 = .ok (.iload_n 1, 1) := by decide +kernel
theorem dX8_breakOf_65 : decode cX8_breakOf 65 = .ok (.if_icmp .le 19, 3) := by decide +kernel
theorem dX8_breakOf_68 : decode cX8_breakOf 68 = .ok (.aload_n 0, 1) := by decide +kernel
theorem dX8_breakOf_69 : decode cX8_breakOf 69 = .ok (.iload_n 3, 1) := by decide +kernel
theorem dX8_breakOf_70 : decode cX8_breakOf 70 = .ok (.invokevirtual 163, 3) := by decide +kernel
theorem dX8_breakOf_73 : decode cX8_breakOf 73 = .ok (.ifCond .eq 5, 3) := by decide +kernel
theorem dX8_breakOf_76 : decode cX8_breakOf 76 = .ok (.iload_n 3, 1) := by decide +kernel
theorem dX8_breakOf_77 : decode cX8_breakOf 77 = .ok (.ireturn, 1) := by decide +kernel
theorem dX8_breakOf_78 : decode cX8_breakOf 78 = .ok (.iinc 3 (-1), 3) := by decide +kernel
theorem dX8_breakOf_81 : decode cX8_breakOf 81 = .ok (.goto (-18), 3) := by decide +kernel
theorem dX8_breakOf_84 : decode cX8_breakOf 84 = .ok (.iload_n 2, 1) := by decide +kernel
theorem dX8_breakOf_85 : decode cX8_breakOf 85 = .ok (.ireturn, 1) := by decide +kernel
theorem dX8_layPages_0 : decode cX8_layPages 0 = .ok (.aload_n 0, 1) := by decide +kernel
theorem dX8_layPages_1 : decode cX8_layPages 1 = .ok (.iload_n 1, 1) := by decide +kernel
theorem dX8_layPages_2 : decode cX8_layPages 2 = .ok (.invokevirtual 166, 3) := by decide +kernel
