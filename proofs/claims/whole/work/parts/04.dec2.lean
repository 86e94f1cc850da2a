theorem dX8_layPages_5 : decode cX8_layPages 5 = .ok (.aload_n 0, 1) := by decide +kernel
theorem dX8_layPages_6 : decode cX8_layPages 6 = .ok (.iload_n 2, 1) := by decide +kernel
theorem dX8_layPages_7 : decode cX8_layPages 7 = .ok (.putfield 160, 3) := by decide +kernel
theorem dX8_layPages_10 : decode cX8_layPages 10 = .ok (.aload_n 0, 1) := by decide +kernel
theorem dX8_layPages_11 : decode cX8_layPages 11 = .ok (.iconst 0, 1) := by decide +kernel
theorem dX8_layPages_12 : decode cX8_layPages 12 = .ok (.putfield 170, 3) := by decide +kernel
theorem dX8_layPages_15 : decode cX8_layPages 15 = .ok (.iconst 0, 1) := by decide +kernel
theorem dX8_layPages_16 : decode cX8_layPages 16 = .ok (.istore_n 3, 1) := by decide +kernel
theorem dX8_layPages_17 : decode cX8_layPages 17 = .ok (.iload_n 3, 1) := by decide +kernel
theorem dX8_layPages_18 : decode cX8_layPages 18 = .ok (.aload_n 0, 1) := by decide +kernel
theorem dX8_layPages_19 : decode cX8_layPages 19 = .ok (.getfield 122, 3) := by decide +kernel
theorem dX8_layPages_22 : decode cX8_layPages 22 = .ok (.if_icmp .ge 32, 3) := by decide +kernel
theorem dX8_layPages_25 : decode cX8_layPages 25 = .ok (.aload_n 0, 1) := by decide +kernel
theorem dX8_layPages_26 : decode cX8_layPages 26 = .ok (.getfield 44, 3) := by decide +kernel
theorem dX8_layPages_29 : decode cX8_layPages 29 = .ok (.aload_n 0, 1) := by decide +kernel
theorem dX8_layPages_30 : decode cX8_layPages 30 = .ok (.getfield 170, 3) := by decide +kernel
theorem dX8_layPages_33 : decode cX8_layPages 33 = .ok (.iload_n 3, 1) := by decide +kernel
theorem dX8_layPages_34 : decode cX8_layPages 34 = .ok (.iastore, 1) := by decide +kernel
theorem dX8_layPages_35 : decode cX8_layPages 35 = .ok (.aload_n 0, 1) := by decide +kernel
theorem dX8_layPages_36 : decode cX8_layPages 36 = .ok (.dup, 1) := by decide +kernel
theorem dX8_layPages_37 : decode cX8_layPages 37 = .ok (.getfield 170, 3) := by decide +kernel
theorem dX8_layPages_40 : decode cX8_layPages 40 = .ok (.iconst 1, 1) := by decide +kernel
theorem dX8_layPages_41 : decode cX8_layPages 41 = .ok (.iadd, 1) := by decide +kernel
theorem dX8_layPages_42 : decode cX8_layPages 42 = .ok (.putfield 170, 3) := by decide +kernel
theorem dX8_layPages_45 : decode cX8_layPages 45 = .ok (.aload_n 0, 1) := by decide +kernel
theorem dX8_layPages_46 : decode cX8_layPages 46 = .ok (.iload_n 3, 1) := by decide +kernel
theorem dX8_layPages_47 : decode cX8_layPages 47 = .ok (.invokevirtual 173, 3) := by decide +kernel
theorem dX8_layPages_50 : decode cX8_layPages 50 = .ok (.istore_n 3, 1) := by decide +kernel
theorem dX8_layPages_51 : decode cX8_layPages 51 = .ok (.goto (-34), 3) := by decide +kernel
theorem dX8_layPages_54 : decode cX8_layPages 54 = .ok (.aload_n 0, 1) := by decide +kernel
theorem dX8_layPages_55 : decode cX8_layPages 55 = .ok (.getfield 44, 3) := by decide +kernel
theorem dX8_layPages_58 : decode cX8_layPages 58 = .ok (.aload_n 0, 1) := by decide +kernel
theorem dX8_layPages_59 : decode cX8_layPages 59 = .ok (.getfield 170, 3) := by decide +kernel
theorem dX8_layPages_62 : decode cX8_layPages 62 = .ok (.aload_n 0, 1) := by decide +kernel
theorem dX8_layPages_63 : decode cX8_layPages 63 = .ok (.getfield 122, 3) := by decide +kernel
theorem dX8_layPages_66 : decode cX8_layPages 66 = .ok (.iastore, 1) := by decide +kernel
theorem dX8_layPages_67 : decode cX8_layPages 67 = .ok (.return_, 1) := by decide +kernel
theorem dX8_layAll_0 : decode cX8_layAll 0 = .ok (.aload_n 0, 1) := by decide +kernel
theorem dX8_layAll_1 : decode cX8_layAll 1 = .ok (.aload_n 0, 1) := by decide +kernel
theorem dX8_layAll_2 : decode cX8_layAll 2 = .ok (.getfield 22, 3) := by decide +kernel
theorem dX8_layAll_5 : decode cX8_layAll 5 = .ok (.aload_n 0, 1) := by decide +kernel
theorem dX8_layAll_6 : decode cX8_layAll 6 = .ok (.getfield 26, 3) := by decide +kernel
theorem dX8_layAll_9 : decode cX8_layAll 9 = .ok (.invokevirtual 176, 3) := by decide +kernel
theorem dX8_layAll_12 : decode cX8_layAll 12 = .ok (.return_, 1) := by decide +kernel
theorem dX8_pageAt_0 : decode cX8_pageAt 0 = .ok (.iconst 0, 1) := by decide +kernel
theorem dX8_pageAt_1 : decode cX8_pageAt 1 = .ok (.istore_n 2, 1) := by decide +kernel
theorem dX8_pageAt_2 : decode cX8_pageAt 2 = .ok (.aload_n 0, 1) := by decide +kernel
theorem dX8_pageAt_3 : decode cX8_pageAt 3 = .ok (.getfield 44, 3) := by decide +kernel
theorem dX8_pageAt_6 : decode cX8_pageAt 6 = .ok (.iload_n 2, 1) := by decide +kernel
theorem dX8_pageAt_7 : decode cX8_pageAt 7 = .ok (.iconst 1, 1) := by decide +kernel
theorem dX8_pageAt_8 : decode cX8_pageAt 8 = .ok (.iadd, 1) := by decide +kernel
theorem dX8_pageAt_9 : decode cX8_pageAt 9 = .ok (.iaload, 1) := by decide +kernel
theorem dX8_pageAt_10 : decode cX8_pageAt 10 = .ok (.iload_n 1, 1) := by decide +kernel
theorem dX8_pageAt_11 : decode cX8_pageAt 11 = .ok (.if_icmp .gt 9, 3) := by decide +kernel
theorem dX8_pageAt_14 : decode cX8_pageAt 14 = .ok (.iinc 2 1, 3) := by decide +kernel
theorem dX8_pageAt_17 : decode cX8_pageAt 17 = .ok (.goto (-15), 3) := by decide +kernel
theorem dX8_pageAt_20 : decode cX8_pageAt 20 = .ok (.iload_n 2, 1) := by decide +kernel
theorem dX8_pageAt_21 : decode cX8_pageAt 21 = .ok (.ireturn, 1) := by decide +kernel
theorem dX8_lineAt_0 : decode cX8_lineAt 0 = .ok (.iconst 0, 1) := by decide +kernel
theorem dX8_lineAt_1 : decode cX8_lineAt 1 = .ok (.istore_n 3, 1) := by decide +kernel
theorem dX8_lineAt_2 : decode cX8_lineAt 2 = .ok (.iconst 0, 1) := by decide +kernel
theorem dX8_lineAt_3 : decode cX8_lineAt 3 = .ok (.istore 4, 2) := by decide +kernel
theorem dX8_lineAt_5 : decode cX8_lineAt 5 = .ok (.iload 4, 2) := by decide +kernel
theorem dX8_lineAt_7 : decode cX8_lineAt 7 = .ok (.aload_n 0, 1) := by decide +kernel
theorem dX8_lineAt_8 : decode cX8_lineAt 8 = .ok (.getfield 122, 3) := by decide +kernel
theorem dX8_lineAt_11 : decode cX8_lineAt 11 = .ok (.if_icmp .ge 38, 3) := by decide +kernel
theorem dX8_lineAt_14 : decode cX8_lineAt 14 = .ok (.aload_n 0, 1) := by decide +kernel
theorem dX8_lineAt_15 : decode cX8_lineAt 15 = .ok (.getfield 35, 3) := by decide +kernel
theorem dX8_lineAt_18 : decode cX8_lineAt 18 = .ok (.iload 4, 2) := by decide +kernel
theorem dX8_lineAt_20 : decode cX8_lineAt 20 = .ok (.iaload, 1) := by decide +kernel
theorem dX8_lineAt_21 : decode cX8_lineAt 21 = .ok (.iload_n 1, 1) := by decide +kernel
theorem dX8_lineAt_22 : decode cX8_lineAt 22 = .ok (.if_icmp .ne 19, 3) := by decide +kernel
theorem dX8_lineAt_25 : decode cX8_lineAt 25 = .ok (.aload_n 0, 1) := by decide +kernel
theorem dX8_lineAt_26 : decode cX8_lineAt 26 = .ok (.getfield 38, 3) := by decide +kernel
theorem dX8_lineAt_29 : decode cX8_lineAt 29 = .ok (.iload 4, 2) := by decide +kernel
theorem dX8_lineAt_31 : decode cX8_lineAt 31 = .ok (.iaload, 1) := by decide +kernel
theorem dX8_lineAt_32 : decode cX8_lineAt 32 = .ok (.iload_n 2, 1) := by decide +kernel
theorem dX8_lineAt_33 : decode cX8_lineAt 33 = .ok (.if_icmp .gt 8, 3) := by decide +kernel
theorem dX8_lineAt_36 : decode cX8_lineAt 36 = .ok (.iload 4, 2) := by decide +kernel
theorem dX8_lineAt_38 : decode cX8_lineAt 38 = .ok (.goto 4, 3) := by decide +kernel
theorem dX8_lineAt_41 : decode cX8_lineAt 41 = .ok (.iload_n 3, 1) := by decide +kernel
theorem dX8_lineAt_42 : decode cX8_lineAt 42 = .ok (.istore_n 3, 1) := by decide +kernel
theorem dX8_lineAt_43 : decode cX8_lineAt 43 = .ok (.iinc 4 1, 3) := by decide +kernel
theorem dX8_lineAt_46 : decode cX8_lineAt 46 = .ok (.goto (-41), 3) := by decide +kernel
theorem dX8_lineAt_49 : decode cX8_lineAt 49 = .ok (.iload_n 3, 1) := by decide +kernel
theorem dX8_lineAt_50 : decode cX8_lineAt 50 = .ok (.ireturn, 1) := by decide +kernel
theorem dX8_pageWith_0 : decode cX8_pageWith 0 = .ok (.aload_n 0, 1) := by decide +kernel
theorem dX8_pageWith_1 : decode cX8_pageWith 1 = .ok (.aload_n 0, 1) := by decide +kernel
theorem dX8_pageWith_2 : decode cX8_pageWith 2 = .ok (.iload_n 1, 1) := by decide +kernel
theorem dX8_pageWith_3 : decode cX8_pageWith 3 = .ok (.iload_n 2, 1) := by decide +kernel
theorem dX8_pageWith_4 : decode cX8_pageWith 4 = .ok (.invokevirtual 180, 3) := by decide +kernel
theorem dX8_pageWith_7 : decode cX8_pageWith 7 = .ok (.invokevirtual 183, 3) := by decide +kernel
theorem dX8_pageWith_10 : decode cX8_pageWith 10 = .ok (.ireturn, 1) := by decide +kernel
theorem dX8_here_0 : decode cX8_here 0 = .ok (.aload_n 0, 1) := by decide +kernel
theorem dX8_here_1 : decode cX8_here 1 = .ok (.aload_n 0, 1) := by decide +kernel
theorem dX8_here_2 : decode cX8_here 2 = .ok (.getfield 7, 3) := by decide +kernel
theorem dX8_here_5 : decode cX8_here 5 = .ok (.iconst 1, 1) := by decide +kernel
theorem dX8_here_6 : decode cX8_here 6 = .ok (.iaload, 1) := by decide +kernel
theorem dX8_here_7 : decode cX8_here 7 = .ok (.aload_n 0, 1) := by decide +kernel
theorem dX8_here_8 : decode cX8_here 8 = .ok (.getfield 7, 3) := by decide +kernel
theorem dX8_here_11 : decode cX8_here 11 = .ok (.iconst 2, 1) := by decide +kernel
theorem dX8_here_12 : decode cX8_here 12 = .ok (.iaload, 1) := by decide +kernel
theorem dX8_here_13 : decode cX8_here 13 = .ok (.invokevirtual 186, 3) := by decide +kernel
theorem dX8_here_16 : decode cX8_here 16 = .ok (.ireturn, 1) := by decide +kernel
theorem dX8_setSize_0 : decode cX8_setSize 0 = .ok (.aload_n 0, 1) := by decide +kernel
theorem dX8_setSize_1 : decode cX8_setSize 1 = .ok (.iload_n 1, 1) := by decide +kernel
theorem dX8_setSize_2 : decode cX8_setSize 2 = .ok (.bipush 18, 2) := by decide +kernel
theorem dX8_setSize_4 : decode cX8_setSize 4 = .ok (.bipush 60, 2) := by decide +kernel
theorem dX8_setSize_6 : decode cX8_setSize 6 = .ok (.invokestatic 50, 3) := by decide +kernel
theorem dX8_setSize_9 : decode cX8_setSize 9 = .ok (.ifCond .eq 17, 3) := by decide +kernel
theorem dX8_setSize_12 : decode cX8_setSize 12 = .ok (.iload_n 2, 1) := by decide +kernel
theorem dX8_setSize_13 : decode cX8_setSize 13 = .ok (.iconst 2, 1) := by decide +kernel
theorem dX8_setSize_14 : decode cX8_setSize 14 = .ok (.bipush 20, 2) := by decide +kernel
theorem dX8_setSize_16 : decode cX8_setSize 16 = .ok (.invokestatic 50, 3) := by decide +kernel
theorem dX8_setSize_19 : decode cX8_setSize 19 = .ok (.ifCond .eq 7, 3) := by decide +kernel
theorem dX8_setSize_22 : decode cX8_setSize 22 = .ok (.iconst 0, 1) := by decide +kernel
theorem dX8_setSize_23 : decode cX8_setSize 23 = .ok (.goto 4, 3) := by decide +kernel
theorem dX8_setSize_26 : decode cX8_setSize 26 = .ok (.iconst 1, 1) := by decide +kernel
theorem dX8_setSize_27 : decode cX8_setSize 27 = .ok (.putfield 47, 3) := by decide +kernel
theorem dX8_setSize_30 : decode cX8_setSize 30 = .ok (.aload_n 0, 1) := by decide +kernel
theorem dX8_setSize_31 : decode cX8_setSize 31 = .ok (.getfield 47, 3) := by decide +kernel
theorem dX8_setSize_34 : decode cX8_setSize 34 = .ok (.ifCond .le 5, 3) := by decide +kernel
theorem dX8_setSize_37 : decode cX8_setSize 37 = .ok (.iconst 0, 1) := by decide +kernel
theorem dX8_setSize_38 : decode cX8_setSize 38 = .ok (.ireturn, 1) := by decide +kernel
theorem dX8_setSize_39 : decode cX8_setSize 39 = .ok (.aload_n 0, 1) := by decide +kernel
theorem dX8_setSize_40 : decode cX8_setSize 40 = .ok (.iload_n 1, 1) := by decide +kernel
theorem dX8_setSize_41 : decode cX8_setSize 41 = .ok (.putfield 22, 3) := by decide +kernel
theorem dX8_setSize_44 : decode cX8_setSize 44 = .ok (.aload_n 0, 1) := by decide +kernel
theorem dX8_setSize_45 : decode cX8_setSize 45 = .ok (.iload_n 2, 1) := by decide +kernel
theorem dX8_setSize_46 : decode cX8_setSize 46 = .ok (.putfield 26, 3) := by decide +kernel
theorem dX8_setSize_49 : decode cX8_setSize 49 = .ok (.aload_n 0, 1) := by decide +kernel
theorem dX8_setSize_50 : decode cX8_setSize 50 = .ok (.invokevirtual 189, 3) := by decide +kernel
theorem dX8_setSize_53 : decode cX8_setSize 53 = .ok (.aload_n 0, 1) := by decide +kernel
theorem dX8_setSize_54 : decode cX8_setSize 54 = .ok (.getfield 170, 3) := by decide +kernel
theorem dX8_setSize_57 : decode cX8_setSize 57 = .ok (.ireturn, 1) := by decide +kernel
theorem dX8_setStyle_0 : decode cX8_setStyle 0 = .ok (.iload_n 1, 1) := by decide +kernel
theorem dX8_setStyle_1 : decode cX8_setStyle 1 = .ok (.iconst 0, 1) := by decide +kernel
theorem dX8_setStyle_2 : decode cX8_setStyle 2 = .ok (.iconst 4, 1) := by decide +kernel
theorem dX8_setStyle_3 : decode cX8_setStyle 3 = .ok (.invokestatic 50, 3) := by decide +kernel
theorem dX8_setStyle_6 : decode cX8_setStyle 6 = .ok (.ifCond .eq 34, 3) := by decide +kernel
theorem dX8_setStyle_9 : decode cX8_setStyle 9 = .ok (.iload_n 2, 1) := by decide +kernel
theorem dX8_setStyle_10 : decode cX8_setStyle 10 = .ok (.iconst 0, 1) := by decide +kernel
theorem dX8_setStyle_11 : decode cX8_setStyle 11 = .ok (.iload_n 1, 1) := by decide +kernel
theorem dX8_setStyle_12 : decode cX8_setStyle 12 = .ok (.iconst 2, 1) := by decide +kernel
theorem dX8_setStyle_13 : decode cX8_setStyle 13 = .ok (.if_icmp .ge 7, 3) := by decide +kernel
theorem dX8_setStyle_16 : decode cX8_setStyle 16 = .ok (.iconst 4, 1) := by decide +kernel
theorem dX8_setStyle_17 : decode cX8_setStyle 17 = .ok (.goto 13, 3) := by decide +kernel
theorem dX8_setStyle_20 : decode cX8_setStyle 20 = .ok (.iload_n 1, 1) := by decide +kernel
theorem dX8_setStyle_21 : decode cX8_setStyle 21 = .ok (.iconst 2, 1) := by decide +kernel
theorem dX8_setStyle_22 : decode cX8_setStyle 22 = .ok (.if_icmp .ne 7, 3) := by decide +kernel
theorem dX8_setStyle_25 : decode cX8_setStyle 25 = .ok (.iconst 2, 1) := by decide +kernel
theorem dX8_setStyle_26 : decode cX8_setStyle 26 = .ok (.goto 4, 3) := by decide +kernel
theorem dX8_setStyle_29 : decode cX8_setStyle 29 = .ok (.iconst 1, 1) := by decide +kernel
theorem dX8_setStyle_30 : decode cX8_setStyle 30 = .ok (.invokestatic 50, 3) := by decide +kernel
theorem dX8_setStyle_33 : decode cX8_setStyle 33 = .ok (.ifCond .eq 7, 3) := by decide +kernel
theorem dX8_setStyle_36 : decode cX8_setStyle 36 = .ok (.iconst 1, 1) := by decide +kernel
theorem dX8_setStyle_37 : decode cX8_setStyle 37 = .ok (.goto 4, 3) := by decide +kernel
theorem dX8_setStyle_40 : decode cX8_setStyle 40 = .ok (.iconst 0, 1) := by decide +kernel
theorem dX8_setStyle_41 : decode cX8_setStyle 41 = .ok (.istore_n 3, 1) := by decide +kernel
theorem dX8_setStyle_42 : decode cX8_setStyle 42 = .ok (.aload_n 0, 1) := by decide +kernel
theorem dX8_setStyle_43 : decode cX8_setStyle 43 = .ok (.iload_n 3, 1) := by decide +kernel
theorem dX8_setStyle_44 : decode cX8_setStyle 44 = .ok (.ifCond .eq 7, 3) := by decide +kernel
theorem dX8_setStyle_47 : decode cX8_setStyle 47 = .ok (.iconst 0, 1) := by decide +kernel
theorem dX8_setStyle_48 : decode cX8_setStyle 48 = .ok (.goto 4, 3) := by decide +kernel
theorem dX8_setStyle_51 : decode cX8_setStyle 51 = .ok (.iconst 1, 1) := by decide +kernel
theorem dX8_setStyle_52 : decode cX8_setStyle 52 = .ok (.putfield 47, 3) := by decide +kernel
theorem dX8_setStyle_55 : decode cX8_setStyle 55 = .ok (.aload_n 0, 1) := by decide +kernel
theorem dX8_setStyle_56 : decode cX8_setStyle 56 = .ok (.getfield 47, 3) := by decide +kernel
theorem dX8_setStyle_59 : decode cX8_setStyle 59 = .ok (.ifCond .le 5, 3) := by decide +kernel
theorem dX8_setStyle_62 : decode cX8_setStyle 62 = .ok (.iconst 0, 1) := by decide +kernel
theorem dX8_setStyle_63 : decode cX8_setStyle 63 = .ok (.ireturn, 1) := by decide +kernel
theorem dX8_setStyle_64 : decode cX8_setStyle 64 = .ok (.aload_n 0, 1) := by decide +kernel
theorem dX8_setStyle_65 : decode cX8_setStyle 65 = .ok (.getfield 29, 3) := by decide +kernel
theorem dX8_setStyle_68 : decode cX8_setStyle 68 = .ok (.iload_n 1, 1) := by decide +kernel
theorem dX8_setStyle_69 : decode cX8_setStyle 69 = .ok (.iaload, 1) := by decide +kernel
theorem dX8_setStyle_70 : decode cX8_setStyle 70 = .ok (.istore 4, 2) := by decide +kernel
theorem dX8_setStyle_72 : decode cX8_setStyle 72 = .ok (.aload_n 0, 1) := by decide +kernel
theorem dX8_setStyle_73 : decode cX8_setStyle 73 = .ok (.getfield 29, 3) := by decide +kernel
theorem dX8_setStyle_76 : decode cX8_setStyle 76 = .ok (.iload_n 1, 1) := by decide +kernel
theorem dX8_setStyle_77 : decode cX8_setStyle 77 = .ok (.iload_n 2, 1) := by decide +kernel
theorem dX8_setStyle_78 : decode cX8_setStyle 78 = .ok (.iastore, 1) := by decide +kernel
theorem dX8_setStyle_79 : decode cX8_setStyle 79 = .ok (.iload 4, 2) := by decide +kernel
theorem dX8_setStyle_81 : decode cX8_setStyle 81 = .ok (.ireturn, 1) := by decide +kernel
theorem dX8_isPage_0 : decode cX8_isPage 0 = .ok (.aload_n 0, 1) := by decide +kernel
theorem dX8_isPage_1 : decode cX8_isPage 1 = .ok (.invokevirtual 189, 3) := by decide +kernel
theorem dX8_isPage_4 : decode cX8_isPage 4 = .ok (.iload_n 1, 1) := by decide +kernel
theorem dX8_isPage_5 : decode cX8_isPage 5 = .ok (.iconst 0, 1) := by decide +kernel
theorem dX8_isPage_6 : decode cX8_isPage 6 = .ok (.aload_n 0, 1) := by decide +kernel
theorem dX8_isPage_7 : decode cX8_isPage 7 = .ok (.getfield 170, 3) := by decide +kernel
theorem dX8_isPage_10 : decode cX8_isPage 10 = .ok (.iconst 1, 1) := by decide +kernel
theorem dX8_isPage_11 : decode cX8_isPage 11 = .ok (.isub, 1) := by decide +kernel
theorem dX8_isPage_12 : decode cX8_isPage 12 = .ok (.invokestatic 50, 3) := by decide +kernel
theorem dX8_isPage_15 : decode cX8_isPage 15 = .ok (.ireturn, 1) := by decide +kernel
theorem dX8_firstOf_0 : decode cX8_firstOf 0 = .ok (.sipush 1000, 3) := by decide +kernel
theorem dX8_firstOf_3 : decode cX8_firstOf 3 = .ok (.aload_n 0, 1) := by decide +kernel
theorem dX8_firstOf_4 : decode cX8_firstOf 4 = .ok (.getfield 35, 3) := by decide +kernel
theorem dX8_firstOf_7 : decode cX8_firstOf 7 = .ok (.iload_n 1, 1) := by decide +kernel
theorem dX8_firstOf_8 : decode cX8_firstOf 8 = .ok (.iaload, 1) := by decide +kernel
theorem dX8_firstOf_9 : decode cX8_firstOf 9 = .ok (.imul, 1) := by decide +kernel
theorem dX8_firstOf_10 : decode cX8_firstOf 10 = .ok (.aload_n 0, 1) := by decide +kernel
theorem dX8_firstOf_11 : decode cX8_firstOf 11 = .ok (.getfield 38, 3) := by decide +kernel
theorem dX8_firstOf_14 : decode cX8_firstOf 14 = .ok (.iload_n 1, 1) := by decide +kernel
theorem dX8_firstOf_15 : decode cX8_firstOf 15 = .ok (.iaload, 1) := by decide +kernel
theorem dX8_firstOf_16 : decode cX8_firstOf 16 = .ok (.iadd, 1) := by decide +kernel
theorem dX8_firstOf_17 : decode cX8_firstOf 17 = .ok (.ireturn, 1) := by decide +kernel
theorem dX8_bits_0 : decode cX8_bits 0 = .ok (.iconst 0, 1) := by decide +kernel
theorem dX8_bits_1 : decode cX8_bits 1 = .ok (.istore_n 2, 1) := by decide +kernel
theorem dX8_bits_2 : decode cX8_bits 2 = .ok (.iconst 0, 1) := by decide +kernel
theorem dX8_bits_3 : decode cX8_bits 3 = .ok (.istore_n 3, 1) := by decide +kernel
theorem dX8_bits_4 : decode cX8_bits 4 = .ok (.iload_n 3, 1) := by decide +kernel
theorem dX8_bits_5 : decode cX8_bits 5 = .ok (.bipush 10, 2) := by decide +kernel
theorem dX8_bits_7 : decode cX8_bits 7 = .ok (.if_icmp .ge 17, 3) := by decide +kernel
theorem dX8_bits_10 : decode cX8_bits 10 = .ok (.iload_n 2, 1) := by decide +kernel
theorem dX8_bits_11 : decode cX8_bits 11 = .ok (.iload_n 1, 1) := by decide +kernel
theorem dX8_bits_12 : decode cX8_bits 12 = .ok (.iload_n 3, 1) := by decide +kernel
theorem dX8_bits_13 : decode cX8_bits 13 = .ok (.ishr, 1) := by decide +kernel
theorem dX8_bits_14 : decode cX8_bits 14 = .ok (.iconst 1, 1) := by decide +kernel
theorem dX8_bits_15 : decode cX8_bits 15 = .ok (.iand, 1) := by decide +kernel
theorem dX8_bits_16 : decode cX8_bits 16 = .ok (.iadd, 1) := by decide +kernel
theorem dX8_bits_17 : decode cX8_bits 17 = .ok (.istore_n 2, 1) := by decide +kernel
theorem dX8_bits_18 : decode cX8_bits 18 = .ok (.iinc 3 1, 3) := by decide +kernel
theorem dX8_bits_21 : decode cX8_bits 21 = .ok (.goto (-17), 3) := by decide +kernel
theorem dX8_bits_24 : decode cX8_bits 24 = .ok (.iload_n 2, 1) := by decide +kernel
theorem dX8_bits_25 : decode cX8_bits 25 = .ok (.ireturn, 1) := by decide +kernel
theorem dX8_endOf_0 : decode cX8_endOf 0 = .ok (.aload_n 0, 1) := by decide +kernel
theorem dX8_endOf_1 : decode cX8_endOf 1 = .ok (.iload_n 1, 1) := by decide +kernel
theorem dX8_endOf_2 : decode cX8_endOf 2 = .ok (.invokevirtual 154, 3) := by decide +kernel
theorem dX8_endOf_5 : decode cX8_endOf 5 = .ok (.ifCond .eq 12, 3) := by decide +kernel
theorem dX8_endOf_8 : decode cX8_endOf 8 = .ok (.aload_n 0, 1) := by decide +kernel
theorem dX8_endOf_9 : decode cX8_endOf 9 = .ok (.getfield 41, 3) := by decide +kernel
theorem dX8_endOf_12 : decode cX8_endOf 12 = .ok (.iload_n 1, 1) := by decide +kernel
theorem dX8_endOf_13 : decode cX8_endOf 13 = .ok (.iaload, 1) := by decide +kernel
theorem dX8_endOf_14 : decode cX8_endOf 14 = .ok (.goto 11, 3) := by decide +kernel
theorem dX8_endOf_17 : decode cX8_endOf 17 = .ok (.aload_n 0, 1) := by decide +kernel
theorem dX8_endOf_18 : decode cX8_endOf 18 = .ok (.getfield 41, 3) := by decide +kernel
theorem dX8_endOf_21 : decode cX8_endOf 21 = .ok (.iload_n 1, 1) := by decide +kernel
theorem dX8_endOf_22 : decode cX8_endOf 22 = .ok (.iaload, 1) := by decide +kernel
theorem dX8_endOf_23 : decode cX8_endOf 23 = .ok (.iconst 1, 1) := by decide +kernel
theorem dX8_endOf_24 : decode cX8_endOf 24 = .ok (.iadd, 1) := by decide +kernel
theorem dX8_endOf_25 : decode cX8_endOf 25 = .ok (.ireturn, 1) := by decide +kernel
theorem dX8_isMarked_0 : decode cX8_isMarked 0 = .ok (.bipush 15, 2) := by decide +kernel
theorem dX8_isMarked_2 : decode cX8_isMarked 2 = .ok (.iconst 5, 1) := by decide +kernel
theorem dX8_isMarked_3 : decode cX8_isMarked 3 = .ok (.iload_n 2, 1) := by decide +kernel
theorem dX8_isMarked_4 : decode cX8_isMarked 4 = .ok (.imul, 1) := by decide +kernel
theorem dX8_isMarked_5 : decode cX8_isMarked 5 = .ok (.iadd, 1) := by decide +kernel
theorem dX8_isMarked_6 : decode cX8_isMarked 6 = .ok (.istore_n 3, 1) := by decide +kernel
theorem dX8_isMarked_7 : decode cX8_isMarked 7 = .ok (.aload_n 0, 1) := by decide +kernel
theorem dX8_isMarked_8 : decode cX8_isMarked 8 = .ok (.getfield 7, 3) := by decide +kernel
theorem dX8_isMarked_11 : decode cX8_isMarked 11 = .ok (.iload_n 3, 1) := by decide +kernel
theorem dX8_isMarked_12 : decode cX8_isMarked 12 = .ok (.iaload, 1) := by decide +kernel
theorem dX8_isMarked_13 : decode cX8_isMarked 13 = .ok (.aload_n 0, 1) := by decide +kernel
theorem dX8_isMarked_14 : decode cX8_isMarked 14 = .ok (.getfield 35, 3) := by decide +kernel
theorem dX8_isMarked_17 : decode cX8_isMarked 17 = .ok (.iload_n 1, 1) := by decide +kernel
theorem dX8_isMarked_18 : decode cX8_isMarked 18 = .ok (.iaload, 1) := by decide +kernel
theorem dX8_isMarked_19 : decode cX8_isMarked 19 = .ok (.if_icmp .ne 51, 3) := by decide +kernel
theorem dX8_isMarked_22 : decode cX8_isMarked 22 = .ok (.aload_n 0, 1) := by decide +kernel
theorem dX8_isMarked_23 : decode cX8_isMarked 23 = .ok (.getfield 7, 3) := by decide +kernel
theorem dX8_isMarked_26 : decode cX8_isMarked 26 = .ok (.iload_n 3, 1) := by decide +kernel
theorem dX8_isMarked_27 : decode cX8_isMarked 27 = .ok (.iconst 1, 1) := by decide +kernel
theorem dX8_isMarked_28 : decode cX8_isMarked 28 = .ok (.iadd, 1) := by decide +kernel
theorem dX8_isMarked_29 : decode cX8_isMarked 29 = .ok (.iaload, 1) := by decide +kernel
theorem dX8_isMarked_30 : decode cX8_isMarked 30 = .ok (.aload_n 0, 1) := by decide +kernel
theorem dX8_isMarked_31 : decode cX8_isMarked 31 = .ok (.iload_n 1, 1) := by decide +kernel
theorem dX8_isMarked_32 : decode cX8_isMarked 32 = .ok (.invokevirtual 192, 3) := by decide +kernel
theorem dX8_isMarked_35 : decode cX8_isMarked 35 = .ok (.if_icmp .ge 35, 3) := by decide +kernel
theorem dX8_isMarked_38 : decode cX8_isMarked 38 = .ok (.aload_n 0, 1) := by decide +kernel
theorem dX8_isMarked_39 : decode cX8_isMarked 39 = .ok (.getfield 7, 3) := by decide +kernel
theorem dX8_isMarked_42 : decode cX8_isMarked 42 = .ok (.iload_n 3, 1) := by decide +kernel
theorem dX8_isMarked_43 : decode cX8_isMarked 43 = .ok (.iconst 2, 1) := by decide +kernel
theorem dX8_isMarked_44 : decode cX8_isMarked 44 = .ok (.iadd, 1) := by decide +kernel
theorem dX8_isMarked_45 : decode cX8_isMarked 45 = .ok (.iaload, 1) := by decide +kernel
theorem dX8_isMarked_46 : decode cX8_isMarked 46 = .ok (.aload_n 0, 1) := by decide +kernel
theorem dX8_isMarked_47 : decode cX8_isMarked 47 = .ok (.getfield 38, 3) := by decide +kernel
theorem dX8_isMarked_50 : decode cX8_isMarked 50 = .ok (.iload_n 1, 1) := by decide +kernel
theorem dX8_isMarked_51 : decode cX8_isMarked 51 = .ok (.iaload, 1) := by decide +kernel
theorem dX8_isMarked_52 : decode cX8_isMarked 52 = .ok (.if_icmp .le 18, 3) := by decide +kernel
theorem dX8_isMarked_55 : decode cX8_isMarked 55 = .ok (.aload_n 0, 1) := by decide +kernel
theorem dX8_isMarked_56 : decode cX8_isMarked 56 = .ok (.getfield 7, 3) := by decide +kernel
theorem dX8_isMarked_59 : decode cX8_isMarked 59 = .ok (.iload_n 3, 1) := by decide +kernel
theorem dX8_isMarked_60 : decode cX8_isMarked 60 = .ok (.iconst 4, 1) := by decide +kernel
theorem dX8_isMarked_61 : decode cX8_isMarked 61 = .ok (.iadd, 1) := by decide +kernel
theorem dX8_isMarked_62 : decode cX8_isMarked 62 = .ok (.iaload, 1) := by decide +kernel
theorem dX8_isMarked_63 : decode cX8_isMarked 63 = .ok (.ifCond .ne 7, 3) := by decide +kernel
theorem dX8_isMarked_66 : decode cX8_isMarked 66 = .ok (.iconst 1, 1) := by decide +kernel
theorem dX8_isMarked_67 : decode cX8_isMarked 67 = .ok (.goto 4, 3) := by decide +kernel
theorem dX8_isMarked_70 : decode cX8_isMarked 70 = .ok (.iconst 0, 1) := by decide +kernel
theorem dX8_isMarked_71 : decode cX8_isMarked 71 = .ok (.ireturn, 1) := by decide +kernel
theorem dX8_annotationsOn_0 : decode cX8_annotationsOn 0 = .ok (.iconst 0, 1) := by decide +kernel
theorem dX8_annotationsOn_1 : decode cX8_annotationsOn 1 = .ok (.istore_n 3, 1) := by decide +kernel
theorem dX8_annotationsOn_2 : decode cX8_annotationsOn 2 = .ok (.iconst 0, 1) := by decide +kernel
theorem dX8_annotationsOn_3 : decode cX8_annotationsOn 3 = .ok (.istore 4, 2) := by decide +kernel
theorem dX8_annotationsOn_5 : decode cX8_annotationsOn 5 = .ok (.iload 4, 2) := by decide +kernel
theorem dX8_annotationsOn_7 : decode cX8_annotationsOn 7 = .ok (.aload_n 0, 1) := by decide +kernel
theorem dX8_annotationsOn_8 : decode cX8_annotationsOn 8 = .ok (.getfield 7, 3) := by decide +kernel
theorem dX8_annotationsOn_11 : decode cX8_annotationsOn 11 = .ok (.bipush 14, 2) := by decide +kernel
theorem dX8_annotationsOn_13 : decode cX8_annotationsOn 13 = .ok (.iaload, 1) := by decide +kernel
theorem dX8_annotationsOn_14 : decode cX8_annotationsOn 14 = .ok (.if_icmp .ge 63, 3) := by decide +kernel
theorem dX8_annotationsOn_17 : decode cX8_annotationsOn 17 = .ok (.iconst 0, 1) := by decide +kernel
theorem dX8_annotationsOn_18 : decode cX8_annotationsOn 18 = .ok (.istore 5, 2) := by decide +kernel
theorem dX8_annotationsOn_20 : decode cX8_annotationsOn 20 = .ok (.iload_n 1, 1) := by decide +kernel
theorem dX8_annotationsOn_21 : decode cX8_annotationsOn 21 = .ok (.istore 6, 2) := by decide +kernel
theorem dX8_annotationsOn_23 : decode cX8_annotationsOn 23 = .ok (.iload 6, 2) := by decide +kernel
theorem dX8_annotationsOn_25 : decode cX8_annotationsOn 25 = .ok (.iload_n 2, 1) := by decide +kernel
theorem dX8_annotationsOn_26 : decode cX8_annotationsOn 26 = .ok (.if_icmp .ge 32, 3) := by decide +kernel
theorem dX8_annotationsOn_29 : decode cX8_annotationsOn 29 = .ok (.iload 5, 2) := by decide +kernel
theorem dX8_annotationsOn_31 : decode cX8_annotationsOn 31 = .ok (.ifCond .ne 14, 3) := by decide +kernel
theorem dX8_annotationsOn_34 : decode cX8_annotationsOn 34 = .ok (.aload_n 0, 1) := by decide +kernel
theorem dX8_annotationsOn_35 : decode cX8_annotationsOn 35 = .ok (.iload 6, 2) := by decide +kernel
theorem dX8_annotationsOn_37 : decode cX8_annotationsOn 37 = .ok (.iload 4, 2) := by decide +kernel
theorem dX8_annotationsOn_39 : decode cX8_annotationsOn 39 = .ok (.invokevirtual 195, 3) := by decide +kernel
theorem dX8_annotationsOn_42 : decode cX8_annotationsOn 42 = .ok (.ifCond .eq 7, 3) := by decide +kernel
theorem dX8_annotationsOn_45 : decode cX8_annotationsOn 45 = .ok (.iconst 1, 1) := by decide +kernel
theorem dX8_annotationsOn_46 : decode cX8_annotationsOn 46 = .ok (.goto 4, 3) := by decide +kernel
theorem dX8_annotationsOn_49 : decode cX8_annotationsOn 49 = .ok (.iconst 0, 1) := by decide +kernel
theorem dX8_annotationsOn_50 : decode cX8_annotationsOn 50 = .ok (.istore 5, 2) := by decide +kernel
theorem dX8_annotationsOn_52 : decode cX8_annotationsOn 52 = .ok (.iinc 6 1, 3) := by decide +kernel
theorem dX8_annotationsOn_55 : decode cX8_annotationsOn 55 = .ok (.goto (-32), 3) := by decide +kernel
theorem dX8_annotationsOn_58 : decode cX8_annotationsOn 58 = .ok (.iload_n 3, 1) := by decide +kernel
theorem dX8_annotationsOn_59 : decode cX8_annotationsOn 59 = .ok (.iload 5, 2) := by decide +kernel
theorem dX8_annotationsOn_61 : decode cX8_annotationsOn 61 = .ok (.ifCond .eq 7, 3) := by decide +kernel
theorem dX8_annotationsOn_64 : decode cX8_annotationsOn 64 = .ok (.iconst 1, 1) := by decide +kernel
theorem dX8_annotationsOn_65 : decode cX8_annotationsOn 65 = .ok (.goto 4, 3) := by decide +kernel
theorem dX8_annotationsOn_68 : decode cX8_annotationsOn 68 = .ok (.iconst 0, 1) := by decide +kernel
theorem dX8_annotationsOn_69 : decode cX8_annotationsOn 69 = .ok (.iadd, 1) := by decide +kernel
theorem dX8_annotationsOn_70 : decode cX8_annotationsOn 70 = .ok (.istore_n 3, 1) := by decide +kernel
theorem dX8_annotationsOn_71 : decode cX8_annotationsOn 71 = .ok (.iinc 4 1, 3) := by decide +kernel
theorem dX8_annotationsOn_74 : decode cX8_annotationsOn 74 = .ok (.goto (-69), 3) := by decide +kernel
theorem dX8_annotationsOn_77 : decode cX8_annotationsOn 77 = .ok (.iload_n 3, 1) := by decide +kernel
theorem dX8_annotationsOn_78 : decode cX8_annotationsOn 78 = .ok (.ireturn, 1) := by decide +kernel
theorem dX8_pageNow_0 : decode cX8_pageNow 0 = .ok (.aload_n 0, 1) := by decide +kernel
theorem dX8_pageNow_1 : decode cX8_pageNow 1 = .ok (.getfield 44, 3) := by decide +kernel
theorem dX8_pageNow_4 : decode cX8_pageNow 4 = .ok (.iload_n 1, 1) := by decide +kernel
theorem dX8_pageNow_5 : decode cX8_pageNow 5 = .ok (.iaload, 1) := by decide +kernel
theorem dX8_pageNow_6 : decode cX8_pageNow 6 = .ok (.istore_n 3, 1) := by decide +kernel
theorem dX8_pageNow_7 : decode cX8_pageNow 7 = .ok (.aload_n 0, 1) := by decide +kernel
theorem dX8_pageNow_8 : decode cX8_pageNow 8 = .ok (.getfield 44, 3) := by decide +kernel
theorem dX8_pageNow_11 : decode cX8_pageNow 11 = .ok (.iload_n 1, 1) := by decide +kernel
theorem dX8_pageNow_12 : decode cX8_pageNow 12 = .ok (.iconst 1, 1) := by decide +kernel
theorem dX8_pageNow_13 : decode cX8_pageNow 13 = .ok (.iadd, 1) := by decide +kernel
theorem dX8_pageNow_14 : decode cX8_pageNow 14 = .ok (.iaload, 1) := by decide +kernel
theorem dX8_pageNow_15 : decode cX8_pageNow 15 = .ok (.istore 4, 2) := by decide +kernel
theorem dX8_pageNow_17 : decode cX8_pageNow 17 = .ok (.iload_n 2, 1) := by decide +kernel
theorem dX8_pageNow_18 : decode cX8_pageNow 18 = .ok (.tableswitch 101 0 5 #[38, 44, 64, 69, 77, 89], 38) := by decide +kernel
theorem dX8_pageNow_56 : decode cX8_pageNow 56 = .ok (.aload_n 0, 1) := by decide +kernel
theorem dX8_pageNow_57 : decode cX8_pageNow 57 = .ok (.iload_n 3, 1) := by decide +kernel
theorem dX8_pageNow_58 : decode cX8_pageNow 58 = .ok (.invokevirtual 198, 3) := by decide +kernel
theorem dX8_pageNow_61 : decode cX8_pageNow 61 = .ok (.ireturn, 1) := by decide +kernel
theorem dX8_pageNow_62 : decode cX8_pageNow 62 = .ok (.iload 4, 2) := by decide +kernel
theorem dX8_pageNow_64 : decode cX8_pageNow 64 = .ok (.aload_n 0, 1) := by decide +kernel
theorem dX8_pageNow_65 : decode cX8_pageNow 65 = .ok (.getfield 122, 3) := by decide +kernel
theorem dX8_pageNow_68 : decode cX8_pageNow 68 = .ok (.if_icmp .ne 7, 3) := by decide +kernel
theorem dX8_pageNow_71 : decode cX8_pageNow 71 = .ok (.iconst (-1), 1) := by decide +kernel
theorem dX8_pageNow_72 : decode cX8_pageNow 72 = .ok (.goto 9, 3) := by decide +kernel
theorem dX8_pageNow_75 : decode cX8_pageNow 75 = .ok (.aload_n 0, 1) := by decide +kernel
theorem dX8_pageNow_76 : decode cX8_pageNow 76 = .ok (.iload 4, 2) := by decide +kernel
theorem dX8_pageNow_78 : decode cX8_pageNow 78 = .ok (.invokevirtual 198, 3) := by decide +kernel
theorem dX8_pageNow_81 : decode cX8_pageNow 81 = .ok (.ireturn, 1) := by decide +kernel
theorem dX8_pageNow_82 : decode cX8_pageNow 82 = .ok (.iload 4, 2) := by decide +kernel
theorem dX8_pageNow_84 : decode cX8_pageNow 84 = .ok (.iload_n 3, 1) := by decide +kernel
theorem dX8_pageNow_85 : decode cX8_pageNow 85 = .ok (.isub, 1) := by decide +kernel
theorem dX8_pageNow_86 : decode cX8_pageNow 86 = .ok (.ireturn, 1) := by decide +kernel
theorem dX8_pageNow_87 : decode cX8_pageNow 87 = .ok (.aload_n 0, 1) := by decide +kernel
theorem dX8_pageNow_88 : decode cX8_pageNow 88 = .ok (.iload_n 3, 1) := by decide +kernel
theorem dX8_pageNow_89 : decode cX8_pageNow 89 = .ok (.iload 4, 2) := by decide +kernel
theorem dX8_pageNow_91 : decode cX8_pageNow 91 = .ok (.invokevirtual 145, 3) := by decide +kernel
theorem dX8_pageNow_94 : decode cX8_pageNow 94 = .ok (.ireturn, 1) := by decide +kernel
theorem dX8_pageNow_95 : decode cX8_pageNow 95 = .ok (.aload_n 0, 1) := by decide +kernel
theorem dX8_pageNow_96 : decode cX8_pageNow 96 = .ok (.aload_n 0, 1) := by decide +kernel
theorem dX8_pageNow_97 : decode cX8_pageNow 97 = .ok (.iload_n 3, 1) := by decide +kernel
theorem dX8_pageNow_98 : decode cX8_pageNow 98 = .ok (.iload 4, 2) := by decide +kernel
theorem dX8_pageNow_100 : decode cX8_pageNow 100 = .ok (.invokevirtual 148, 3) := by decide +kernel
theorem dX8_pageNow_103 : decode cX8_pageNow 103 = .ok (.invokevirtual 151, 3) := by decide +kernel
theorem dX8_pageNow_106 : decode cX8_pageNow 106 = .ok (.ireturn, 1) := by decide +kernel
theorem dX8_pageNow_107 : decode cX8_pageNow 107 = .ok (.aload_n 0, 1) := by decide +kernel
theorem dX8_pageNow_108 : decode cX8_pageNow 108 = .ok (.aload_n 0, 1) := by decide +kernel
theorem dX8_pageNow_109 : decode cX8_pageNow 109 = .ok (.iload_n 3, 1) := by decide +kernel
theorem dX8_pageNow_110 : decode cX8_pageNow 110 = .ok (.iload 4, 2) := by decide +kernel
theorem dX8_pageNow_112 : decode cX8_pageNow 112 = .ok (.invokevirtual 148, 3) := by decide +kernel
theorem dX8_pageNow_115 : decode cX8_pageNow 115 = .ok (.invokevirtual 201, 3) := by decide +kernel
theorem dX8_pageNow_118 : decode cX8_pageNow 118 = .ok (.ireturn, 1) := by decide +kernel
theorem dX8_pageNow_119 : decode cX8_pageNow 119 = .ok (.aload_n 0, 1) := by decide +kernel
theorem dX8_pageNow_120 : decode cX8_pageNow 120 = .ok (.iload_n 3, 1) := by decide +kernel
theorem dX8_pageNow_121 : decode cX8_pageNow 121 = .ok (.iload 4, 2) := by decide +kernel
theorem dX8_pageNow_123 : decode cX8_pageNow 123 = .ok (.invokevirtual 204, 3) := by decide +kernel
theorem dX8_pageNow_126 : decode cX8_pageNow 126 = .ok (.ireturn, 1) := by decide +kernel
theorem dX8_page_0 : decode cX8_page 0 = .ok (.aload_n 0, 1) := by decide +kernel
theorem dX8_page_1 : decode cX8_page 1 = .ok (.aload_n 0, 1) := by decide +kernel
theorem dX8_page_2 : decode cX8_page 2 = .ok (.iload_n 1, 1) := by decide +kernel
theorem dX8_page_3 : decode cX8_page 3 = .ok (.invokevirtual 207, 3) := by decide +kernel
theorem dX8_page_6 : decode cX8_page 6 = .ok (.ifCond .ne 7, 3) := by decide +kernel
theorem dX8_page_9 : decode cX8_page 9 = .ok (.iconst 1, 1) := by decide +kernel
theorem dX8_page_10 : decode cX8_page 10 = .ok (.goto 18, 3) := by decide +kernel
theorem dX8_page_13 : decode cX8_page 13 = .ok (.iload_n 2, 1) := by decide +kernel
theorem dX8_page_14 : decode cX8_page 14 = .ok (.iconst 0, 1) := by decide +kernel
theorem dX8_page_15 : decode cX8_page 15 = .ok (.bipush 6, 2) := by decide +kernel
theorem dX8_page_17 : decode cX8_page 17 = .ok (.invokestatic 50, 3) := by decide +kernel
theorem dX8_page_20 : decode cX8_page 20 = .ok (.ifCond .eq 7, 3) := by decide +kernel
theorem dX8_page_23 : decode cX8_page 23 = .ok (.iconst 0, 1) := by decide +kernel
theorem dX8_page_24 : decode cX8_page 24 = .ok (.goto 4, 3) := by decide +kernel
theorem dX8_page_27 : decode cX8_page 27 = .ok (.iconst 2, 1) := by decide +kernel
theorem dX8_page_28 : decode cX8_page 28 = .ok (.putfield 47, 3) := by decide +kernel
theorem dX8_page_31 : decode cX8_page 31 = .ok (.aload_n 0, 1) := by decide +kernel
theorem dX8_page_32 : decode cX8_page 32 = .ok (.getfield 47, 3) := by decide +kernel
theorem dX8_page_35 : decode cX8_page 35 = .ok (.ifCond .le 7, 3) := by decide +kernel
theorem dX8_page_38 : decode cX8_page 38 = .ok (.iconst 0, 1) := by decide +kernel
theorem dX8_page_39 : decode cX8_page 39 = .ok (.goto 9, 3) := by decide +kernel
theorem dX8_page_42 : decode cX8_page 42 = .ok (.aload_n 0, 1) := by decide +kernel
theorem dX8_page_43 : decode cX8_page 43 = .ok (.iload_n 1, 1) := by decide +kernel
theorem dX8_page_44 : decode cX8_page 44 = .ok (.iload_n 2, 1) := by decide +kernel
theorem dX8_page_45 : decode cX8_page 45 = .ok (.invokevirtual 210, 3) := by decide +kernel
theorem dX8_page_48 : decode cX8_page 48 = .ok (.ireturn, 1) := by decide +kernel
theorem dX8_rowAt_0 : decode cX8_rowAt 0 = .ok (.aload_n 0, 1) := by decide +kernel
theorem dX8_rowAt_1 : decode cX8_rowAt 1 = .ok (.getfield 44, 3) := by decide +kernel
theorem dX8_rowAt_4 : decode cX8_rowAt 4 = .ok (.aload_n 0, 1) := by decide +kernel
theorem dX8_rowAt_5 : decode cX8_rowAt 5 = .ok (.iload_n 1, 1) := by decide +kernel
theorem dX8_rowAt_6 : decode cX8_rowAt 6 = .ok (.invokevirtual 183, 3) := by decide +kernel
theorem dX8_rowAt_9 : decode cX8_rowAt 9 = .ok (.iaload, 1) := by decide +kernel
theorem dX8_rowAt_10 : decode cX8_rowAt 10 = .ok (.istore_n 2, 1) := by decide +kernel
theorem dX8_rowAt_11 : decode cX8_rowAt 11 = .ok (.iload_n 1, 1) := by decide +kernel
theorem dX8_rowAt_12 : decode cX8_rowAt 12 = .ok (.iload_n 2, 1) := by decide +kernel
theorem dX8_rowAt_13 : decode cX8_rowAt 13 = .ok (.if_icmp .ne 7, 3) := by decide +kernel
theorem dX8_rowAt_16 : decode cX8_rowAt 16 = .ok (.iconst 0, 1) := by decide +kernel
theorem dX8_rowAt_17 : decode cX8_rowAt 17 = .ok (.goto 13, 3) := by decide +kernel
theorem dX8_rowAt_20 : decode cX8_rowAt 20 = .ok (.aload_n 0, 1) := by decide +kernel
theorem dX8_rowAt_21 : decode cX8_rowAt 21 = .ok (.iload_n 2, 1) := by decide +kernel
theorem dX8_rowAt_22 : decode cX8_rowAt 22 = .ok (.iload_n 1, 1) := by decide +kernel
theorem dX8_rowAt_23 : decode cX8_rowAt 23 = .ok (.iconst 1, 1) := by decide +kernel
theorem dX8_rowAt_24 : decode cX8_rowAt 24 = .ok (.iadd, 1) := by decide +kernel
theorem dX8_rowAt_25 : decode cX8_rowAt 25 = .ok (.invokevirtual 145, 3) := by decide +kernel
theorem dX8_rowAt_28 : decode cX8_rowAt 28 = .ok (.iconst 1, 1) := by decide +kernel
theorem dX8_rowAt_29 : decode cX8_rowAt 29 = .ok (.isub, 1) := by decide +kernel
theorem dX8_rowAt_30 : decode cX8_rowAt 30 = .ok (.ireturn, 1) := by decide +kernel
theorem dX8_wordsBetween_0 : decode cX8_wordsBetween 0 = .ok (.iconst 0, 1) := by decide +kernel
theorem dX8_wordsBetween_1 : decode cX8_wordsBetween 1 = .ok (.istore 4, 2) := by decide +kernel
theorem dX8_wordsBetween_3 : decode cX8_wordsBetween 3 = .ok (.iload_n 2, 1) := by decide +kernel
theorem dX8_wordsBetween_4 : decode cX8_wordsBetween 4 = .ok (.istore 5, 2) := by decide +kernel
theorem dX8_wordsBetween_6 : decode cX8_wordsBetween 6 = .ok (.iload 5, 2) := by decide +kernel
theorem dX8_wordsBetween_8 : decode cX8_wordsBetween 8 = .ok (.iload_n 3, 1) := by decide +kernel
theorem dX8_wordsBetween_9 : decode cX8_wordsBetween 9 = .ok (.if_icmp .ge 31, 3) := by decide +kernel
theorem dX8_wordsBetween_12 : decode cX8_wordsBetween 12 = .ok (.iload 4, 2) := by decide +kernel
theorem dX8_wordsBetween_14 : decode cX8_wordsBetween 14 = .ok (.aload_n 0, 1) := by decide +kernel
theorem dX8_wordsBetween_15 : decode cX8_wordsBetween 15 = .ok (.iload_n 1, 1) := by decide +kernel
theorem dX8_wordsBetween_16 : decode cX8_wordsBetween 16 = .ok (.iload 5, 2) := by decide +kernel
theorem dX8_wordsBetween_18 : decode cX8_wordsBetween 18 = .ok (.invokevirtual 112, 3) := by decide +kernel
theorem dX8_wordsBetween_21 : decode cX8_wordsBetween 21 = .ok (.bipush 32, 2) := by decide +kernel
theorem dX8_wordsBetween_23 : decode cX8_wordsBetween 23 = .ok (.if_icmp .ne 7, 3) := by decide +kernel
theorem dX8_wordsBetween_26 : decode cX8_wordsBetween 26 = .ok (.iconst 1, 1) := by decide +kernel
theorem dX8_wordsBetween_27 : decode cX8_wordsBetween 27 = .ok (.goto 4, 3) := by decide +kernel
theorem dX8_wordsBetween_30 : decode cX8_wordsBetween 30 = .ok (.iconst 0, 1) := by decide +kernel
theorem dX8_wordsBetween_31 : decode cX8_wordsBetween 31 = .ok (.iadd, 1) := by decide +kernel
theorem dX8_wordsBetween_32 : decode cX8_wordsBetween 32 = .ok (.istore 4, 2) := by decide +kernel
theorem dX8_wordsBetween_34 : decode cX8_wordsBetween 34 = .ok (.iinc 5 1, 3) := by decide +kernel
theorem dX8_wordsBetween_37 : decode cX8_wordsBetween 37 = .ok (.goto (-31), 3) := by decide +kernel
theorem dX8_wordsBetween_40 : decode cX8_wordsBetween 40 = .ok (.iload 4, 2) := by decide +kernel
theorem dX8_wordsBetween_42 : decode cX8_wordsBetween 42 = .ok (.ireturn, 1) := by decide +kernel
theorem dX8_lineNow_0 : decode cX8_lineNow 0 = .ok (.aload_n 0, 1) := by decide +kernel
theorem dX8_lineNow_1 : decode cX8_lineNow 1 = .ok (.getfield 35, 3) := by decide +kernel
theorem dX8_lineNow_4 : decode cX8_lineNow 4 = .ok (.iload_n 1, 1) := by decide +kernel
theorem dX8_lineNow_5 : decode cX8_lineNow 5 = .ok (.iaload, 1) := by decide +kernel
theorem dX8_lineNow_6 : decode cX8_lineNow 6 = .ok (.istore_n 3, 1) := by decide +kernel
theorem dX8_lineNow_7 : decode cX8_lineNow 7 = .ok (.iload_n 2, 1) := by decide +kernel
theorem dX8_lineNow_8 : decode cX8_lineNow 8 = .ok (.tableswitch 103 0 4 #[36, 38, 51, 71, 97], 36) := by decide +kernel
theorem dX8_lineNow_44 : decode cX8_lineNow 44 = .ok (.iload_n 3, 1) := by decide +kernel
theorem dX8_lineNow_45 : decode cX8_lineNow 45 = .ok (.ireturn, 1) := by decide +kernel
theorem dX8_lineNow_46 : decode cX8_lineNow 46 = .ok (.aload_n 0, 1) := by decide +kernel
theorem dX8_lineNow_47 : decode cX8_lineNow 47 = .ok (.iload_n 3, 1) := by decide +kernel
theorem dX8_lineNow_48 : decode cX8_lineNow 48 = .ok (.iconst 0, 1) := by decide +kernel
theorem dX8_lineNow_49 : decode cX8_lineNow 49 = .ok (.aload_n 0, 1) := by decide +kernel
theorem dX8_lineNow_50 : decode cX8_lineNow 50 = .ok (.getfield 38, 3) := by decide +kernel
theorem dX8_lineNow_53 : decode cX8_lineNow 53 = .ok (.iload_n 1, 1) := by decide +kernel
theorem dX8_lineNow_54 : decode cX8_lineNow 54 = .ok (.iaload, 1) := by decide +kernel
theorem dX8_lineNow_55 : decode cX8_lineNow 55 = .ok (.invokevirtual 213, 3) := by decide +kernel
theorem dX8_lineNow_58 : decode cX8_lineNow 58 = .ok (.ireturn, 1) := by decide +kernel
theorem dX8_lineNow_59 : decode cX8_lineNow 59 = .ok (.aload_n 0, 1) := by decide +kernel
theorem dX8_lineNow_60 : decode cX8_lineNow 60 = .ok (.iload_n 3, 1) := by decide +kernel
theorem dX8_lineNow_61 : decode cX8_lineNow 61 = .ok (.aload_n 0, 1) := by decide +kernel
theorem dX8_lineNow_62 : decode cX8_lineNow 62 = .ok (.getfield 38, 3) := by decide +kernel
theorem dX8_lineNow_65 : decode cX8_lineNow 65 = .ok (.iload_n 1, 1) := by decide +kernel
theorem dX8_lineNow_66 : decode cX8_lineNow 66 = .ok (.iaload, 1) := by decide +kernel
theorem dX8_lineNow_67 : decode cX8_lineNow 67 = .ok (.aload_n 0, 1) := by decide +kernel
theorem dX8_lineNow_68 : decode cX8_lineNow 68 = .ok (.getfield 41, 3) := by decide +kernel
theorem dX8_lineNow_71 : decode cX8_lineNow 71 = .ok (.iload_n 1, 1) := by decide +kernel
theorem dX8_lineNow_72 : decode cX8_lineNow 72 = .ok (.iaload, 1) := by decide +kernel
theorem dX8_lineNow_73 : decode cX8_lineNow 73 = .ok (.invokevirtual 213, 3) := by decide +kernel
theorem dX8_lineNow_76 : decode cX8_lineNow 76 = .ok (.iconst 1, 1) := by decide +kernel
theorem dX8_lineNow_77 : decode cX8_lineNow 77 = .ok (.iadd, 1) := by decide +kernel
theorem dX8_lineNow_78 : decode cX8_lineNow 78 = .ok (.ireturn, 1) := by decide +kernel
theorem dX8_lineNow_79 : decode cX8_lineNow 79 = .ok (.aload_n 0, 1) := by decide +kernel
theorem dX8_lineNow_80 : decode cX8_lineNow 80 = .ok (.iload_n 3, 1) := by decide +kernel
theorem dX8_lineNow_81 : decode cX8_lineNow 81 = .ok (.aload_n 0, 1) := by decide +kernel
theorem dX8_lineNow_82 : decode cX8_lineNow 82 = .ok (.getfield 38, 3) := by decide +kernel
theorem dX8_lineNow_85 : decode cX8_lineNow 85 = .ok (.iload_n 1, 1) := by decide +kernel
theorem dX8_lineNow_86 : decode cX8_lineNow 86 = .ok (.iaload, 1) := by decide +kernel
theorem dX8_lineNow_87 : decode cX8_lineNow 87 = .ok (.invokevirtual 125, 3) := by decide +kernel
theorem dX8_lineNow_90 : decode cX8_lineNow 90 = .ok (.aload_n 0, 1) := by decide +kernel
theorem dX8_lineNow_91 : decode cX8_lineNow 91 = .ok (.getfield 41, 3) := by decide +kernel
theorem dX8_lineNow_94 : decode cX8_lineNow 94 = .ok (.iload_n 1, 1) := by decide +kernel
theorem dX8_lineNow_95 : decode cX8_lineNow 95 = .ok (.iaload, 1) := by decide +kernel
theorem dX8_lineNow_96 : decode cX8_lineNow 96 = .ok (.iadd, 1) := by decide +kernel
theorem dX8_lineNow_97 : decode cX8_lineNow 97 = .ok (.aload_n 0, 1) := by decide +kernel
theorem dX8_lineNow_98 : decode cX8_lineNow 98 = .ok (.getfield 38, 3) := by decide +kernel
theorem dX8_lineNow_101 : decode cX8_lineNow 101 = .ok (.iload_n 1, 1) := by decide +kernel
theorem dX8_lineNow_102 : decode cX8_lineNow 102 = .ok (.iaload, 1) := by decide +kernel
theorem dX8_lineNow_103 : decode cX8_lineNow 103 = .ok (.isub, 1) := by decide +kernel
theorem dX8_lineNow_104 : decode cX8_lineNow 104 = .ok (.ireturn, 1) := by decide +kernel
theorem dX8_lineNow_105 : decode cX8_lineNow 105 = .ok (.aload_n 0, 1) := by decide +kernel
theorem dX8_lineNow_106 : decode cX8_lineNow 106 = .ok (.iload_n 1, 1) := by decide +kernel
theorem dX8_lineNow_107 : decode cX8_lineNow 107 = .ok (.invokevirtual 183, 3) := by decide +kernel
theorem dX8_lineNow_110 : decode cX8_lineNow 110 = .ok (.ireturn, 1) := by decide +kernel
theorem dX8_lineNow_111 : decode cX8_lineNow 111 = .ok (.aload_n 0, 1) := by decide +kernel
theorem dX8_lineNow_112 : decode cX8_lineNow 112 = .ok (.iload_n 1, 1) := by decide +kernel
theorem dX8_lineNow_113 : decode cX8_lineNow 113 = .ok (.invokevirtual 217, 3) := by decide +kernel
theorem dX8_lineNow_116 : decode cX8_lineNow 116 = .ok (.ireturn, 1) := by decide +kernel
theorem dX8_isLine_0 : decode cX8_isLine 0 = .ok (.aload_n 0, 1) := by decide +kernel
theorem dX8_isLine_1 : decode cX8_isLine 1 = .ok (.invokevirtual 189, 3) := by decide +kernel
theorem dX8_isLine_4 : decode cX8_isLine 4 = .ok (.iload_n 1, 1) := by decide +kernel
theorem dX8_isLine_5 : decode cX8_isLine 5 = .ok (.iconst 0, 1) := by decide +kernel
theorem dX8_isLine_6 : decode cX8_isLine 6 = .ok (.aload_n 0, 1) := by decide +kernel
theorem dX8_isLine_7 : decode cX8_isLine 7 = .ok (.getfield 122, 3) := by decide +kernel
theorem dX8_isLine_10 : decode cX8_isLine 10 = .ok (.iconst 1, 1) := by decide +kernel
theorem dX8_isLine_11 : decode cX8_isLine 11 = .ok (.isub, 1) := by decide +kernel
theorem dX8_isLine_12 : decode cX8_isLine 12 = .ok (.invokestatic 50, 3) := by decide +kernel
theorem dX8_isLine_15 : decode cX8_isLine 15 = .ok (.ireturn, 1) := by decide +kernel
theorem dX8_line_0 : decode cX8_line 0 = .ok (.aload_n 0, 1) := by decide +kernel
theorem dX8_line_1 : decode cX8_line 1 = .ok (.aload_n 0, 1) := by decide +kernel
theorem dX8_line_2 : decode cX8_line 2 = .ok (.iload_n 1, 1) := by decide +kernel
theorem dX8_line_3 : decode cX8_line 3 = .ok (.invokevirtual 220, 3) := by decide +kernel
theorem dX8_line_6 : decode cX8_line 6 = .ok (.ifCond .ne 7, 3) := by decide +kernel
theorem dX8_line_9 : decode cX8_line 9 = .ok (.iconst 1, 1) := by decide +kernel
theorem dX8_line_10 : decode cX8_line 10 = .ok (.goto 17, 3) := by decide +kernel
theorem dX8_line_13 : decode cX8_line 13 = .ok (.iload_n 2, 1) := by decide +kernel
theorem dX8_line_14 : decode cX8_line 14 = .ok (.iconst 0, 1) := by decide +kernel
theorem dX8_line_15 : decode cX8_line 15 = .ok (.iconst 5, 1) := by decide +kernel
theorem dX8_line_16 : decode cX8_line 16 = .ok (.invokestatic 50, 3) := by decide +kernel
theorem dX8_line_19 : decode cX8_line 19 = .ok (.ifCond .eq 7, 3) := by decide +kernel
theorem dX8_line_22 : decode cX8_line 22 = .ok (.iconst 0, 1) := by decide +kernel
theorem dX8_line_23 : decode cX8_line 23 = .ok (.goto 4, 3) := by decide +kernel
theorem dX8_line_26 : decode cX8_line 26 = .ok (.iconst 2, 1) := by decide +kernel
theorem dX8_line_27 : decode cX8_line 27 = .ok (.putfield 47, 3) := by decide +kernel
theorem dX8_line_30 : decode cX8_line 30 = .ok (.aload_n 0, 1) := by decide +kernel
theorem dX8_line_31 : decode cX8_line 31 = .ok (.getfield 47, 3) := by decide +kernel
theorem dX8_line_34 : decode cX8_line 34 = .ok (.ifCond .le 7, 3) := by decide +kernel
theorem dX8_line_37 : decode cX8_line 37 = .ok (.iconst 0, 1) := by decide +kernel
theorem dX8_line_38 : decode cX8_line 38 = .ok (.goto 9, 3) := by decide +kernel
theorem dX8_line_41 : decode cX8_line 41 = .ok (.aload_n 0, 1) := by decide +kernel
theorem dX8_line_42 : decode cX8_line 42 = .ok (.iload_n 1, 1) := by decide +kernel
theorem dX8_line_43 : decode cX8_line 43 = .ok (.iload_n 2, 1) := by decide +kernel
theorem dX8_line_44 : decode cX8_line 44 = .ok (.invokevirtual 223, 3) := by decide +kernel
theorem dX8_line_47 : decode cX8_line 47 = .ok (.ireturn, 1) := by decide +kernel
theorem dX8_lineChar_0 : decode cX8_lineChar 0 = .ok (.iload 4, 2) := by decide +kernel
theorem dX8_lineChar_2 : decode cX8_lineChar 2 = .ok (.ifCond .lt 23, 3) := by decide +kernel
theorem dX8_lineChar_5 : decode cX8_lineChar 5 = .ok (.iload_n 2, 1) := by decide +kernel
theorem dX8_lineChar_6 : decode cX8_lineChar 6 = .ok (.iload 4, 2) := by decide +kernel
theorem dX8_lineChar_8 : decode cX8_lineChar 8 = .ok (.iadd, 1) := by decide +kernel
theorem dX8_lineChar_9 : decode cX8_lineChar 9 = .ok (.iload_n 3, 1) := by decide +kernel
theorem dX8_lineChar_10 : decode cX8_lineChar 10 = .ok (.if_icmp .ge 15, 3) := by decide +kernel
theorem dX8_lineChar_13 : decode cX8_lineChar 13 = .ok (.aload_n 0, 1) := by decide +kernel
theorem dX8_lineChar_14 : decode cX8_lineChar 14 = .ok (.iload_n 1, 1) := by decide +kernel
theorem dX8_lineChar_15 : decode cX8_lineChar 15 = .ok (.iload_n 2, 1) := by decide +kernel
theorem dX8_lineChar_16 : decode cX8_lineChar 16 = .ok (.iload 4, 2) := by decide +kernel
theorem dX8_lineChar_18 : decode cX8_lineChar 18 = .ok (.iadd, 1) := by decide +kernel
theorem dX8_lineChar_19 : decode cX8_lineChar 19 = .ok (.invokevirtual 112, 3) := by decide +kernel
theorem dX8_lineChar_22 : decode cX8_lineChar 22 = .ok (.goto 5, 3) := by decide +kernel
theorem dX8_lineChar_25 : decode cX8_lineChar 25 = .ok (.bipush 32, 2) := by decide +kernel
theorem dX8_lineChar_27 : decode cX8_lineChar 27 = .ok (.ireturn, 1) := by decide +kernel
theorem dX8_noteChar_0 : decode cX8_noteChar 0 = .ok (.iload_n 2, 1) := by decide +kernel
theorem dX8_noteChar_1 : decode cX8_noteChar 1 = .ok (.istore 4, 2) := by decide +kernel
theorem dX8_noteChar_3 : decode cX8_noteChar 3 = .ok (.iconst 0, 1) := by decide +kernel
theorem dX8_noteChar_4 : decode cX8_noteChar 4 = .ok (.istore 5, 2) := by decide +kernel
theorem dX8_noteChar_6 : decode cX8_noteChar 6 = .ok (.iload 5, 2) := by decide +kernel
theorem dX8_noteChar_8 : decode cX8_noteChar 8 = .ok (.bipush 10, 2) := by decide +kernel
theorem dX8_noteChar_10 : decode cX8_noteChar 10 = .ok (.if_icmp .ge 86, 3) := by decide +kernel
theorem dX8_noteChar_13 : decode cX8_noteChar 13 = .ok (.iconst 0, 1) := by decide +kernel
theorem dX8_noteChar_14 : decode cX8_noteChar 14 = .ok (.istore 6, 2) := by decide +kernel
theorem dX8_noteChar_16 : decode cX8_noteChar 16 = .ok (.aload_n 0, 1) := by decide +kernel
theorem dX8_noteChar_17 : decode cX8_noteChar 17 = .ok (.iload_n 1, 1) := by decide +kernel
theorem dX8_noteChar_18 : decode cX8_noteChar 18 = .ok (.iload 5, 2) := by decide +kernel
theorem dX8_noteChar_20 : decode cX8_noteChar 20 = .ok (.invokevirtual 135, 3) := by decide +kernel
theorem dX8_noteChar_23 : decode cX8_noteChar 23 = .ok (.ifCond .eq 67, 3) := by decide +kernel
theorem dX8_noteChar_26 : decode cX8_noteChar 26 = .ok (.iload 6, 2) := by decide +kernel
theorem dX8_noteChar_28 : decode cX8_noteChar 28 = .ok (.aload_n 0, 1) := by decide +kernel
theorem dX8_noteChar_29 : decode cX8_noteChar 29 = .ok (.bipush 10, 2) := by decide +kernel
theorem dX8_noteChar_31 : decode cX8_noteChar 31 = .ok (.iload 5, 2) := by decide +kernel
theorem dX8_noteChar_33 : decode cX8_noteChar 33 = .ok (.iadd, 1) := by decide +kernel
theorem dX8_noteChar_34 : decode cX8_noteChar 34 = .ok (.invokevirtual 109, 3) := by decide +kernel
theorem dX8_noteChar_37 : decode cX8_noteChar 37 = .ok (.if_icmp .ge 53, 3) := by decide +kernel
theorem dX8_noteChar_40 : decode cX8_noteChar 40 = .ok (.aload_n 0, 1) := by decide +kernel
theorem dX8_noteChar_41 : decode cX8_noteChar 41 = .ok (.bipush 10, 2) := by decide +kernel
theorem dX8_noteChar_43 : decode cX8_noteChar 43 = .ok (.iload 5, 2) := by decide +kernel
theorem dX8_noteChar_45 : decode cX8_noteChar 45 = .ok (.iadd, 1) := by decide +kernel
theorem dX8_noteChar_46 : decode cX8_noteChar 46 = .ok (.iload 6, 2) := by decide +kernel
theorem dX8_noteChar_48 : decode cX8_noteChar 48 = .ok (.iconst 0, 1) := by decide +kernel
theorem dX8_noteChar_49 : decode cX8_noteChar 49 = .ok (.aload_n 0, 1) := by decide +kernel
theorem dX8_noteChar_50 : decode cX8_noteChar 50 = .ok (.getfield 119, 3) := by decide +kernel
theorem dX8_noteChar_53 : decode cX8_noteChar 53 = .ok (.invokevirtual 128, 3) := by decide +kernel
theorem dX8_noteChar_56 : decode cX8_noteChar 56 = .ok (.istore 7, 2) := by decide +kernel
theorem dX8_noteChar_58 : decode cX8_noteChar 58 = .ok (.iload 4, 2) := by decide +kernel
theorem dX8_noteChar_60 : decode cX8_noteChar 60 = .ok (.ifCond .ne 18, 3) := by decide +kernel
theorem dX8_noteChar_63 : decode cX8_noteChar 63 = .ok (.aload_n 0, 1) := by decide +kernel
theorem dX8_noteChar_64 : decode cX8_noteChar 64 = .ok (.bipush 10, 2) := by decide +kernel
theorem dX8_noteChar_66 : decode cX8_noteChar 66 = .ok (.iload 5, 2) := by decide +kernel
theorem dX8_noteChar_68 : decode cX8_noteChar 68 = .ok (.iadd, 1) := by decide +kernel
theorem dX8_noteChar_69 : decode cX8_noteChar 69 = .ok (.iload 6, 2) := by decide +kernel
theorem dX8_noteChar_71 : decode cX8_noteChar 71 = .ok (.iload 7, 2) := by decide +kernel
theorem dX8_noteChar_73 : decode cX8_noteChar 73 = .ok (.iload_n 3, 1) := by decide +kernel
theorem dX8_noteChar_74 : decode cX8_noteChar 74 = .ok (.invokevirtual 226, 3) := by decide +kernel
theorem dX8_noteChar_77 : decode cX8_noteChar 77 = .ok (.ireturn, 1) := by decide +kernel
theorem dX8_noteChar_78 : decode cX8_noteChar 78 = .ok (.iinc 4 (-1), 3) := by decide +kernel
theorem dX8_noteChar_81 : decode cX8_noteChar 81 = .ok (.iload 7, 2) := by decide +kernel
theorem dX8_noteChar_83 : decode cX8_noteChar 83 = .ok (.iconst 1, 1) := by decide +kernel
theorem dX8_noteChar_84 : decode cX8_noteChar 84 = .ok (.iadd, 1) := by decide +kernel
theorem dX8_noteChar_85 : decode cX8_noteChar 85 = .ok (.istore 6, 2) := by decide +kernel
theorem dX8_noteChar_87 : decode cX8_noteChar 87 = .ok (.goto (-71), 3) := by decide +kernel
theorem dX8_noteChar_90 : decode cX8_noteChar 90 = .ok (.iinc 5 1, 3) := by decide +kernel
theorem dX8_noteChar_93 : decode cX8_noteChar 93 = .ok (.goto (-87), 3) := by decide +kernel
theorem dX8_noteChar_96 : decode cX8_noteChar 96 = .ok (.bipush 32, 2) := by decide +kernel
theorem dX8_noteChar_98 : decode cX8_noteChar 98 = .ok (.ireturn, 1) := by decide +kernel
theorem dX8_shownNow_0 : decode cX8_shownNow 0 = .ok (.aload_n 0, 1) := by decide +kernel
theorem dX8_shownNow_1 : decode cX8_shownNow 1 = .ok (.getfield 44, 3) := by decide +kernel
theorem dX8_shownNow_4 : decode cX8_shownNow 4 = .ok (.iload_n 1, 1) := by decide +kernel
theorem dX8_shownNow_5 : decode cX8_shownNow 5 = .ok (.iaload, 1) := by decide +kernel
theorem dX8_shownNow_6 : decode cX8_shownNow 6 = .ok (.istore 4, 2) := by decide +kernel
theorem dX8_shownNow_8 : decode cX8_shownNow 8 = .ok (.aload_n 0, 1) := by decide +kernel
theorem dX8_shownNow_9 : decode cX8_shownNow 9 = .ok (.getfield 44, 3) := by decide +kernel
theorem dX8_shownNow_12 : decode cX8_shownNow 12 = .ok (.iload_n 1, 1) := by decide +kernel
theorem dX8_shownNow_13 : decode cX8_shownNow 13 = .ok (.iconst 1, 1) := by decide +kernel
theorem dX8_shownNow_14 : decode cX8_shownNow 14 = .ok (.iadd, 1) := by decide +kernel
theorem dX8_shownNow_15 : decode cX8_shownNow 15 = .ok (.iaload, 1) := by decide +kernel
theorem dX8_shownNow_16 : decode cX8_shownNow 16 = .ok (.istore 5, 2) := by decide +kernel
theorem dX8_shownNow_18 : decode cX8_shownNow 18 = .ok (.iload 4, 2) := by decide +kernel
theorem dX8_shownNow_20 : decode cX8_shownNow 20 = .ok (.istore 6, 2) := by decide +kernel
theorem dX8_shownNow_22 : decode cX8_shownNow 22 = .ok (.iload 6, 2) := by decide +kernel
theorem dX8_shownNow_24 : decode cX8_shownNow 24 = .ok (.iload 5, 2) := by decide +kernel
theorem dX8_shownNow_26 : decode cX8_shownNow 26 = .ok (.if_icmp .ge 65, 3) := by decide +kernel
theorem dX8_shownNow_29 : decode cX8_shownNow 29 = .ok (.aload_n 0, 1) := by decide +kernel
theorem dX8_shownNow_30 : decode cX8_shownNow 30 = .ok (.iload 6, 2) := by decide +kernel
theorem dX8_shownNow_32 : decode cX8_shownNow 32 = .ok (.invokevirtual 217, 3) := by decide +kernel
theorem dX8_shownNow_35 : decode cX8_shownNow 35 = .ok (.iload_n 2, 1) := by decide +kernel
theorem dX8_shownNow_36 : decode cX8_shownNow 36 = .ok (.if_icmp .ne 49, 3) := by decide +kernel
theorem dX8_shownNow_39 : decode cX8_shownNow 39 = .ok (.aload_n 0, 1) := by decide +kernel
theorem dX8_shownNow_40 : decode cX8_shownNow 40 = .ok (.aload_n 0, 1) := by decide +kernel
theorem dX8_shownNow_41 : decode cX8_shownNow 41 = .ok (.getfield 35, 3) := by decide +kernel
theorem dX8_shownNow_44 : decode cX8_shownNow 44 = .ok (.iload 6, 2) := by decide +kernel
theorem dX8_shownNow_46 : decode cX8_shownNow 46 = .ok (.iaload, 1) := by decide +kernel
theorem dX8_shownNow_47 : decode cX8_shownNow 47 = .ok (.aload_n 0, 1) := by decide +kernel
theorem dX8_shownNow_48 : decode cX8_shownNow 48 = .ok (.getfield 38, 3) := by decide +kernel
theorem dX8_shownNow_51 : decode cX8_shownNow 51 = .ok (.iload 6, 2) := by decide +kernel
theorem dX8_shownNow_53 : decode cX8_shownNow 53 = .ok (.iaload, 1) := by decide +kernel
theorem dX8_shownNow_54 : decode cX8_shownNow 54 = .ok (.aload_n 0, 1) := by decide +kernel
theorem dX8_shownNow_55 : decode cX8_shownNow 55 = .ok (.getfield 41, 3) := by decide +kernel
theorem dX8_shownNow_58 : decode cX8_shownNow 58 = .ok (.iload 6, 2) := by decide +kernel
theorem dX8_shownNow_60 : decode cX8_shownNow 60 = .ok (.iaload, 1) := by decide +kernel
theorem dX8_shownNow_61 : decode cX8_shownNow 61 = .ok (.iload_n 3, 1) := by decide +kernel
theorem dX8_shownNow_62 : decode cX8_shownNow 62 = .ok (.aload_n 0, 1) := by decide +kernel
theorem dX8_shownNow_63 : decode cX8_shownNow 63 = .ok (.aload_n 0, 1) := by decide +kernel
theorem dX8_shownNow_64 : decode cX8_shownNow 64 = .ok (.getfield 35, 3) := by decide +kernel
theorem dX8_shownNow_67 : decode cX8_shownNow 67 = .ok (.iload 6, 2) := by decide +kernel
theorem dX8_shownNow_69 : decode cX8_shownNow 69 = .ok (.iaload, 1) := by decide +kernel
theorem dX8_shownNow_70 : decode cX8_shownNow 70 = .ok (.aload_n 0, 1) := by decide +kernel
theorem dX8_shownNow_71 : decode cX8_shownNow 71 = .ok (.getfield 38, 3) := by decide +kernel
theorem dX8_shownNow_74 : decode cX8_shownNow 74 = .ok (.iload 6, 2) := by decide +kernel
theorem dX8_shownNow_76 : decode cX8_shownNow 76 = .ok (.iaload, 1) := by decide +kernel
theorem dX8_shownNow_77 : decode cX8_shownNow 77 = .ok (.invokevirtual 125, 3) := by decide +kernel
theorem dX8_shownNow_80 : decode cX8_shownNow 80 = .ok (.isub, 1) := by decide +kernel
theorem dX8_shownNow_81 : decode cX8_shownNow 81 = .ok (.invokevirtual 226, 3) := by decide +kernel
theorem dX8_shownNow_84 : decode cX8_shownNow 84 = .ok (.ireturn, 1) := by decide +kernel
theorem dX8_shownNow_85 : decode cX8_shownNow 85 = .ok (.iinc 6 1, 3) := by decide +kernel
theorem dX8_shownNow_88 : decode cX8_shownNow 88 = .ok (.goto (-66), 3) := by decide +kernel
theorem dX8_shownNow_91 : decode cX8_shownNow 91 = .ok (.aload_n 0, 1) := by decide +kernel
theorem dX8_shownNow_92 : decode cX8_shownNow 92 = .ok (.iload 4, 2) := by decide +kernel
theorem dX8_shownNow_94 : decode cX8_shownNow 94 = .ok (.iload 5, 2) := by decide +kernel
theorem dX8_shownNow_96 : decode cX8_shownNow 96 = .ok (.invokevirtual 148, 3) := by decide +kernel
theorem dX8_shownNow_99 : decode cX8_shownNow 99 = .ok (.istore 6, 2) := by decide +kernel
theorem dX8_shownNow_101 : decode cX8_shownNow 101 = .ok (.aload_n 0, 1) := by decide +kernel
theorem dX8_shownNow_102 : decode cX8_shownNow 102 = .ok (.iload 6, 2) := by decide +kernel
theorem dX8_shownNow_104 : decode cX8_shownNow 104 = .ok (.invokevirtual 151, 3) := by decide +kernel
theorem dX8_shownNow_107 : decode cX8_shownNow 107 = .ok (.istore 7, 2) := by decide +kernel
theorem dX8_shownNow_109 : decode cX8_shownNow 109 = .ok (.aload_n 0, 1) := by decide +kernel
theorem dX8_shownNow_110 : decode cX8_shownNow 110 = .ok (.iload 4, 2) := by decide +kernel
theorem dX8_shownNow_112 : decode cX8_shownNow 112 = .ok (.iload 5, 2) := by decide +kernel
theorem dX8_shownNow_114 : decode cX8_shownNow 114 = .ok (.invokevirtual 145, 3) := by decide +kernel
theorem dX8_shownNow_117 : decode cX8_shownNow 117 = .ok (.istore 8, 2) := by decide +kernel
theorem dX8_shownNow_119 : decode cX8_shownNow 119 = .ok (.aload_n 0, 1) := by decide +kernel
theorem dX8_shownNow_120 : decode cX8_shownNow 120 = .ok (.getfield 26, 3) := by decide +kernel
theorem dX8_shownNow_123 : decode cX8_shownNow 123 = .ok (.iload 7, 2) := by decide +kernel
theorem dX8_shownNow_125 : decode cX8_shownNow 125 = .ok (.isub, 1) := by decide +kernel
theorem dX8_shownNow_126 : decode cX8_shownNow 126 = .ok (.iload 8, 2) := by decide +kernel
theorem dX8_shownNow_128 : decode cX8_shownNow 128 = .ok (.if_icmp .le 13, 3) := by decide +kernel
theorem dX8_shownNow_131 : decode cX8_shownNow 131 = .ok (.aload_n 0, 1) := by decide +kernel
theorem dX8_shownNow_132 : decode cX8_shownNow 132 = .ok (.getfield 26, 3) := by decide +kernel
theorem dX8_shownNow_135 : decode cX8_shownNow 135 = .ok (.iload 7, 2) := by decide +kernel
theorem dX8_shownNow_137 : decode cX8_shownNow 137 = .ok (.isub, 1) := by decide +kernel
theorem dX8_shownNow_138 : decode cX8_shownNow 138 = .ok (.goto 5, 3) := by decide +kernel
theorem dX8_shownNow_141 : decode cX8_shownNow 141 = .ok (.iload 8, 2) := by decide +kernel
theorem dX8_shownNow_143 : decode cX8_shownNow 143 = .ok (.istore 9, 2) := by decide +kernel
theorem dX8_shownNow_145 : decode cX8_shownNow 145 = .ok (.iload 7, 2) := by decide +kernel
theorem dX8_shownNow_147 : decode cX8_shownNow 147 = .ok (.ifCond .eq 9, 3) := by decide +kernel
theorem dX8_shownNow_150 : decode cX8_shownNow 150 = .ok (.iload_n 2, 1) := by decide +kernel
theorem dX8_shownNow_151 : decode cX8_shownNow 151 = .ok (.iload 9, 2) := by decide +kernel
theorem dX8_shownNow_153 : decode cX8_shownNow 153 = .ok (.if_icmp .ge 8, 3) := by decide +kernel
theorem dX8_shownNow_156 : decode cX8_shownNow 156 = .ok (.bipush 32, 2) := by decide +kernel
theorem dX8_shownNow_158 : decode cX8_shownNow 158 = .ok (.goto 27, 3) := by decide +kernel
theorem dX8_shownNow_161 : decode cX8_shownNow 161 = .ok (.iload_n 2, 1) := by decide +kernel
theorem dX8_shownNow_162 : decode cX8_shownNow 162 = .ok (.iload 9, 2) := by decide +kernel
theorem dX8_shownNow_164 : decode cX8_shownNow 164 = .ok (.if_icmp .ne 8, 3) := by decide +kernel
theorem dX8_shownNow_167 : decode cX8_shownNow 167 = .ok (.bipush 45, 2) := by decide +kernel
theorem dX8_shownNow_169 : decode cX8_shownNow 169 = .ok (.goto 16, 3) := by decide +kernel
theorem dX8_shownNow_172 : decode cX8_shownNow 172 = .ok (.aload_n 0, 1) := by decide +kernel
theorem dX8_shownNow_173 : decode cX8_shownNow 173 = .ok (.iload 6, 2) := by decide +kernel
theorem dX8_shownNow_175 : decode cX8_shownNow 175 = .ok (.iload_n 2, 1) := by decide +kernel
theorem dX8_shownNow_176 : decode cX8_shownNow 176 = .ok (.iload 9, 2) := by decide +kernel
theorem dX8_shownNow_178 : decode cX8_shownNow 178 = .ok (.isub, 1) := by decide +kernel
theorem dX8_shownNow_179 : decode cX8_shownNow 179 = .ok (.iconst 1, 1) := by decide +kernel
theorem dX8_shownNow_180 : decode cX8_shownNow 180 = .ok (.isub, 1) := by decide +kernel
theorem dX8_shownNow_181 : decode cX8_shownNow 181 = .ok (.iload_n 3, 1) := by decide +kernel
theorem dX8_shownNow_182 : decode cX8_shownNow 182 = .ok (.invokevirtual 229, 3) := by decide +kernel
theorem dX8_shownNow_185 : decode cX8_shownNow 185 = .ok (.ireturn, 1) := by decide +kernel
theorem dX8_shown_0 : decode cX8_shown 0 = .ok (.aload_n 0, 1) := by decide +kernel
theorem dX8_shown_1 : decode cX8_shown 1 = .ok (.aload_n 0, 1) := by decide +kernel
theorem dX8_shown_2 : decode cX8_shown 2 = .ok (.iload_n 1, 1) := by decide +kernel
theorem dX8_shown_3 : decode cX8_shown 3 = .ok (.invokevirtual 207, 3) := by decide +kernel
theorem dX8_shown_6 : decode cX8_shown 6 = .ok (.ifCond .ne 7, 3) := by decide +kernel
theorem dX8_shown_9 : decode cX8_shown 9 = .ok (.iconst 1, 1) := by decide +kernel
theorem dX8_shown_10 : decode cX8_shown 10 = .ok (.goto 36, 3) := by decide +kernel
theorem dX8_shown_13 : decode cX8_shown 13 = .ok (.iload_n 2, 1) := by decide +kernel
theorem dX8_shown_14 : decode cX8_shown 14 = .ok (.iconst 0, 1) := by decide +kernel
theorem dX8_shown_15 : decode cX8_shown 15 = .ok (.aload_n 0, 1) := by decide +kernel
theorem dX8_shown_16 : decode cX8_shown 16 = .ok (.getfield 26, 3) := by decide +kernel
theorem dX8_shown_19 : decode cX8_shown 19 = .ok (.iconst 1, 1) := by decide +kernel
theorem dX8_shown_20 : decode cX8_shown 20 = .ok (.isub, 1) := by decide +kernel
theorem dX8_shown_21 : decode cX8_shown 21 = .ok (.invokestatic 50, 3) := by decide +kernel
theorem dX8_shown_24 : decode cX8_shown 24 = .ok (.ifCond .eq 21, 3) := by decide +kernel
theorem dX8_shown_27 : decode cX8_shown 27 = .ok (.iload_n 3, 1) := by decide +kernel
theorem dX8_shown_28 : decode cX8_shown 28 = .ok (.iconst 0, 1) := by decide +kernel
theorem dX8_shown_29 : decode cX8_shown 29 = .ok (.aload_n 0, 1) := by decide +kernel
theorem dX8_shown_30 : decode cX8_shown 30 = .ok (.getfield 22, 3) := by decide +kernel
theorem dX8_shown_33 : decode cX8_shown 33 = .ok (.iconst 1, 1) := by decide +kernel
theorem dX8_shown_34 : decode cX8_shown 34 = .ok (.isub, 1) := by decide +kernel
theorem dX8_shown_35 : decode cX8_shown 35 = .ok (.invokestatic 50, 3) := by decide +kernel
theorem dX8_shown_38 : decode cX8_shown 38 = .ok (.ifCond .eq 7, 3) := by decide +kernel
theorem dX8_shown_41 : decode cX8_shown 41 = .ok (.iconst 0, 1) := by decide +kernel
theorem dX8_shown_42 : decode cX8_shown 42 = .ok (.goto 4, 3) := by decide +kernel
theorem dX8_shown_45 : decode cX8_shown 45 = .ok (.iconst 2, 1) := by decide +kernel
theorem dX8_shown_46 : decode cX8_shown 46 = .ok (.putfield 47, 3) := by decide +kernel
theorem dX8_shown_49 : decode cX8_shown 49 = .ok (.aload_n 0, 1) := by decide +kernel
theorem dX8_shown_50 : decode cX8_shown 50 = .ok (.getfield 47, 3) := by decide +kernel
theorem dX8_shown_53 : decode cX8_shown 53 = .ok (.ifCond .le 7, 3) := by decide +kernel
theorem dX8_shown_56 : decode cX8_shown 56 = .ok (.iconst 0, 1) := by decide +kernel
theorem dX8_shown_57 : decode cX8_shown 57 = .ok (.goto 10, 3) := by decide +kernel
theorem dX8_shown_60 : decode cX8_shown 60 = .ok (.aload_n 0, 1) := by decide +kernel
theorem dX8_shown_61 : decode cX8_shown 61 = .ok (.iload_n 1, 1) := by decide +kernel
theorem dX8_shown_62 : decode cX8_shown 62 = .ok (.iload_n 2, 1) := by decide +kernel
theorem dX8_shown_63 : decode cX8_shown 63 = .ok (.iload_n 3, 1) := by decide +kernel
theorem dX8_shown_64 : decode cX8_shown 64 = .ok (.invokevirtual 232, 3) := by decide +kernel
theorem dX8_shown_67 : decode cX8_shown 67 = .ok (.ireturn, 1) := by decide +kernel
theorem dX8_noteAt_0 : decode cX8_noteAt 0 = .ok (.iload_n 2, 1) := by decide +kernel
theorem dX8_noteAt_1 : decode cX8_noteAt 1 = .ok (.istore_n 3, 1) := by decide +kernel
theorem dX8_noteAt_2 : decode cX8_noteAt 2 = .ok (.iconst 0, 1) := by decide +kernel
theorem dX8_noteAt_3 : decode cX8_noteAt 3 = .ok (.istore 4, 2) := by decide +kernel
theorem dX8_noteAt_5 : decode cX8_noteAt 5 = .ok (.iload 4, 2) := by decide +kernel
theorem dX8_noteAt_7 : decode cX8_noteAt 7 = .ok (.bipush 10, 2) := by decide +kernel
theorem dX8_noteAt_9 : decode cX8_noteAt 9 = .ok (.if_icmp .ge 29, 3) := by decide +kernel
theorem dX8_noteAt_12 : decode cX8_noteAt 12 = .ok (.iload_n 1, 1) := by decide +kernel
theorem dX8_noteAt_13 : decode cX8_noteAt 13 = .ok (.iload 4, 2) := by decide +kernel
theorem dX8_noteAt_15 : decode cX8_noteAt 15 = .ok (.ishr, 1) := by decide +kernel
theorem dX8_noteAt_16 : decode cX8_noteAt 16 = .ok (.iconst 1, 1) := by decide +kernel
theorem dX8_noteAt_17 : decode cX8_noteAt 17 = .ok (.iand, 1) := by decide +kernel
theorem dX8_noteAt_18 : decode cX8_noteAt 18 = .ok (.iconst 1, 1) := by decide +kernel
theorem dX8_noteAt_19 : decode cX8_noteAt 19 = .ok (.if_icmp .ne 13, 3) := by decide +kernel
theorem dX8_noteAt_22 : decode cX8_noteAt 22 = .ok (.iload_n 3, 1) := by decide +kernel
theorem dX8_noteAt_23 : decode cX8_noteAt 23 = .ok (.ifCond .ne 6, 3) := by decide +kernel
theorem dX8_noteAt_26 : decode cX8_noteAt 26 = .ok (.iload 4, 2) := by decide +kernel
theorem dX8_noteAt_28 : decode cX8_noteAt 28 = .ok (.ireturn, 1) := by decide +kernel
theorem dX8_noteAt_29 : decode cX8_noteAt 29 = .ok (.iinc 3 (-1), 3) := by decide +kernel
theorem dX8_noteAt_32 : decode cX8_noteAt 32 = .ok (.iinc 4 1, 3) := by decide +kernel
theorem dX8_noteAt_35 : decode cX8_noteAt 35 = .ok (.goto (-30), 3) := by decide +kernel
theorem dX8_noteAt_38 : decode cX8_noteAt 38 = .ok (.iconst (-1), 1) := by decide +kernel
theorem dX8_noteAt_39 : decode cX8_noteAt 39 = .ok (.ireturn, 1) := by decide +kernel
theorem dX8_noteOn_0 : decode cX8_noteOn 0 = .ok (.aload_n 0, 1) := by decide +kernel
theorem dX8_noteOn_1 : decode cX8_noteOn 1 = .ok (.iload_n 1, 1) := by decide +kernel
theorem dX8_noteOn_2 : decode cX8_noteOn 2 = .ok (.invokevirtual 207, 3) := by decide +kernel
theorem dX8_noteOn_5 : decode cX8_noteOn 5 = .ok (.istore_n 3, 1) := by decide +kernel
theorem dX8_noteOn_6 : decode cX8_noteOn 6 = .ok (.iload_n 3, 1) := by decide +kernel
theorem dX8_noteOn_7 : decode cX8_noteOn 7 = .ok (.ifCond .eq 33, 3) := by decide +kernel
theorem dX8_noteOn_10 : decode cX8_noteOn 10 = .ok (.iload_n 2, 1) := by decide +kernel
theorem dX8_noteOn_11 : decode cX8_noteOn 11 = .ok (.ifCond .lt 29, 3) := by decide +kernel
theorem dX8_noteOn_14 : decode cX8_noteOn 14 = .ok (.aload_n 0, 1) := by decide +kernel
theorem dX8_noteOn_15 : decode cX8_noteOn 15 = .ok (.aload_n 0, 1) := by decide +kernel
theorem dX8_noteOn_16 : decode cX8_noteOn 16 = .ok (.aload_n 0, 1) := by decide +kernel
theorem dX8_noteOn_17 : decode cX8_noteOn 17 = .ok (.getfield 44, 3) := by decide +kernel
theorem dX8_noteOn_20 : decode cX8_noteOn 20 = .ok (.iload_n 1, 1) := by decide +kernel
theorem dX8_noteOn_21 : decode cX8_noteOn 21 = .ok (.iaload, 1) := by decide +kernel
theorem dX8_noteOn_22 : decode cX8_noteOn 22 = .ok (.aload_n 0, 1) := by decide +kernel
theorem dX8_noteOn_23 : decode cX8_noteOn 23 = .ok (.getfield 44, 3) := by decide +kernel
theorem dX8_noteOn_26 : decode cX8_noteOn 26 = .ok (.iload_n 1, 1) := by decide +kernel
theorem dX8_noteOn_27 : decode cX8_noteOn 27 = .ok (.iconst 1, 1) := by decide +kernel
theorem dX8_noteOn_28 : decode cX8_noteOn 28 = .ok (.iadd, 1) := by decide +kernel
theorem dX8_noteOn_29 : decode cX8_noteOn 29 = .ok (.iaload, 1) := by decide +kernel
theorem dX8_noteOn_30 : decode cX8_noteOn 30 = .ok (.invokevirtual 148, 3) := by decide +kernel
theorem dX8_noteOn_33 : decode cX8_noteOn 33 = .ok (.iload_n 2, 1) := by decide +kernel
theorem dX8_noteOn_34 : decode cX8_noteOn 34 = .ok (.invokevirtual 235, 3) := by decide +kernel
theorem dX8_noteOn_37 : decode cX8_noteOn 37 = .ok (.goto 4, 3) := by decide +kernel
theorem dX8_noteOn_40 : decode cX8_noteOn 40 = .ok (.iconst (-1), 1) := by decide +kernel
theorem dX8_noteOn_41 : decode cX8_noteOn 41 = .ok (.istore 4, 2) := by decide +kernel
theorem dX8_noteOn_43 : decode cX8_noteOn 43 = .ok (.aload_n 0, 1) := by decide +kernel
theorem dX8_noteOn_44 : decode cX8_noteOn 44 = .ok (.iload 4, 2) := by decide +kernel
theorem dX8_noteOn_46 : decode cX8_noteOn 46 = .ok (.iconst (-1), 1) := by decide +kernel
theorem dX8_noteOn_47 : decode cX8_noteOn 47 = .ok (.if_icmp .ne 7, 3) := by decide +kernel
theorem dX8_noteOn_50 : decode cX8_noteOn 50 = .ok (.iconst 1, 1) := by decide +kernel
theorem dX8_noteOn_51 : decode cX8_noteOn 51 = .ok (.goto 4, 3) := by decide +kernel
theorem dX8_noteOn_54 : decode cX8_noteOn 54 = .ok (.iconst 0, 1) := by decide +kernel
theorem dX8_noteOn_55 : decode cX8_noteOn 55 = .ok (.putfield 47, 3) := by decide +kernel
theorem dX8_noteOn_58 : decode cX8_noteOn 58 = .ok (.aload_n 0, 1) := by decide +kernel
theorem dX8_noteOn_59 : decode cX8_noteOn 59 = .ok (.getfield 47, 3) := by decide +kernel
theorem dX8_noteOn_62 : decode cX8_noteOn 62 = .ok (.ifCond .le 7, 3) := by decide +kernel
theorem dX8_noteOn_65 : decode cX8_noteOn 65 = .ok (.iconst 0, 1) := by decide +kernel
theorem dX8_noteOn_66 : decode cX8_noteOn 66 = .ok (.goto 5, 3) := by decide +kernel
theorem dX8_noteOn_69 : decode cX8_noteOn 69 = .ok (.iload 4, 2) := by decide +kernel
theorem dX8_noteOn_71 : decode cX8_noteOn 71 = .ok (.ireturn, 1) := by decide +kernel
theorem dX8_isPosition_0 : decode cX8_isPosition 0 = .ok (.iload_n 1, 1) := by decide +kernel
theorem dX8_isPosition_1 : decode cX8_isPosition 1 = .ok (.iconst 0, 1) := by decide +kernel
theorem dX8_isPosition_2 : decode cX8_isPosition 2 = .ok (.aload_n 0, 1) := by decide +kernel
theorem dX8_isPosition_3 : decode cX8_isPosition 3 = .ok (.getfield 7, 3) := by decide +kernel
theorem dX8_isPosition_6 : decode cX8_isPosition 6 = .ok (.iconst 0, 1) := by decide +kernel
theorem dX8_isPosition_7 : decode cX8_isPosition 7 = .ok (.iaload, 1) := by decide +kernel
theorem dX8_isPosition_8 : decode cX8_isPosition 8 = .ok (.iconst 1, 1) := by decide +kernel
theorem dX8_isPosition_9 : decode cX8_isPosition 9 = .ok (.isub, 1) := by decide +kernel
theorem dX8_isPosition_10 : decode cX8_isPosition 10 = .ok (.invokestatic 50, 3) := by decide +kernel
theorem dX8_isPosition_13 : decode cX8_isPosition 13 = .ok (.ifCond .eq 26, 3) := by decide +kernel
theorem dX8_isPosition_16 : decode cX8_isPosition 16 = .ok (.iload_n 2, 1) := by decide +kernel
theorem dX8_isPosition_17 : decode cX8_isPosition 17 = .ok (.iconst 0, 1) := by decide +kernel
theorem dX8_isPosition_18 : decode cX8_isPosition 18 = .ok (.aload_n 0, 1) := by decide +kernel
theorem dX8_isPosition_19 : decode cX8_isPosition 19 = .ok (.getfield 7, 3) := by decide +kernel
theorem dX8_isPosition_22 : decode cX8_isPosition 22 = .ok (.bipush 85, 2) := by decide +kernel
theorem dX8_isPosition_24 : decode cX8_isPosition 24 = .ok (.iload_n 1, 1) := by decide +kernel
theorem dX8_isPosition_25 : decode cX8_isPosition 25 = .ok (.iadd, 1) := by decide +kernel
theorem dX8_isPosition_26 : decode cX8_isPosition 26 = .ok (.iaload, 1) := by decide +kernel
theorem dX8_isPosition_27 : decode cX8_isPosition 27 = .ok (.iconst 1, 1) := by decide +kernel
theorem dX8_isPosition_28 : decode cX8_isPosition 28 = .ok (.isub, 1) := by decide +kernel
theorem dX8_isPosition_29 : decode cX8_isPosition 29 = .ok (.invokestatic 50, 3) := by decide +kernel
theorem dX8_isPosition_32 : decode cX8_isPosition 32 = .ok (.ifCond .eq 7, 3) := by decide +kernel
theorem dX8_isPosition_35 : decode cX8_isPosition 35 = .ok (.iconst 1, 1) := by decide +kernel
theorem dX8_isPosition_36 : decode cX8_isPosition 36 = .ok (.goto 4, 3) := by decide +kernel
theorem dX8_isPosition_39 : decode cX8_isPosition 39 = .ok (.iconst 0, 1) := by decide +kernel
theorem dX8_isPosition_40 : decode cX8_isPosition 40 = .ok (.ireturn, 1) := by decide +kernel
theorem dX8_pageOf_0 : decode cX8_pageOf 0 = .ok (.aload_n 0, 1) := by decide +kernel
theorem dX8_pageOf_1 : decode cX8_pageOf 1 = .ok (.aload_n 0, 1) := by decide +kernel
theorem dX8_pageOf_2 : decode cX8_pageOf 2 = .ok (.iload_n 1, 1) := by decide +kernel
theorem dX8_pageOf_3 : decode cX8_pageOf 3 = .ok (.iload_n 2, 1) := by decide +kernel
theorem dX8_pageOf_4 : decode cX8_pageOf 4 = .ok (.invokevirtual 238, 3) := by decide +kernel
theorem dX8_pageOf_7 : decode cX8_pageOf 7 = .ok (.ifCond .eq 7, 3) := by decide +kernel
theorem dX8_pageOf_10 : decode cX8_pageOf 10 = .ok (.iconst 0, 1) := by decide +kernel
theorem dX8_pageOf_11 : decode cX8_pageOf 11 = .ok (.goto 4, 3) := by decide +kernel
theorem dX8_pageOf_14 : decode cX8_pageOf 14 = .ok (.iconst 1, 1) := by decide +kernel
theorem dX8_pageOf_15 : decode cX8_pageOf 15 = .ok (.putfield 47, 3) := by decide +kernel
theorem dX8_pageOf_18 : decode cX8_pageOf 18 = .ok (.aload_n 0, 1) := by decide +kernel
theorem dX8_pageOf_19 : decode cX8_pageOf 19 = .ok (.invokevirtual 189, 3) := by decide +kernel
theorem dX8_pageOf_22 : decode cX8_pageOf 22 = .ok (.aload_n 0, 1) := by decide +kernel
theorem dX8_pageOf_23 : decode cX8_pageOf 23 = .ok (.getfield 47, 3) := by decide +kernel
theorem dX8_pageOf_26 : decode cX8_pageOf 26 = .ok (.ifCond .le 7, 3) := by decide +kernel
theorem dX8_pageOf_29 : decode cX8_pageOf 29 = .ok (.iconst 0, 1) := by decide +kernel
theorem dX8_pageOf_30 : decode cX8_pageOf 30 = .ok (.goto 9, 3) := by decide +kernel
theorem dX8_pageOf_33 : decode cX8_pageOf 33 = .ok (.aload_n 0, 1) := by decide +kernel
theorem dX8_pageOf_34 : decode cX8_pageOf 34 = .ok (.iload_n 1, 1) := by decide +kernel
theorem dX8_pageOf_35 : decode cX8_pageOf 35 = .ok (.iload_n 2, 1) := by decide +kernel
theorem dX8_pageOf_36 : decode cX8_pageOf 36 = .ok (.invokevirtual 186, 3) := by decide +kernel
theorem dX8_pageOf_39 : decode cX8_pageOf 39 = .ok (.ireturn, 1) := by decide +kernel
theorem dX8_backwards_0 : decode cX8_backwards 0 = .ok (.iconst 0, 1) := by decide +kernel
theorem dX8_backwards_1 : decode cX8_backwards 1 = .ok (.istore_n 2, 1) := by decide +kernel
theorem dX8_backwards_2 : decode cX8_backwards 2 = .ok (.iload_n 2, 1) := by decide +kernel
theorem dX8_backwards_3 : decode cX8_backwards 3 = .ok (.iload_n 1, 1) := by decide +kernel
theorem dX8_backwards_4 : decode cX8_backwards 4 = .ok (.if_icmp .ge 20, 3) := by decide +kernel
theorem dX8_backwards_7 : decode cX8_backwards 7 = .ok (.aload_n 0, 1) := by decide +kernel
theorem dX8_backwards_8 : decode cX8_backwards 8 = .ok (.iload_n 2, 1) := by decide +kernel
theorem dX8_backwards_9 : decode cX8_backwards 9 = .ok (.invokevirtual 173, 3) := by decide +kernel
theorem dX8_backwards_12 : decode cX8_backwards 12 = .ok (.iload_n 1, 1) := by decide +kernel
theorem dX8_backwards_13 : decode cX8_backwards 13 = .ok (.if_icmp .ne 5, 3) := by decide +kernel
theorem dX8_backwards_16 : decode cX8_backwards 16 = .ok (.iload_n 2, 1) := by decide +kernel
theorem dX8_backwards_17 : decode cX8_backwards 17 = .ok (.ireturn, 1) := by decide +kernel
theorem dX8_backwards_18 : decode cX8_backwards 18 = .ok (.iinc 2 1, 3) := by decide +kernel
theorem dX8_backwards_21 : decode cX8_backwards 21 = .ok (.goto (-19), 3) := by decide +kernel
theorem dX8_backwards_24 : decode cX8_backwards 24 = .ok (.iconst (-1), 1) := by decide +kernel
theorem dX8_backwards_25 : decode cX8_backwards 25 = .ok (.ireturn, 1) := by decide +kernel
theorem dX8_floating_0 : decode cX8_floating 0 = .ok (.aload_n 0, 1) := by decide +kernel
theorem dX8_floating_1 : decode cX8_floating 1 = .ok (.aload_n 0, 1) := by decide +kernel
theorem dX8_floating_2 : decode cX8_floating 2 = .ok (.iload_n 1, 1) := by decide +kernel
theorem dX8_floating_3 : decode cX8_floating 3 = .ok (.invokevirtual 220, 3) := by decide +kernel
theorem dX8_floating_6 : decode cX8_floating 6 = .ok (.ifCond .eq 7, 3) := by decide +kernel
theorem dX8_floating_9 : decode cX8_floating 9 = .ok (.iconst 0, 1) := by decide +kernel
theorem dX8_floating_10 : decode cX8_floating 10 = .ok (.goto 4, 3) := by decide +kernel
theorem dX8_floating_13 : decode cX8_floating 13 = .ok (.iconst 1, 1) := by decide +kernel
theorem dX8_floating_14 : decode cX8_floating 14 = .ok (.putfield 47, 3) := by decide +kernel
theorem dX8_floating_17 : decode cX8_floating 17 = .ok (.aload_n 0, 1) := by decide +kernel
theorem dX8_floating_18 : decode cX8_floating 18 = .ok (.getfield 47, 3) := by decide +kernel
theorem dX8_floating_21 : decode cX8_floating 21 = .ok (.ifCond .le 7, 3) := by decide +kernel
theorem dX8_floating_24 : decode cX8_floating 24 = .ok (.iconst 0, 1) := by decide +kernel
theorem dX8_floating_25 : decode cX8_floating 25 = .ok (.goto 20, 3) := by decide +kernel
theorem dX8_floating_28 : decode cX8_floating 28 = .ok (.iload_n 2, 1) := by decide +kernel
theorem dX8_floating_29 : decode cX8_floating 29 = .ok (.ifCond .eq 11, 3) := by decide +kernel
theorem dX8_floating_32 : decode cX8_floating 32 = .ok (.aload_n 0, 1) := by decide +kernel
theorem dX8_floating_33 : decode cX8_floating 33 = .ok (.iload_n 1, 1) := by decide +kernel
theorem dX8_floating_34 : decode cX8_floating 34 = .ok (.invokevirtual 173, 3) := by decide +kernel
theorem dX8_floating_37 : decode cX8_floating 37 = .ok (.goto 8, 3) := by decide +kernel
theorem dX8_floating_40 : decode cX8_floating 40 = .ok (.aload_n 0, 1) := by decide +kernel
theorem dX8_floating_41 : decode cX8_floating 41 = .ok (.iload_n 1, 1) := by decide +kernel
theorem dX8_floating_42 : decode cX8_floating 42 = .ok (.invokevirtual 241, 3) := by decide +kernel
theorem dX8_floating_45 : decode cX8_floating 45 = .ok (.ireturn, 1) := by decide +kernel
theorem dX8_move_0 : decode cX8_move 0 = .ok (.aload_n 0, 1) := by decide +kernel
theorem dX8_move_1 : decode cX8_move 1 = .ok (.getfield 7, 3) := by decide +kernel
theorem dX8_move_4 : decode cX8_move 4 = .ok (.iconst 1, 1) := by decide +kernel
theorem dX8_move_5 : decode cX8_move 5 = .ok (.iload_n 1, 1) := by decide +kernel
theorem dX8_move_6 : decode cX8_move 6 = .ok (.iastore, 1) := by decide +kernel
theorem dX8_move_7 : decode cX8_move 7 = .ok (.aload_n 0, 1) := by decide +kernel
theorem dX8_move_8 : decode cX8_move 8 = .ok (.getfield 7, 3) := by decide +kernel
theorem dX8_move_11 : decode cX8_move 11 = .ok (.iconst 2, 1) := by decide +kernel
theorem dX8_move_12 : decode cX8_move 12 = .ok (.iload_n 2, 1) := by decide +kernel
theorem dX8_move_13 : decode cX8_move 13 = .ok (.iastore, 1) := by decide +kernel
theorem dX8_move_14 : decode cX8_move 14 = .ok (.return_, 1) := by decide +kernel
theorem dX8_keepJump_0 : decode cX8_keepJump 0 = .ok (.aload_n 0, 1) := by decide +kernel
theorem dX8_keepJump_1 : decode cX8_keepJump 1 = .ok (.getfield 7, 3) := by decide +kernel
theorem dX8_keepJump_4 : decode cX8_keepJump 4 = .ok (.iconst 3, 1) := by decide +kernel
theorem dX8_keepJump_5 : decode cX8_keepJump 5 = .ok (.iaload, 1) := by decide +kernel
theorem dX8_keepJump_6 : decode cX8_keepJump 6 = .ok (.iconst 5, 1) := by decide +kernel
theorem dX8_keepJump_7 : decode cX8_keepJump 7 = .ok (.if_icmp .ne 45, 3) := by decide +kernel
theorem dX8_keepJump_10 : decode cX8_keepJump 10 = .ok (.iconst 2, 1) := by decide +kernel
theorem dX8_keepJump_11 : decode cX8_keepJump 11 = .ok (.istore_n 1, 1) := by decide +kernel
theorem dX8_keepJump_12 : decode cX8_keepJump 12 = .ok (.iload_n 1, 1) := by decide +kernel
theorem dX8_keepJump_13 : decode cX8_keepJump 13 = .ok (.bipush 10, 2) := by decide +kernel
theorem dX8_keepJump_15 : decode cX8_keepJump 15 = .ok (.if_icmp .ge 27, 3) := by decide +kernel
theorem dX8_keepJump_18 : decode cX8_keepJump 18 = .ok (.aload_n 0, 1) := by decide +kernel
theorem dX8_keepJump_19 : decode cX8_keepJump 19 = .ok (.getfield 7, 3) := by decide +kernel
theorem dX8_keepJump_22 : decode cX8_keepJump 22 = .ok (.iconst 4, 1) := by decide +kernel
theorem dX8_keepJump_23 : decode cX8_keepJump 23 = .ok (.iload_n 1, 1) := by decide +kernel
theorem dX8_keepJump_24 : decode cX8_keepJump 24 = .ok (.iadd, 1) := by decide +kernel
theorem dX8_keepJump_25 : decode cX8_keepJump 25 = .ok (.iconst 2, 1) := by decide +kernel
theorem dX8_keepJump_26 : decode cX8_keepJump 26 = .ok (.isub, 1) := by decide +kernel
theorem dX8_keepJump_27 : decode cX8_keepJump 27 = .ok (.aload_n 0, 1) := by decide +kernel
theorem dX8_keepJump_28 : decode cX8_keepJump 28 = .ok (.getfield 7, 3) := by decide +kernel
theorem dX8_keepJump_31 : decode cX8_keepJump 31 = .ok (.iconst 4, 1) := by decide +kernel
theorem dX8_keepJump_32 : decode cX8_keepJump 32 = .ok (.iload_n 1, 1) := by decide +kernel
theorem dX8_keepJump_33 : decode cX8_keepJump 33 = .ok (.iadd, 1) := by decide +kernel
theorem dX8_keepJump_34 : decode cX8_keepJump 34 = .ok (.iaload, 1) := by decide +kernel
theorem dX8_keepJump_35 : decode cX8_keepJump 35 = .ok (.iastore, 1) := by decide +kernel
theorem dX8_keepJump_36 : decode cX8_keepJump 36 = .ok (.iinc 1 1, 3) := by decide +kernel
theorem dX8_keepJump_39 : decode cX8_keepJump 39 = .ok (.goto (-27), 3) := by decide +kernel
theorem dX8_keepJump_42 : decode cX8_keepJump 42 = .ok (.aload_n 0, 1) := by decide +kernel
theorem dX8_keepJump_43 : decode cX8_keepJump 43 = .ok (.getfield 7, 3) := by decide +kernel
theorem dX8_keepJump_46 : decode cX8_keepJump 46 = .ok (.iconst 3, 1) := by decide +kernel
theorem dX8_keepJump_47 : decode cX8_keepJump 47 = .ok (.dup2, 1) := by decide +kernel
theorem dX8_keepJump_48 : decode cX8_keepJump 48 = .ok (.iaload, 1) := by decide +kernel
theorem dX8_keepJump_49 : decode cX8_keepJump 49 = .ok (.iconst 1, 1) := by decide +kernel
theorem dX8_keepJump_50 : decode cX8_keepJump 50 = .ok (.isub, 1) := by decide +kernel
theorem dX8_keepJump_51 : decode cX8_keepJump 51 = .ok (.iastore, 1) := by decide +kernel
theorem dX8_keepJump_52 : decode cX8_keepJump 52 = .ok (.aload_n 0, 1) := by decide +kernel
theorem dX8_keepJump_53 : decode cX8_keepJump 53 = .ok (.getfield 7, 3) := by decide +kernel
theorem dX8_keepJump_56 : decode cX8_keepJump 56 = .ok (.iconst 4, 1) := by decide +kernel
theorem dX8_keepJump_57 : decode cX8_keepJump 57 = .ok (.iconst 2, 1) := by decide +kernel
theorem dX8_keepJump_58 : decode cX8_keepJump 58 = .ok (.aload_n 0, 1) := by decide +kernel
theorem dX8_keepJump_59 : decode cX8_keepJump 59 = .ok (.getfield 7, 3) := by decide +kernel
theorem dX8_keepJump_62 : decode cX8_keepJump 62 = .ok (.iconst 3, 1) := by decide +kernel
theorem dX8_keepJump_63 : decode cX8_keepJump 63 = .ok (.iaload, 1) := by decide +kernel
theorem dX8_keepJump_64 : decode cX8_keepJump 64 = .ok (.imul, 1) := by decide +kernel
theorem dX8_keepJump_65 : decode cX8_keepJump 65 = .ok (.iadd, 1) := by decide +kernel
theorem dX8_keepJump_66 : decode cX8_keepJump 66 = .ok (.aload_n 0, 1) := by decide +kernel
theorem dX8_keepJump_67 : decode cX8_keepJump 67 = .ok (.getfield 7, 3) := by decide +kernel
theorem dX8_keepJump_70 : decode cX8_keepJump 70 = .ok (.iconst 1, 1) := by decide +kernel
theorem dX8_keepJump_71 : decode cX8_keepJump 71 = .ok (.iaload, 1) := by decide +kernel
theorem dX8_keepJump_72 : decode cX8_keepJump 72 = .ok (.iastore, 1) := by decide +kernel
theorem dX8_keepJump_73 : decode cX8_keepJump 73 = .ok (.aload_n 0, 1) := by decide +kernel
theorem dX8_keepJump_74 : decode cX8_keepJump 74 = .ok (.getfield 7, 3) := by decide +kernel
theorem dX8_keepJump_77 : decode cX8_keepJump 77 = .ok (.iconst 4, 1) := by decide +kernel
theorem dX8_keepJump_78 : decode cX8_keepJump 78 = .ok (.iconst 2, 1) := by decide +kernel
theorem dX8_keepJump_79 : decode cX8_keepJump 79 = .ok (.aload_n 0, 1) := by decide +kernel
theorem dX8_keepJump_80 : decode cX8_keepJump 80 = .ok (.getfield 7, 3) := by decide +kernel
theorem dX8_keepJump_83 : decode cX8_keepJump 83 = .ok (.iconst 3, 1) := by decide +kernel
theorem dX8_keepJump_84 : decode cX8_keepJump 84 = .ok (.iaload, 1) := by decide +kernel
theorem dX8_keepJump_85 : decode cX8_keepJump 85 = .ok (.imul, 1) := by decide +kernel
theorem dX8_keepJump_86 : decode cX8_keepJump 86 = .ok (.iadd, 1) := by decide +kernel
theorem dX8_keepJump_87 : decode cX8_keepJump 87 = .ok (.iconst 1, 1) := by decide +kernel
theorem dX8_keepJump_88 : decode cX8_keepJump 88 = .ok (.iadd, 1) := by decide +kernel
theorem dX8_keepJump_89 : decode cX8_keepJump 89 = .ok (.aload_n 0, 1) := by decide +kernel
theorem dX8_keepJump_90 : decode cX8_keepJump 90 = .ok (.getfield 7, 3) := by decide +kernel
theorem dX8_keepJump_93 : decode cX8_keepJump 93 = .ok (.iconst 2, 1) := by decide +kernel
theorem dX8_keepJump_94 : decode cX8_keepJump 94 = .ok (.iaload, 1) := by decide +kernel
theorem dX8_keepJump_95 : decode cX8_keepJump 95 = .ok (.iastore, 1) := by decide +kernel
theorem dX8_keepJump_96 : decode cX8_keepJump 96 = .ok (.aload_n 0, 1) := by decide +kernel
theorem dX8_keepJump_97 : decode cX8_keepJump 97 = .ok (.getfield 7, 3) := by decide +kernel
theorem dX8_keepJump_100 : decode cX8_keepJump 100 = .ok (.iconst 3, 1) := by decide +kernel
theorem dX8_keepJump_101 : decode cX8_keepJump 101 = .ok (.dup2, 1) := by decide +kernel
theorem dX8_keepJump_102 : decode cX8_keepJump 102 = .ok (.iaload, 1) := by decide +kernel
theorem dX8_keepJump_103 : decode cX8_keepJump 103 = .ok (.iconst 1, 1) := by decide +kernel
theorem dX8_keepJump_104 : decode cX8_keepJump 104 = .ok (.iadd, 1) := by decide +kernel
theorem dX8_keepJump_105 : decode cX8_keepJump 105 = .ok (.iastore, 1) := by decide +kernel
theorem dX8_keepJump_106 : decode cX8_keepJump 106 = .ok (.return_, 1) := by decide +kernel
theorem dX8_go_0 : decode cX8_go 0 = .ok (.aload_n 0, 1) := by decide +kernel
theorem dX8_go_1 : decode cX8_go 1 = .ok (.aload_n 0, 1) := by decide +kernel
theorem dX8_go_2 : decode cX8_go 2 = .ok (.iload_n 1, 1) := by decide +kernel
theorem dX8_go_3 : decode cX8_go 3 = .ok (.iload_n 2, 1) := by decide +kernel
theorem dX8_go_4 : decode cX8_go 4 = .ok (.invokevirtual 238, 3) := by decide +kernel
theorem dX8_go_7 : decode cX8_go 7 = .ok (.ifCond .eq 7, 3) := by decide +kernel
theorem dX8_go_10 : decode cX8_go 10 = .ok (.iconst 0, 1) := by decide +kernel
theorem dX8_go_11 : decode cX8_go 11 = .ok (.goto 4, 3) := by decide +kernel
theorem dX8_go_14 : decode cX8_go 14 = .ok (.iconst 1, 1) := by decide +kernel
theorem dX8_go_15 : decode cX8_go 15 = .ok (.putfield 47, 3) := by decide +kernel
theorem dX8_go_18 : decode cX8_go 18 = .ok (.aload_n 0, 1) := by decide +kernel
theorem dX8_go_19 : decode cX8_go 19 = .ok (.getfield 47, 3) := by decide +kernel
theorem dX8_go_22 : decode cX8_go 22 = .ok (.ifCond .le 5, 3) := by decide +kernel
theorem dX8_go_25 : decode cX8_go 25 = .ok (.iconst 0, 1) := by decide +kernel
theorem dX8_go_26 : decode cX8_go 26 = .ok (.ireturn, 1) := by decide +kernel
theorem dX8_go_27 : decode cX8_go 27 = .ok (.aload_n 0, 1) := by decide +kernel
theorem dX8_go_28 : decode cX8_go 28 = .ok (.invokevirtual 244, 3) := by decide +kernel
theorem dX8_go_31 : decode cX8_go 31 = .ok (.aload_n 0, 1) := by decide +kernel
theorem dX8_go_32 : decode cX8_go 32 = .ok (.iload_n 1, 1) := by decide +kernel
theorem dX8_go_33 : decode cX8_go 33 = .ok (.iload_n 2, 1) := by decide +kernel
theorem dX8_go_34 : decode cX8_go 34 = .ok (.invokevirtual 247, 3) := by decide +kernel
theorem dX8_go_37 : decode cX8_go 37 = .ok (.aload_n 0, 1) := by decide +kernel
theorem dX8_go_38 : decode cX8_go 38 = .ok (.invokevirtual 189, 3) := by decide +kernel
theorem dX8_go_41 : decode cX8_go 41 = .ok (.aload_n 0, 1) := by decide +kernel
theorem dX8_go_42 : decode cX8_go 42 = .ok (.invokevirtual 250, 3) := by decide +kernel
theorem dX8_go_45 : decode cX8_go 45 = .ok (.ireturn, 1) := by decide +kernel
theorem dX8_turn_0 : decode cX8_turn 0 = .ok (.aload_n 0, 1) := by decide +kernel
theorem dX8_turn_1 : decode cX8_turn 1 = .ok (.iconst 0, 1) := by decide +kernel
theorem dX8_turn_2 : decode cX8_turn 2 = .ok (.putfield 47, 3) := by decide +kernel
theorem dX8_turn_5 : decode cX8_turn 5 = .ok (.aload_n 0, 1) := by decide +kernel
theorem dX8_turn_6 : decode cX8_turn 6 = .ok (.invokevirtual 189, 3) := by decide +kernel
theorem dX8_turn_9 : decode cX8_turn 9 = .ok (.aload_n 0, 1) := by decide +kernel
theorem dX8_turn_10 : decode cX8_turn 10 = .ok (.invokevirtual 250, 3) := by decide +kernel
theorem dX8_turn_13 : decode cX8_turn 13 = .ok (.iload_n 1, 1) := by decide +kernel
theorem dX8_turn_14 : decode cX8_turn 14 = .ok (.ifCond .eq 7, 3) := by decide +kernel
theorem dX8_turn_17 : decode cX8_turn 17 = .ok (.iconst 1, 1) := by decide +kernel
theorem dX8_turn_18 : decode cX8_turn 18 = .ok (.goto 4, 3) := by decide +kernel
theorem dX8_turn_21 : decode cX8_turn 21 = .ok (.iconst (-1), 1) := by decide +kernel
theorem dX8_turn_22 : decode cX8_turn 22 = .ok (.iadd, 1) := by decide +kernel
theorem dX8_turn_23 : decode cX8_turn 23 = .ok (.istore_n 2, 1) := by decide +kernel
theorem dX8_turn_24 : decode cX8_turn 24 = .ok (.iload_n 2, 1) := by decide +kernel
theorem dX8_turn_25 : decode cX8_turn 25 = .ok (.iconst 0, 1) := by decide +kernel
theorem dX8_turn_26 : decode cX8_turn 26 = .ok (.aload_n 0, 1) := by decide +kernel
theorem dX8_turn_27 : decode cX8_turn 27 = .ok (.getfield 170, 3) := by decide +kernel
theorem dX8_turn_30 : decode cX8_turn 30 = .ok (.iconst 1, 1) := by decide +kernel
theorem dX8_turn_31 : decode cX8_turn 31 = .ok (.isub, 1) := by decide +kernel
theorem dX8_turn_32 : decode cX8_turn 32 = .ok (.invokestatic 50, 3) := by decide +kernel
theorem dX8_turn_35 : decode cX8_turn 35 = .ok (.ifCond .ne 5, 3) := by decide +kernel
theorem dX8_turn_38 : decode cX8_turn 38 = .ok (.iconst (-1), 1) := by decide +kernel
theorem dX8_turn_39 : decode cX8_turn 39 = .ok (.ireturn, 1) := by decide +kernel
theorem dX8_turn_40 : decode cX8_turn 40 = .ok (.aload_n 0, 1) := by decide +kernel
theorem dX8_turn_41 : decode cX8_turn 41 = .ok (.aload_n 0, 1) := by decide +kernel
theorem dX8_turn_42 : decode cX8_turn 42 = .ok (.getfield 35, 3) := by decide +kernel
theorem dX8_turn_45 : decode cX8_turn 45 = .ok (.aload_n 0, 1) := by decide +kernel
theorem dX8_turn_46 : decode cX8_turn 46 = .ok (.getfield 44, 3) := by decide +kernel
theorem dX8_turn_49 : decode cX8_turn 49 = .ok (.iload_n 2, 1) := by decide +kernel
theorem dX8_turn_50 : decode cX8_turn 50 = .ok (.iaload, 1) := by decide +kernel
theorem dX8_turn_51 : decode cX8_turn 51 = .ok (.iaload, 1) := by decide +kernel
theorem dX8_turn_52 : decode cX8_turn 52 = .ok (.aload_n 0, 1) := by decide +kernel
theorem dX8_turn_53 : decode cX8_turn 53 = .ok (.getfield 38, 3) := by decide +kernel
theorem dX8_turn_56 : decode cX8_turn 56 = .ok (.aload_n 0, 1) := by decide +kernel
theorem dX8_turn_57 : decode cX8_turn 57 = .ok (.getfield 44, 3) := by decide +kernel
theorem dX8_turn_60 : decode cX8_turn 60 = .ok (.iload_n 2, 1) := by decide +kernel
theorem dX8_turn_61 : decode cX8_turn 61 = .ok (.iaload, 1) := by decide +kernel
theorem dX8_turn_62 : decode cX8_turn 62 = .ok (.iaload, 1) := by decide +kernel
theorem dX8_turn_63 : decode cX8_turn 63 = .ok (.invokevirtual 247, 3) := by decide +kernel
theorem dX8_turn_66 : decode cX8_turn 66 = .ok (.iload_n 2, 1) := by decide +kernel
theorem dX8_turn_67 : decode cX8_turn 67 = .ok (.ireturn, 1) := by decide +kernel
theorem dX8_back_0 : decode cX8_back 0 = .ok (.aload_n 0, 1) := by decide +kernel
theorem dX8_back_1 : decode cX8_back 1 = .ok (.aload_n 0, 1) := by decide +kernel
theorem dX8_back_2 : decode cX8_back 2 = .ok (.getfield 7, 3) := by decide +kernel
theorem dX8_back_5 : decode cX8_back 5 = .ok (.iconst 3, 1) := by decide +kernel
theorem dX8_back_6 : decode cX8_back 6 = .ok (.iaload, 1) := by decide +kernel
theorem dX8_back_7 : decode cX8_back 7 = .ok (.ifCond .le 7, 3) := by decide +kernel
theorem dX8_back_10 : decode cX8_back 10 = .ok (.iconst 0, 1) := by decide +kernel
theorem dX8_back_11 : decode cX8_back 11 = .ok (.goto 4, 3) := by decide +kernel
theorem dX8_back_14 : decode cX8_back 14 = .ok (.iconst 1, 1) := by decide +kernel
theorem dX8_back_15 : decode cX8_back 15 = .ok (.putfield 47, 3) := by decide +kernel
theorem dX8_back_18 : decode cX8_back 18 = .ok (.aload_n 0, 1) := by decide +kernel
theorem dX8_back_19 : decode cX8_back 19 = .ok (.getfield 47, 3) := by decide +kernel
theorem dX8_back_22 : decode cX8_back 22 = .ok (.ifCond .le 5, 3) := by decide +kernel
theorem dX8_back_25 : decode cX8_back 25 = .ok (.iconst 0, 1) := by decide +kernel
theorem dX8_back_26 : decode cX8_back 26 = .ok (.ireturn, 1) := by decide +kernel
theorem dX8_back_27 : decode cX8_back 27 = .ok (.aload_n 0, 1) := by decide +kernel
theorem dX8_back_28 : decode cX8_back 28 = .ok (.getfield 7, 3) := by decide +kernel
theorem dX8_back_31 : decode cX8_back 31 = .ok (.iconst 3, 1) := by decide +kernel
theorem dX8_back_32 : decode cX8_back 32 = .ok (.dup2, 1) := by decide +kernel
theorem dX8_back_33 : decode cX8_back 33 = .ok (.iaload, 1) := by decide +kernel
theorem dX8_back_34 : decode cX8_back 34 = .ok (.iconst 1, 1) := by decide +kernel
theorem dX8_back_35 : decode cX8_back 35 = .ok (.isub, 1) := by decide +kernel
theorem dX8_back_36 : decode cX8_back 36 = .ok (.iastore, 1) := by decide +kernel
theorem dX8_back_37 : decode cX8_back 37 = .ok (.aload_n 0, 1) := by decide +kernel
theorem dX8_back_38 : decode cX8_back 38 = .ok (.aload_n 0, 1) := by decide +kernel
theorem dX8_back_39 : decode cX8_back 39 = .ok (.getfield 7, 3) := by decide +kernel
theorem dX8_back_42 : decode cX8_back 42 = .ok (.iconst 4, 1) := by decide +kernel
theorem dX8_back_43 : decode cX8_back 43 = .ok (.iconst 2, 1) := by decide +kernel
theorem dX8_back_44 : decode cX8_back 44 = .ok (.aload_n 0, 1) := by decide +kernel
theorem dX8_back_45 : decode cX8_back 45 = .ok (.getfield 7, 3) := by decide +kernel
theorem dX8_back_48 : decode cX8_back 48 = .ok (.iconst 3, 1) := by decide +kernel
theorem dX8_back_49 : decode cX8_back 49 = .ok (.iaload, 1) := by decide +kernel
theorem dX8_back_50 : decode cX8_back 50 = .ok (.imul, 1) := by decide +kernel
theorem dX8_back_51 : decode cX8_back 51 = .ok (.iadd, 1) := by decide +kernel
theorem dX8_back_52 : decode cX8_back 52 = .ok (.iaload, 1) := by decide +kernel
theorem dX8_back_53 : decode cX8_back 53 = .ok (.aload_n 0, 1) := by decide +kernel
theorem dX8_back_54 : decode cX8_back 54 = .ok (.getfield 7, 3) := by decide +kernel
theorem dX8_back_57 : decode cX8_back 57 = .ok (.iconst 4, 1) := by decide +kernel
theorem dX8_back_58 : decode cX8_back 58 = .ok (.iconst 2, 1) := by decide +kernel
theorem dX8_back_59 : decode cX8_back 59 = .ok (.aload_n 0, 1) := by decide +kernel
theorem dX8_back_60 : decode cX8_back 60 = .ok (.getfield 7, 3) := by decide +kernel
theorem dX8_back_63 : decode cX8_back 63 = .ok (.iconst 3, 1) := by decide +kernel
theorem dX8_back_64 : decode cX8_back 64 = .ok (.iaload, 1) := by decide +kernel
theorem dX8_back_65 : decode cX8_back 65 = .ok (.imul, 1) := by decide +kernel
theorem dX8_back_66 : decode cX8_back 66 = .ok (.iadd, 1) := by decide +kernel
theorem dX8_back_67 : decode cX8_back 67 = .ok (.iconst 1, 1) := by decide +kernel
theorem dX8_back_68 : decode cX8_back 68 = .ok (.iadd, 1) := by decide +kernel
theorem dX8_back_69 : decode cX8_back 69 = .ok (.iaload, 1) := by decide +kernel
theorem dX8_back_70 : decode cX8_back 70 = .ok (.invokevirtual 247, 3) := by decide +kernel
theorem dX8_back_73 : decode cX8_back 73 = .ok (.aload_n 0, 1) := by decide +kernel
theorem dX8_back_74 : decode cX8_back 74 = .ok (.invokevirtual 189, 3) := by decide +kernel
theorem dX8_back_77 : decode cX8_back 77 = .ok (.aload_n 0, 1) := by decide +kernel
theorem dX8_back_78 : decode cX8_back 78 = .ok (.invokevirtual 250, 3) := by decide +kernel
theorem dX8_back_81 : decode cX8_back 81 = .ok (.ireturn, 1) := by decide +kernel
theorem dX8_isWanted_0 : decode cX8_isWanted 0 = .ok (.iconst 0, 1) := by decide +kernel
theorem dX8_isWanted_1 : decode cX8_isWanted 1 = .ok (.istore_n 3, 1) := by decide +kernel
theorem dX8_isWanted_2 : decode cX8_isWanted 2 = .ok (.iconst 1, 1) := by decide +kernel
theorem dX8_isWanted_3 : decode cX8_isWanted 3 = .ok (.istore 4, 2) := by decide +kernel
theorem dX8_isWanted_5 : decode cX8_isWanted 5 = .ok (.iload 4, 2) := by decide +kernel
theorem dX8_isWanted_7 : decode cX8_isWanted 7 = .ok (.ifCond .eq 67, 3) := by decide +kernel
theorem dX8_isWanted_10 : decode cX8_isWanted 10 = .ok (.iload_n 3, 1) := by decide +kernel
theorem dX8_isWanted_11 : decode cX8_isWanted 11 = .ok (.aload_n 0, 1) := by decide +kernel
theorem dX8_isWanted_12 : decode cX8_isWanted 12 = .ok (.getfield 54, 3) := by decide +kernel
theorem dX8_isWanted_15 : decode cX8_isWanted 15 = .ok (.if_icmp .ge 59, 3) := by decide +kernel
theorem dX8_isWanted_18 : decode cX8_isWanted 18 = .ok (.aload_n 0, 1) := by decide +kernel
theorem dX8_isWanted_19 : decode cX8_isWanted 19 = .ok (.getfield 32, 3) := by decide +kernel
theorem dX8_isWanted_22 : decode cX8_isWanted 22 = .ok (.iload_n 3, 1) := by decide +kernel
theorem dX8_isWanted_23 : decode cX8_isWanted 23 = .ok (.iaload, 1) := by decide +kernel
theorem dX8_isWanted_24 : decode cX8_isWanted 24 = .ok (.bipush 32, 2) := by decide +kernel
theorem dX8_isWanted_26 : decode cX8_isWanted 26 = .ok (.if_icmp .eq 48, 3) := by decide +kernel
theorem dX8_isWanted_29 : decode cX8_isWanted 29 = .ok (.iload_n 2, 1) := by decide +kernel
theorem dX8_isWanted_30 : decode cX8_isWanted 30 = .ok (.iload_n 3, 1) := by decide +kernel
theorem dX8_isWanted_31 : decode cX8_isWanted 31 = .ok (.iadd, 1) := by decide +kernel
theorem dX8_isWanted_32 : decode cX8_isWanted 32 = .ok (.aload_n 0, 1) := by decide +kernel
theorem dX8_isWanted_33 : decode cX8_isWanted 33 = .ok (.getfield 7, 3) := by decide +kernel
theorem dX8_isWanted_36 : decode cX8_isWanted 36 = .ok (.bipush 85, 2) := by decide +kernel
theorem dX8_isWanted_38 : decode cX8_isWanted 38 = .ok (.iload_n 1, 1) := by decide +kernel
theorem dX8_isWanted_39 : decode cX8_isWanted 39 = .ok (.iadd, 1) := by decide +kernel
theorem dX8_isWanted_40 : decode cX8_isWanted 40 = .ok (.iaload, 1) := by decide +kernel
theorem dX8_isWanted_41 : decode cX8_isWanted 41 = .ok (.if_icmp .ge 24, 3) := by decide +kernel
theorem dX8_isWanted_44 : decode cX8_isWanted 44 = .ok (.aload_n 0, 1) := by decide +kernel
theorem dX8_isWanted_45 : decode cX8_isWanted 45 = .ok (.iload_n 1, 1) := by decide +kernel
theorem dX8_isWanted_46 : decode cX8_isWanted 46 = .ok (.iload_n 2, 1) := by decide +kernel
theorem dX8_isWanted_47 : decode cX8_isWanted 47 = .ok (.iload_n 3, 1) := by decide +kernel
theorem dX8_isWanted_48 : decode cX8_isWanted 48 = .ok (.iadd, 1) := by decide +kernel
theorem dX8_isWanted_49 : decode cX8_isWanted 49 = .ok (.invokevirtual 112, 3) := by decide +kernel
theorem dX8_isWanted_52 : decode cX8_isWanted 52 = .ok (.aload_n 0, 1) := by decide +kernel
theorem dX8_isWanted_53 : decode cX8_isWanted 53 = .ok (.getfield 32, 3) := by decide +kernel
theorem dX8_isWanted_56 : decode cX8_isWanted 56 = .ok (.iload_n 3, 1) := by decide +kernel
theorem dX8_isWanted_57 : decode cX8_isWanted 57 = .ok (.iaload, 1) := by decide +kernel
theorem dX8_isWanted_58 : decode cX8_isWanted 58 = .ok (.if_icmp .ne 7, 3) := by decide +kernel
theorem dX8_isWanted_61 : decode cX8_isWanted 61 = .ok (.iconst 1, 1) := by decide +kernel
theorem dX8_isWanted_62 : decode cX8_isWanted 62 = .ok (.goto 4, 3) := by decide +kernel
theorem dX8_isWanted_65 : decode cX8_isWanted 65 = .ok (.iconst 0, 1) := by decide +kernel
theorem dX8_isWanted_66 : decode cX8_isWanted 66 = .ok (.istore 4, 2) := by decide +kernel
theorem dX8_isWanted_68 : decode cX8_isWanted 68 = .ok (.iinc 3 1, 3) := by decide +kernel
theorem dX8_isWanted_71 : decode cX8_isWanted 71 = .ok (.goto (-66), 3) := by decide +kernel
theorem dX8_isWanted_74 : decode cX8_isWanted 74 = .ok (.iload 4, 2) := by decide +kernel
theorem dX8_isWanted_76 : decode cX8_isWanted 76 = .ok (.ifCond .eq 19, 3) := by decide +kernel
theorem dX8_isWanted_79 : decode cX8_isWanted 79 = .ok (.aload_n 0, 1) := by decide +kernel
theorem dX8_isWanted_80 : decode cX8_isWanted 80 = .ok (.iload_n 1, 1) := by decide +kernel
theorem dX8_isWanted_81 : decode cX8_isWanted 81 = .ok (.iload_n 2, 1) := by decide +kernel
theorem dX8_isWanted_82 : decode cX8_isWanted 82 = .ok (.invokevirtual 116, 3) := by decide +kernel
theorem dX8_isWanted_85 : decode cX8_isWanted 85 = .ok (.iload_n 2, 1) := by decide +kernel
theorem dX8_isWanted_86 : decode cX8_isWanted 86 = .ok (.iload_n 3, 1) := by decide +kernel
theorem dX8_isWanted_87 : decode cX8_isWanted 87 = .ok (.iadd, 1) := by decide +kernel
theorem dX8_isWanted_88 : decode cX8_isWanted 88 = .ok (.if_icmp .ne 7, 3) := by decide +kernel
theorem dX8_isWanted_91 : decode cX8_isWanted 91 = .ok (.iconst 1, 1) := by decide +kernel
theorem dX8_isWanted_92 : decode cX8_isWanted 92 = .ok (.goto 4, 3) := by decide +kernel
theorem dX8_isWanted_95 : decode cX8_isWanted 95 = .ok (.iconst 0, 1) := by decide +kernel
theorem dX8_isWanted_96 : decode cX8_isWanted 96 = .ok (.ireturn, 1) := by decide +kernel
theorem dX8_findNow_0 : decode cX8_findNow 0 = .ok (.sipush 1000, 3) := by decide +kernel
theorem dX8_findNow_3 : decode cX8_findNow 3 = .ok (.aload_n 0, 1) := by decide +kernel
theorem dX8_findNow_4 : decode cX8_findNow 4 = .ok (.getfield 7, 3) := by decide +kernel
theorem dX8_findNow_7 : decode cX8_findNow 7 = .ok (.iconst 1, 1) := by decide +kernel
theorem dX8_findNow_8 : decode cX8_findNow 8 = .ok (.iaload, 1) := by decide +kernel
theorem dX8_findNow_9 : decode cX8_findNow 9 = .ok (.imul, 1) := by decide +kernel
theorem dX8_findNow_10 : decode cX8_findNow 10 = .ok (.aload_n 0, 1) := by decide +kernel
theorem dX8_findNow_11 : decode cX8_findNow 11 = .ok (.getfield 7, 3) := by decide +kernel
theorem dX8_findNow_14 : decode cX8_findNow 14 = .ok (.iconst 2, 1) := by decide +kernel
theorem dX8_findNow_15 : decode cX8_findNow 15 = .ok (.iaload, 1) := by decide +kernel
theorem dX8_findNow_16 : decode cX8_findNow 16 = .ok (.iadd, 1) := by decide +kernel
theorem dX8_findNow_17 : decode cX8_findNow 17 = .ok (.istore_n 2, 1) := by decide +kernel
theorem dX8_findNow_18 : decode cX8_findNow 18 = .ok (.iconst (-1), 1) := by decide +kernel
theorem dX8_findNow_19 : decode cX8_findNow 19 = .ok (.istore_n 3, 1) := by decide +kernel
theorem dX8_findNow_20 : decode cX8_findNow 20 = .ok (.iconst 0, 1) := by decide +kernel
theorem dX8_findNow_21 : decode cX8_findNow 21 = .ok (.istore 4, 2) := by decide +kernel
theorem dX8_findNow_23 : decode cX8_findNow 23 = .ok (.iload 4, 2) := by decide +kernel
theorem dX8_findNow_25 : decode cX8_findNow 25 = .ok (.aload_n 0, 1) := by decide +kernel
theorem dX8_findNow_26 : decode cX8_findNow 26 = .ok (.getfield 7, 3) := by decide +kernel
theorem dX8_findNow_29 : decode cX8_findNow 29 = .ok (.iconst 0, 1) := by decide +kernel
theorem dX8_findNow_30 : decode cX8_findNow 30 = .ok (.iaload, 1) := by decide +kernel
theorem dX8_findNow_31 : decode cX8_findNow 31 = .ok (.if_icmp .ge 107, 3) := by decide +kernel
theorem dX8_findNow_34 : decode cX8_findNow 34 = .ok (.iconst 0, 1) := by decide +kernel
theorem dX8_findNow_35 : decode cX8_findNow 35 = .ok (.istore 5, 2) := by decide +kernel
theorem dX8_findNow_37 : decode cX8_findNow 37 = .ok (.iload 5, 2) := by decide +kernel
theorem dX8_findNow_39 : decode cX8_findNow 39 = .ok (.aload_n 0, 1) := by decide +kernel
theorem dX8_findNow_40 : decode cX8_findNow 40 = .ok (.getfield 7, 3) := by decide +kernel
theorem dX8_findNow_43 : decode cX8_findNow 43 = .ok (.bipush 85, 2) := by decide +kernel
theorem dX8_findNow_45 : decode cX8_findNow 45 = .ok (.iload 4, 2) := by decide +kernel
theorem dX8_findNow_47 : decode cX8_findNow 47 = .ok (.iadd, 1) := by decide +kernel
theorem dX8_findNow_48 : decode cX8_findNow 48 = .ok (.iaload, 1) := by decide +kernel
theorem dX8_findNow_49 : decode cX8_findNow 49 = .ok (.if_icmp .ge 83, 3) := by decide +kernel
theorem dX8_findNow_52 : decode cX8_findNow 52 = .ok (.sipush 1000, 3) := by decide +kernel
theorem dX8_findNow_55 : decode cX8_findNow 55 = .ok (.iload 4, 2) := by decide +kernel
theorem dX8_findNow_57 : decode cX8_findNow 57 = .ok (.imul, 1) := by decide +kernel
theorem dX8_findNow_58 : decode cX8_findNow 58 = .ok (.iload 5, 2) := by decide +kernel
theorem dX8_findNow_60 : decode cX8_findNow 60 = .ok (.iadd, 1) := by decide +kernel
theorem dX8_findNow_61 : decode cX8_findNow 61 = .ok (.istore 6, 2) := by decide +kernel
theorem dX8_findNow_63 : decode cX8_findNow 63 = .ok (.aload_n 0, 1) := by decide +kernel
theorem dX8_findNow_64 : decode cX8_findNow 64 = .ok (.iload 4, 2) := by decide +kernel
theorem dX8_findNow_66 : decode cX8_findNow 66 = .ok (.iload 5, 2) := by decide +kernel
theorem dX8_findNow_68 : decode cX8_findNow 68 = .ok (.invokevirtual 254, 3) := by decide +kernel
theorem dX8_findNow_71 : decode cX8_findNow 71 = .ok (.ifCond .eq 31, 3) := by decide +kernel
theorem dX8_findNow_74 : decode cX8_findNow 74 = .ok (.iload_n 1, 1) := by decide +kernel
theorem dX8_findNow_75 : decode cX8_findNow 75 = .ok (.ifCond .eq 17, 3) := by decide +kernel
theorem dX8_findNow_78 : decode cX8_findNow 78 = .ok (.iload 6, 2) := by decide +kernel
theorem dX8_findNow_80 : decode cX8_findNow 80 = .ok (.iload_n 2, 1) := by decide +kernel
theorem dX8_findNow_81 : decode cX8_findNow 81 = .ok (.if_icmp .le 21, 3) := by decide +kernel
theorem dX8_findNow_84 : decode cX8_findNow 84 = .ok (.iload_n 3, 1) := by decide +kernel
theorem dX8_findNow_85 : decode cX8_findNow 85 = .ok (.iconst (-1), 1) := by decide +kernel
theorem dX8_findNow_86 : decode cX8_findNow 86 = .ok (.if_icmp .ne 16, 3) := by decide +kernel
theorem dX8_findNow_89 : decode cX8_findNow 89 = .ok (.goto 9, 3) := by decide +kernel
theorem dX8_findNow_92 : decode cX8_findNow 92 = .ok (.iload 6, 2) := by decide +kernel
theorem dX8_findNow_94 : decode cX8_findNow 94 = .ok (.iload_n 2, 1) := by decide +kernel
theorem dX8_findNow_95 : decode cX8_findNow 95 = .ok (.if_icmp .ge 7, 3) := by decide +kernel
theorem dX8_findNow_98 : decode cX8_findNow 98 = .ok (.iconst 1, 1) := by decide +kernel
theorem dX8_findNow_99 : decode cX8_findNow 99 = .ok (.goto 4, 3) := by decide +kernel
theorem dX8_findNow_102 : decode cX8_findNow 102 = .ok (.iconst 0, 1) := by decide +kernel
theorem dX8_findNow_103 : decode cX8_findNow 103 = .ok (.istore 7, 2) := by decide +kernel
theorem dX8_findNow_105 : decode cX8_findNow 105 = .ok (.iload 7, 2) := by decide +kernel
theorem dX8_findNow_107 : decode cX8_findNow 107 = .ok (.ifCond .eq 8, 3) := by decide +kernel
theorem dX8_findNow_110 : decode cX8_findNow 110 = .ok (.iload 6, 2) := by decide +kernel
theorem dX8_findNow_112 : decode cX8_findNow 112 = .ok (.goto 4, 3) := by decide +kernel
theorem dX8_findNow_115 : decode cX8_findNow 115 = .ok (.iload_n 3, 1) := by decide +kernel
theorem dX8_findNow_116 : decode cX8_findNow 116 = .ok (.istore_n 3, 1) := by decide +kernel
theorem dX8_findNow_117 : decode cX8_findNow 117 = .ok (.aload_n 0, 1) := by decide +kernel
theorem dX8_findNow_118 : decode cX8_findNow 118 = .ok (.iload 4, 2) := by decide +kernel
theorem dX8_findNow_120 : decode cX8_findNow 120 = .ok (.iload 5, 2) := by decide +kernel
theorem dX8_findNow_122 : decode cX8_findNow 122 = .ok (.invokevirtual 116, 3) := by decide +kernel
theorem dX8_findNow_125 : decode cX8_findNow 125 = .ok (.iconst 1, 1) := by decide +kernel
theorem dX8_findNow_126 : decode cX8_findNow 126 = .ok (.iadd, 1) := by decide +kernel
theorem dX8_findNow_127 : decode cX8_findNow 127 = .ok (.istore 5, 2) := by decide +kernel
theorem dX8_findNow_129 : decode cX8_findNow 129 = .ok (.goto (-92), 3) := by decide +kernel
theorem dX8_findNow_132 : decode cX8_findNow 132 = .ok (.iinc 4 1, 3) := by decide +kernel
theorem dX8_findNow_135 : decode cX8_findNow 135 = .ok (.goto (-112), 3) := by decide +kernel
theorem dX8_findNow_138 : decode cX8_findNow 138 = .ok (.iload_n 3, 1) := by decide +kernel
theorem dX8_findNow_139 : decode cX8_findNow 139 = .ok (.ireturn, 1) := by decide +kernel
theorem dX8_find_0 : decode cX8_find 0 = .ok (.aload_n 0, 1) := by decide +kernel
theorem dX8_find_1 : decode cX8_find 1 = .ok (.aload_n 0, 1) := by decide +kernel
theorem dX8_find_2 : decode cX8_find 2 = .ok (.iconst 0, 1) := by decide +kernel
theorem dX8_find_3 : decode cX8_find 3 = .ok (.invokevirtual 96, 3) := by decide +kernel
theorem dX8_find_6 : decode cX8_find 6 = .ok (.ifCond .eq 7, 3) := by decide +kernel
theorem dX8_find_9 : decode cX8_find 9 = .ok (.iconst 0, 1) := by decide +kernel
theorem dX8_find_10 : decode cX8_find 10 = .ok (.goto 4, 3) := by decide +kernel
theorem dX8_find_13 : decode cX8_find 13 = .ok (.iconst 1, 1) := by decide +kernel
theorem dX8_find_14 : decode cX8_find 14 = .ok (.putfield 47, 3) := by decide +kernel
theorem dX8_find_17 : decode cX8_find 17 = .ok (.aload_n 0, 1) := by decide +kernel
theorem dX8_find_18 : decode cX8_find 18 = .ok (.getfield 47, 3) := by decide +kernel
theorem dX8_find_21 : decode cX8_find 21 = .ok (.ifCond .le 7, 3) := by decide +kernel
theorem dX8_find_24 : decode cX8_find 24 = .ok (.iconst 0, 1) := by decide +kernel
theorem dX8_find_25 : decode cX8_find 25 = .ok (.goto 8, 3) := by decide +kernel
theorem dX8_find_28 : decode cX8_find 28 = .ok (.aload_n 0, 1) := by decide +kernel
theorem dX8_find_29 : decode cX8_find 29 = .ok (.iload_n 1, 1) := by decide +kernel
theorem dX8_find_30 : decode cX8_find 30 = .ok (.invokevirtual 257, 3) := by decide +kernel
theorem dX8_find_33 : decode cX8_find 33 = .ok (.ireturn, 1) := by decide +kernel
theorem dX8_allWords_0 : decode cX8_allWords 0 = .ok (.iconst 0, 1) := by decide +kernel
theorem dX8_allWords_1 : decode cX8_allWords 1 = .ok (.istore_n 1, 1) := by decide +kernel
theorem dX8_allWords_2 : decode cX8_allWords 2 = .ok (.iconst 0, 1) := by decide +kernel
theorem dX8_allWords_3 : decode cX8_allWords 3 = .ok (.istore_n 2, 1) := by decide +kernel
theorem dX8_allWords_4 : decode cX8_allWords 4 = .ok (.iload_n 2, 1) := by decide +kernel
theorem dX8_allWords_5 : decode cX8_allWords 5 = .ok (.aload_n 0, 1) := by decide +kernel
theorem dX8_allWords_6 : decode cX8_allWords 6 = .ok (.getfield 7, 3) := by decide +kernel
theorem dX8_allWords_9 : decode cX8_allWords 9 = .ok (.iconst 0, 1) := by decide +kernel
theorem dX8_allWords_10 : decode cX8_allWords 10 = .ok (.iaload, 1) := by decide +kernel
theorem dX8_allWords_11 : decode cX8_allWords 11 = .ok (.if_icmp .ge 17, 3) := by decide +kernel
theorem dX8_allWords_14 : decode cX8_allWords 14 = .ok (.iload_n 1, 1) := by decide +kernel
theorem dX8_allWords_15 : decode cX8_allWords 15 = .ok (.aload_n 0, 1) := by decide +kernel
theorem dX8_allWords_16 : decode cX8_allWords 16 = .ok (.iload_n 2, 1) := by decide +kernel
theorem dX8_allWords_17 : decode cX8_allWords 17 = .ok (.invokevirtual 260, 3) := by decide +kernel
theorem dX8_allWords_20 : decode cX8_allWords 20 = .ok (.iadd, 1) := by decide +kernel
theorem dX8_allWords_21 : decode cX8_allWords 21 = .ok (.istore_n 1, 1) := by decide +kernel
theorem dX8_allWords_22 : decode cX8_allWords 22 = .ok (.iinc 2 1, 3) := by decide +kernel
theorem dX8_allWords_25 : decode cX8_allWords 25 = .ok (.goto (-21), 3) := by decide +kernel
theorem dX8_allWords_28 : decode cX8_allWords 28 = .ok (.iload_n 1, 1) := by decide +kernel
theorem dX8_allWords_29 : decode cX8_allWords 29 = .ok (.ireturn, 1) := by decide +kernel
theorem dX8_letters_0 : decode cX8_letters 0 = .ok (.iconst 0, 1) := by decide +kernel
theorem dX8_letters_1 : decode cX8_letters 1 = .ok (.istore_n 2, 1) := by decide +kernel
theorem dX8_letters_2 : decode cX8_letters 2 = .ok (.iconst 0, 1) := by decide +kernel
theorem dX8_letters_3 : decode cX8_letters 3 = .ok (.istore_n 3, 1) := by decide +kernel
theorem dX8_letters_4 : decode cX8_letters 4 = .ok (.iload_n 3, 1) := by decide +kernel
theorem dX8_letters_5 : decode cX8_letters 5 = .ok (.iload_n 1, 1) := by decide +kernel
theorem dX8_letters_6 : decode cX8_letters 6 = .ok (.if_icmp .ge 21, 3) := by decide +kernel
theorem dX8_letters_9 : decode cX8_letters 9 = .ok (.iload_n 2, 1) := by decide +kernel
theorem dX8_letters_10 : decode cX8_letters 10 = .ok (.aload_n 0, 1) := by decide +kernel
theorem dX8_letters_11 : decode cX8_letters 11 = .ok (.getfield 7, 3) := by decide +kernel
theorem dX8_letters_14 : decode cX8_letters 14 = .ok (.bipush 85, 2) := by decide +kernel
theorem dX8_letters_16 : decode cX8_letters 16 = .ok (.iload_n 3, 1) := by decide +kernel
theorem dX8_letters_17 : decode cX8_letters 17 = .ok (.iadd, 1) := by decide +kernel
theorem dX8_letters_18 : decode cX8_letters 18 = .ok (.iaload, 1) := by decide +kernel
theorem dX8_letters_19 : decode cX8_letters 19 = .ok (.iadd, 1) := by decide +kernel
theorem dX8_letters_20 : decode cX8_letters 20 = .ok (.istore_n 2, 1) := by decide +kernel
theorem dX8_letters_21 : decode cX8_letters 21 = .ok (.iinc 3 1, 3) := by decide +kernel
theorem dX8_letters_24 : decode cX8_letters 24 = .ok (.goto (-20), 3) := by decide +kernel
theorem dX8_letters_27 : decode cX8_letters 27 = .ok (.iload_n 2, 1) := by decide +kernel
theorem dX8_letters_28 : decode cX8_letters 28 = .ok (.ireturn, 1) := by decide +kernel
theorem dX8_lost_0 : decode cX8_lost 0 = .ok (.iconst 0, 1) := by decide +kernel
theorem dX8_lost_1 : decode cX8_lost 1 = .ok (.istore_n 1, 1) := by decide +kernel
theorem dX8_lost_2 : decode cX8_lost 2 = .ok (.iconst 0, 1) := by decide +kernel
theorem dX8_lost_3 : decode cX8_lost 3 = .ok (.istore_n 2, 1) := by decide +kernel
theorem dX8_lost_4 : decode cX8_lost 4 = .ok (.iload_n 2, 1) := by decide +kernel
theorem dX8_lost_5 : decode cX8_lost 5 = .ok (.aload_n 0, 1) := by decide +kernel
theorem dX8_lost_6 : decode cX8_lost 6 = .ok (.getfield 7, 3) := by decide +kernel
theorem dX8_lost_9 : decode cX8_lost 9 = .ok (.bipush 14, 2) := by decide +kernel
theorem dX8_lost_11 : decode cX8_lost 11 = .ok (.iaload, 1) := by decide +kernel
theorem dX8_lost_12 : decode cX8_lost 12 = .ok (.if_icmp .ge 25, 3) := by decide +kernel
theorem dX8_lost_15 : decode cX8_lost 15 = .ok (.iload_n 1, 1) := by decide +kernel
theorem dX8_lost_16 : decode cX8_lost 16 = .ok (.aload_n 0, 1) := by decide +kernel
theorem dX8_lost_17 : decode cX8_lost 17 = .ok (.getfield 7, 3) := by decide +kernel
theorem dX8_lost_20 : decode cX8_lost 20 = .ok (.bipush 15, 2) := by decide +kernel
theorem dX8_lost_22 : decode cX8_lost 22 = .ok (.iconst 5, 1) := by decide +kernel
theorem dX8_lost_23 : decode cX8_lost 23 = .ok (.iload_n 2, 1) := by decide +kernel
theorem dX8_lost_24 : decode cX8_lost 24 = .ok (.imul, 1) := by decide +kernel
theorem dX8_lost_25 : decode cX8_lost 25 = .ok (.iadd, 1) := by decide +kernel
theorem dX8_lost_26 : decode cX8_lost 26 = .ok (.iconst 4, 1) := by decide +kernel
theorem dX8_lost_27 : decode cX8_lost 27 = .ok (.iadd, 1) := by decide +kernel
theorem dX8_lost_28 : decode cX8_lost 28 = .ok (.iaload, 1) := by decide +kernel
theorem dX8_lost_29 : decode cX8_lost 29 = .ok (.iadd, 1) := by decide +kernel
theorem dX8_lost_30 : decode cX8_lost 30 = .ok (.istore_n 1, 1) := by decide +kernel
theorem dX8_lost_31 : decode cX8_lost 31 = .ok (.iinc 2 1, 3) := by decide +kernel
theorem dX8_lost_34 : decode cX8_lost 34 = .ok (.goto (-30), 3) := by decide +kernel
theorem dX8_lost_37 : decode cX8_lost 37 = .ok (.iload_n 1, 1) := by decide +kernel
theorem dX8_lost_38 : decode cX8_lost 38 = .ok (.ireturn, 1) := by decide +kernel
theorem dX8_counted_0 : decode cX8_counted 0 = .ok (.iload_n 1, 1) := by decide +kernel
theorem dX8_counted_1 : decode cX8_counted 1 = .ok (.tableswitch 140 0 10 #[59, 66, 71, 82, 87, 92, 97, 115, 123, 128, 135], 59) := by decide +kernel
theorem dX8_counted_60 : decode cX8_counted 60 = .ok (.aload_n 0, 1) := by decide +kernel
theorem dX8_counted_61 : decode cX8_counted 61 = .ok (.getfield 7, 3) := by decide +kernel
theorem dX8_counted_64 : decode cX8_counted 64 = .ok (.iconst 0, 1) := by decide +kernel
theorem dX8_counted_65 : decode cX8_counted 65 = .ok (.iaload, 1) := by decide +kernel
theorem dX8_counted_66 : decode cX8_counted 66 = .ok (.ireturn, 1) := by decide +kernel
theorem dX8_counted_67 : decode cX8_counted 67 = .ok (.aload_n 0, 1) := by decide +kernel
theorem dX8_counted_68 : decode cX8_counted 68 = .ok (.invokevirtual 263, 3) := by decide +kernel
theorem dX8_counted_71 : decode cX8_counted 71 = .ok (.ireturn, 1) := by decide +kernel
theorem dX8_counted_72 : decode cX8_counted 72 = .ok (.aload_n 0, 1) := by decide +kernel
theorem dX8_counted_73 : decode cX8_counted 73 = .ok (.aload_n 0, 1) := by decide +kernel
theorem dX8_counted_74 : decode cX8_counted 74 = .ok (.getfield 7, 3) := by decide +kernel
theorem dX8_counted_77 : decode cX8_counted 77 = .ok (.iconst 0, 1) := by decide +kernel
theorem dX8_counted_78 : decode cX8_counted 78 = .ok (.iaload, 1) := by decide +kernel
theorem dX8_counted_79 : decode cX8_counted 79 = .ok (.invokevirtual 266, 3) := by decide +kernel
theorem dX8_counted_82 : decode cX8_counted 82 = .ok (.ireturn, 1) := by decide +kernel
theorem dX8_counted_83 : decode cX8_counted 83 = .ok (.aload_n 0, 1) := by decide +kernel
theorem dX8_counted_84 : decode cX8_counted 84 = .ok (.getfield 122, 3) := by decide +kernel
theorem dX8_counted_87 : decode cX8_counted 87 = .ok (.ireturn, 1) := by decide +kernel
theorem dX8_counted_88 : decode cX8_counted 88 = .ok (.aload_n 0, 1) := by decide +kernel
theorem dX8_counted_89 : decode cX8_counted 89 = .ok (.getfield 170, 3) := by decide +kernel
theorem dX8_counted_92 : decode cX8_counted 92 = .ok (.ireturn, 1) := by decide +kernel
theorem dX8_counted_93 : decode cX8_counted 93 = .ok (.aload_n 0, 1) := by decide +kernel
theorem dX8_counted_94 : decode cX8_counted 94 = .ok (.invokevirtual 250, 3) := by decide +kernel
theorem dX8_counted_97 : decode cX8_counted 97 = .ok (.ireturn, 1) := by decide +kernel
theorem dX8_counted_98 : decode cX8_counted 98 = .ok (.sipush 1000, 3) := by decide +kernel
theorem dX8_counted_101 : decode cX8_counted 101 = .ok (.aload_n 0, 1) := by decide +kernel
theorem dX8_counted_102 : decode cX8_counted 102 = .ok (.getfield 7, 3) := by decide +kernel
theorem dX8_counted_105 : decode cX8_counted 105 = .ok (.iconst 1, 1) := by decide +kernel
theorem dX8_counted_106 : decode cX8_counted 106 = .ok (.iaload, 1) := by decide +kernel
theorem dX8_counted_107 : decode cX8_counted 107 = .ok (.imul, 1) := by decide +kernel
theorem dX8_counted_108 : decode cX8_counted 108 = .ok (.aload_n 0, 1) := by decide +kernel
theorem dX8_counted_109 : decode cX8_counted 109 = .ok (.getfield 7, 3) := by decide +kernel
theorem dX8_counted_112 : decode cX8_counted 112 = .ok (.iconst 2, 1) := by decide +kernel
theorem dX8_counted_113 : decode cX8_counted 113 = .ok (.iaload, 1) := by decide +kernel
theorem dX8_counted_114 : decode cX8_counted 114 = .ok (.iadd, 1) := by decide +kernel
theorem dX8_counted_115 : decode cX8_counted 115 = .ok (.ireturn, 1) := by decide +kernel
theorem dX8_counted_116 : decode cX8_counted 116 = .ok (.aload_n 0, 1) := by decide +kernel
theorem dX8_counted_117 : decode cX8_counted 117 = .ok (.getfield 7, 3) := by decide +kernel
theorem dX8_counted_120 : decode cX8_counted 120 = .ok (.bipush 14, 2) := by decide +kernel
theorem dX8_counted_122 : decode cX8_counted 122 = .ok (.iaload, 1) := by decide +kernel
theorem dX8_counted_123 : decode cX8_counted 123 = .ok (.ireturn, 1) := by decide +kernel
theorem dX8_counted_124 : decode cX8_counted 124 = .ok (.aload_n 0, 1) := by decide +kernel
theorem dX8_counted_125 : decode cX8_counted 125 = .ok (.invokevirtual 269, 3) := by decide +kernel
theorem dX8_counted_128 : decode cX8_counted 128 = .ok (.ireturn, 1) := by decide +kernel
theorem dX8_counted_129 : decode cX8_counted 129 = .ok (.aload_n 0, 1) := by decide +kernel
theorem dX8_counted_130 : decode cX8_counted 130 = .ok (.getfield 7, 3) := by decide +kernel
theorem dX8_counted_133 : decode cX8_counted 133 = .ok (.iconst 3, 1) := by decide +kernel
theorem dX8_counted_134 : decode cX8_counted 134 = .ok (.iaload, 1) := by decide +kernel
theorem dX8_counted_135 : decode cX8_counted 135 = .ok (.ireturn, 1) := by decide +kernel
theorem dX8_counted_136 : decode cX8_counted 136 = .ok (.aload_n 0, 1) := by decide +kernel
theorem dX8_counted_137 : decode cX8_counted 137 = .ok (.getfield 102, 3) := by decide +kernel
theorem dX8_counted_140 : decode cX8_counted 140 = .ok (.ireturn, 1) := by decide +kernel
theorem dX8_counted_141 : decode cX8_counted 141 = .ok (.sipush 1000, 3) := by decide +kernel
theorem dX8_counted_144 : decode cX8_counted 144 = .ok (.aload_n 0, 1) := by decide +kernel
theorem dX8_counted_145 : decode cX8_counted 145 = .ok (.aload_n 0, 1) := by decide +kernel
theorem dX8_counted_146 : decode cX8_counted 146 = .ok (.getfield 7, 3) := by decide +kernel
theorem dX8_counted_149 : decode cX8_counted 149 = .ok (.iconst 1, 1) := by decide +kernel
theorem dX8_counted_150 : decode cX8_counted 150 = .ok (.iaload, 1) := by decide +kernel
theorem dX8_counted_151 : decode cX8_counted 151 = .ok (.invokevirtual 266, 3) := by decide +kernel
theorem dX8_counted_154 : decode cX8_counted 154 = .ok (.aload_n 0, 1) := by decide +kernel
theorem dX8_counted_155 : decode cX8_counted 155 = .ok (.getfield 7, 3) := by decide +kernel
theorem dX8_counted_158 : decode cX8_counted 158 = .ok (.iconst 2, 1) := by decide +kernel
theorem dX8_counted_159 : decode cX8_counted 159 = .ok (.iaload, 1) := by decide +kernel
theorem dX8_counted_160 : decode cX8_counted 160 = .ok (.iadd, 1) := by decide +kernel
theorem dX8_counted_161 : decode cX8_counted 161 = .ok (.imul, 1) := by decide +kernel
theorem dX8_counted_162 : decode cX8_counted 162 = .ok (.aload_n 0, 1) := by decide +kernel
theorem dX8_counted_163 : decode cX8_counted 163 = .ok (.aload_n 0, 1) := by decide +kernel
theorem dX8_counted_164 : decode cX8_counted 164 = .ok (.getfield 7, 3) := by decide +kernel
theorem dX8_counted_167 : decode cX8_counted 167 = .ok (.iconst 0, 1) := by decide +kernel
theorem dX8_counted_168 : decode cX8_counted 168 = .ok (.iaload, 1) := by decide +kernel
theorem dX8_counted_169 : decode cX8_counted 169 = .ok (.invokevirtual 266, 3) := by decide +kernel
theorem dX8_counted_172 : decode cX8_counted 172 = .ok (.idiv, 1) := by decide +kernel
theorem dX8_counted_173 : decode cX8_counted 173 = .ok (.ireturn, 1) := by decide +kernel
theorem dX8_count_0 : decode cX8_count 0 = .ok (.aload_n 0, 1) := by decide +kernel
theorem dX8_count_1 : decode cX8_count 1 = .ok (.iload_n 1, 1) := by decide +kernel
theorem dX8_count_2 : decode cX8_count 2 = .ok (.iconst 0, 1) := by decide +kernel
theorem dX8_count_3 : decode cX8_count 3 = .ok (.bipush 11, 2) := by decide +kernel
theorem dX8_count_5 : decode cX8_count 5 = .ok (.invokestatic 50, 3) := by decide +kernel
theorem dX8_count_8 : decode cX8_count 8 = .ok (.ifCond .eq 7, 3) := by decide +kernel
theorem dX8_count_11 : decode cX8_count 11 = .ok (.iconst 0, 1) := by decide +kernel
theorem dX8_count_12 : decode cX8_count 12 = .ok (.goto 4, 3) := by decide +kernel
theorem dX8_count_15 : decode cX8_count 15 = .ok (.iconst 1, 1) := by decide +kernel
theorem dX8_count_16 : decode cX8_count 16 = .ok (.putfield 47, 3) := by decide +kernel
theorem dX8_count_19 : decode cX8_count 19 = .ok (.aload_n 0, 1) := by decide +kernel
theorem dX8_count_20 : decode cX8_count 20 = .ok (.invokevirtual 189, 3) := by decide +kernel
theorem dX8_count_23 : decode cX8_count 23 = .ok (.aload_n 0, 1) := by decide +kernel
theorem dX8_count_24 : decode cX8_count 24 = .ok (.getfield 47, 3) := by decide +kernel
theorem dX8_count_27 : decode cX8_count 27 = .ok (.ifCond .le 7, 3) := by decide +kernel
theorem dX8_count_30 : decode cX8_count 30 = .ok (.iconst 0, 1) := by decide +kernel
theorem dX8_count_31 : decode cX8_count 31 = .ok (.goto 8, 3) := by decide +kernel
theorem dX8_count_34 : decode cX8_count 34 = .ok (.aload_n 0, 1) := by decide +kernel
theorem dX8_count_35 : decode cX8_count 35 = .ok (.iload_n 1, 1) := by decide +kernel
theorem dX8_count_36 : decode cX8_count 36 = .ok (.invokevirtual 272, 3) := by decide +kernel
theorem dX8_count_39 : decode cX8_count 39 = .ok (.ireturn, 1) := by decide +kernel
theorem dX8_linesIn_0 : decode cX8_linesIn 0 = .ok (.iconst 0, 1) := by decide +kernel
theorem dX8_linesIn_1 : decode cX8_linesIn 1 = .ok (.istore_n 2, 1) := by decide +kernel
theorem dX8_linesIn_2 : decode cX8_linesIn 2 = .ok (.iconst 0, 1) := by decide +kernel
theorem dX8_linesIn_3 : decode cX8_linesIn 3 = .ok (.istore_n 3, 1) := by decide +kernel
theorem dX8_linesIn_4 : decode cX8_linesIn 4 = .ok (.iload_n 3, 1) := by decide +kernel
theorem dX8_linesIn_5 : decode cX8_linesIn 5 = .ok (.aload_n 0, 1) := by decide +kernel
theorem dX8_linesIn_6 : decode cX8_linesIn 6 = .ok (.getfield 122, 3) := by decide +kernel
theorem dX8_linesIn_9 : decode cX8_linesIn 9 = .ok (.if_icmp .ge 27, 3) := by decide +kernel
theorem dX8_linesIn_12 : decode cX8_linesIn 12 = .ok (.iload_n 2, 1) := by decide +kernel
theorem dX8_linesIn_13 : decode cX8_linesIn 13 = .ok (.aload_n 0, 1) := by decide +kernel
theorem dX8_linesIn_14 : decode cX8_linesIn 14 = .ok (.getfield 35, 3) := by decide +kernel
theorem dX8_linesIn_17 : decode cX8_linesIn 17 = .ok (.iload_n 3, 1) := by decide +kernel
theorem dX8_linesIn_18 : decode cX8_linesIn 18 = .ok (.iaload, 1) := by decide +kernel
theorem dX8_linesIn_19 : decode cX8_linesIn 19 = .ok (.iload_n 1, 1) := by decide +kernel
theorem dX8_linesIn_20 : decode cX8_linesIn 20 = .ok (.if_icmp .ne 7, 3) := by decide +kernel
theorem dX8_linesIn_23 : decode cX8_linesIn 23 = .ok (.iconst 1, 1) := by decide +kernel
theorem dX8_linesIn_24 : decode cX8_linesIn 24 = .ok (.goto 4, 3) := by decide +kernel
theorem dX8_linesIn_27 : decode cX8_linesIn 27 = .ok (.iconst 0, 1) := by decide +kernel
theorem dX8_linesIn_28 : decode cX8_linesIn 28 = .ok (.iadd, 1) := by decide +kernel
theorem dX8_linesIn_29 : decode cX8_linesIn 29 = .ok (.istore_n 2, 1) := by decide +kernel
theorem dX8_linesIn_30 : decode cX8_linesIn 30 = .ok (.iinc 3 1, 3) := by decide +kernel
theorem dX8_linesIn_33 : decode cX8_linesIn 33 = .ok (.goto (-29), 3) := by decide +kernel
theorem dX8_linesIn_36 : decode cX8_linesIn 36 = .ok (.iload_n 2, 1) := by decide +kernel
theorem dX8_linesIn_37 : decode cX8_linesIn 37 = .ok (.ireturn, 1) := by decide +kernel
theorem dX8_paragraphNow_0 : decode cX8_paragraphNow 0 = .ok (.iload_n 2, 1) := by decide +kernel
theorem dX8_paragraphNow_1 : decode cX8_paragraphNow 1 = .ok (.tableswitch 63 0 3 #[31, 41, 47, 57], 31) := by decide +kernel
theorem dX8_paragraphNow_32 : decode cX8_paragraphNow 32 = .ok (.aload_n 0, 1) := by decide +kernel
theorem dX8_paragraphNow_33 : decode cX8_paragraphNow 33 = .ok (.getfield 7, 3) := by decide +kernel
theorem dX8_paragraphNow_36 : decode cX8_paragraphNow 36 = .ok (.bipush 75, 2) := by decide +kernel
theorem dX8_paragraphNow_38 : decode cX8_paragraphNow 38 = .ok (.iload_n 1, 1) := by decide +kernel
theorem dX8_paragraphNow_39 : decode cX8_paragraphNow 39 = .ok (.iadd, 1) := by decide +kernel
theorem dX8_paragraphNow_40 : decode cX8_paragraphNow 40 = .ok (.iaload, 1) := by decide +kernel
theorem dX8_paragraphNow_41 : decode cX8_paragraphNow 41 = .ok (.ireturn, 1) := by decide +kernel
theorem dX8_paragraphNow_42 : decode cX8_paragraphNow 42 = .ok (.aload_n 0, 1) := by decide +kernel
theorem dX8_paragraphNow_43 : decode cX8_paragraphNow 43 = .ok (.iload_n 1, 1) := by decide +kernel
theorem dX8_paragraphNow_44 : decode cX8_paragraphNow 44 = .ok (.invokevirtual 260, 3) := by decide +kernel
theorem dX8_paragraphNow_47 : decode cX8_paragraphNow 47 = .ok (.ireturn, 1) := by decide +kernel
theorem dX8_paragraphNow_48 : decode cX8_paragraphNow 48 = .ok (.aload_n 0, 1) := by decide +kernel
theorem dX8_paragraphNow_49 : decode cX8_paragraphNow 49 = .ok (.getfield 7, 3) := by decide +kernel
theorem dX8_paragraphNow_52 : decode cX8_paragraphNow 52 = .ok (.bipush 85, 2) := by decide +kernel
theorem dX8_paragraphNow_54 : decode cX8_paragraphNow 54 = .ok (.iload_n 1, 1) := by decide +kernel
theorem dX8_paragraphNow_55 : decode cX8_paragraphNow 55 = .ok (.iadd, 1) := by decide +kernel
theorem dX8_paragraphNow_56 : decode cX8_paragraphNow 56 = .ok (.iaload, 1) := by decide +kernel
theorem dX8_paragraphNow_57 : decode cX8_paragraphNow 57 = .ok (.ireturn, 1) := by decide +kernel
theorem dX8_paragraphNow_58 : decode cX8_paragraphNow 58 = .ok (.aload_n 0, 1) := by decide +kernel
theorem dX8_paragraphNow_59 : decode cX8_paragraphNow 59 = .ok (.iload_n 1, 1) := by decide +kernel
theorem dX8_paragraphNow_60 : decode cX8_paragraphNow 60 = .ok (.invokevirtual 275, 3) := by decide +kernel
theorem dX8_paragraphNow_63 : decode cX8_paragraphNow 63 = .ok (.ireturn, 1) := by decide +kernel
theorem dX8_paragraphNow_64 : decode cX8_paragraphNow 64 = .ok (.aload_n 0, 1) := by decide +kernel
theorem dX8_paragraphNow_65 : decode cX8_paragraphNow 65 = .ok (.iload_n 1, 1) := by decide +kernel
theorem dX8_paragraphNow_66 : decode cX8_paragraphNow 66 = .ok (.iconst 0, 1) := by decide +kernel
theorem dX8_paragraphNow_67 : decode cX8_paragraphNow 67 = .ok (.invokevirtual 186, 3) := by decide +kernel
theorem dX8_paragraphNow_70 : decode cX8_paragraphNow 70 = .ok (.ireturn, 1) := by decide +kernel
theorem dX8_isParagraph_0 : decode cX8_isParagraph 0 = .ok (.iload_n 1, 1) := by decide +kernel
theorem dX8_isParagraph_1 : decode cX8_isParagraph 1 = .ok (.iconst 0, 1) := by decide +kernel
theorem dX8_isParagraph_2 : decode cX8_isParagraph 2 = .ok (.aload_n 0, 1) := by decide +kernel
theorem dX8_isParagraph_3 : decode cX8_isParagraph 3 = .ok (.getfield 7, 3) := by decide +kernel
theorem dX8_isParagraph_6 : decode cX8_isParagraph 6 = .ok (.iconst 0, 1) := by decide +kernel
theorem dX8_isParagraph_7 : decode cX8_isParagraph 7 = .ok (.iaload, 1) := by decide +kernel
theorem dX8_isParagraph_8 : decode cX8_isParagraph 8 = .ok (.iconst 1, 1) := by decide +kernel
theorem dX8_isParagraph_9 : decode cX8_isParagraph 9 = .ok (.isub, 1) := by decide +kernel
theorem dX8_isParagraph_10 : decode cX8_isParagraph 10 = .ok (.invokestatic 50, 3) := by decide +kernel
theorem dX8_isParagraph_13 : decode cX8_isParagraph 13 = .ok (.ireturn, 1) := by decide +kernel
theorem dX8_paragraph_0 : decode cX8_paragraph 0 = .ok (.aload_n 0, 1) := by decide +kernel
theorem dX8_paragraph_1 : decode cX8_paragraph 1 = .ok (.aload_n 0, 1) := by decide +kernel
theorem dX8_paragraph_2 : decode cX8_paragraph 2 = .ok (.iload_n 1, 1) := by decide +kernel
theorem dX8_paragraph_3 : decode cX8_paragraph 3 = .ok (.invokevirtual 278, 3) := by decide +kernel
theorem dX8_paragraph_6 : decode cX8_paragraph 6 = .ok (.ifCond .ne 7, 3) := by decide +kernel
theorem dX8_paragraph_9 : decode cX8_paragraph 9 = .ok (.iconst 1, 1) := by decide +kernel
theorem dX8_paragraph_10 : decode cX8_paragraph 10 = .ok (.goto 17, 3) := by decide +kernel
theorem dX8_paragraph_13 : decode cX8_paragraph 13 = .ok (.iload_n 2, 1) := by decide +kernel
theorem dX8_paragraph_14 : decode cX8_paragraph 14 = .ok (.iconst 0, 1) := by decide +kernel
theorem dX8_paragraph_15 : decode cX8_paragraph 15 = .ok (.iconst 4, 1) := by decide +kernel
theorem dX8_paragraph_16 : decode cX8_paragraph 16 = .ok (.invokestatic 50, 3) := by decide +kernel
theorem dX8_paragraph_19 : decode cX8_paragraph 19 = .ok (.ifCond .eq 7, 3) := by decide +kernel
theorem dX8_paragraph_22 : decode cX8_paragraph 22 = .ok (.iconst 0, 1) := by decide +kernel
theorem dX8_paragraph_23 : decode cX8_paragraph 23 = .ok (.goto 4, 3) := by decide +kernel
theorem dX8_paragraph_26 : decode cX8_paragraph 26 = .ok (.iconst 2, 1) := by decide +kernel
theorem dX8_paragraph_27 : decode cX8_paragraph 27 = .ok (.putfield 47, 3) := by decide +kernel
theorem dX8_paragraph_30 : decode cX8_paragraph 30 = .ok (.aload_n 0, 1) := by decide +kernel
theorem dX8_paragraph_31 : decode cX8_paragraph 31 = .ok (.invokevirtual 189, 3) := by decide +kernel
theorem dX8_paragraph_34 : decode cX8_paragraph 34 = .ok (.aload_n 0, 1) := by decide +kernel
theorem dX8_paragraph_35 : decode cX8_paragraph 35 = .ok (.getfield 47, 3) := by decide +kernel
theorem dX8_paragraph_38 : decode cX8_paragraph 38 = .ok (.ifCond .le 7, 3) := by decide +kernel
theorem dX8_paragraph_41 : decode cX8_paragraph 41 = .ok (.iconst 0, 1) := by decide +kernel
theorem dX8_paragraph_42 : decode cX8_paragraph 42 = .ok (.goto 9, 3) := by decide +kernel
theorem dX8_paragraph_45 : decode cX8_paragraph 45 = .ok (.aload_n 0, 1) := by decide +kernel
theorem dX8_paragraph_46 : decode cX8_paragraph 46 = .ok (.iload_n 1, 1) := by decide +kernel
theorem dX8_paragraph_47 : decode cX8_paragraph 47 = .ok (.iload_n 2, 1) := by decide +kernel
theorem dX8_paragraph_48 : decode cX8_paragraph 48 = .ok (.invokevirtual 281, 3) := by decide +kernel
theorem dX8_paragraph_51 : decode cX8_paragraph 51 = .ok (.ireturn, 1) := by decide +kernel
theorem dX8_letter_0 : decode cX8_letter 0 = .ok (.aload_n 0, 1) := by decide +kernel
theorem dX8_letter_1 : decode cX8_letter 1 = .ok (.aload_n 0, 1) := by decide +kernel
theorem dX8_letter_2 : decode cX8_letter 2 = .ok (.iload_n 1, 1) := by decide +kernel
theorem dX8_letter_3 : decode cX8_letter 3 = .ok (.iload_n 2, 1) := by decide +kernel
theorem dX8_letter_4 : decode cX8_letter 4 = .ok (.invokevirtual 238, 3) := by decide +kernel
theorem dX8_letter_7 : decode cX8_letter 7 = .ok (.ifCond .eq 7, 3) := by decide +kernel
theorem dX8_letter_10 : decode cX8_letter 10 = .ok (.iconst 0, 1) := by decide +kernel
theorem dX8_letter_11 : decode cX8_letter 11 = .ok (.goto 4, 3) := by decide +kernel
theorem dX8_letter_14 : decode cX8_letter 14 = .ok (.iconst 1, 1) := by decide +kernel
theorem dX8_letter_15 : decode cX8_letter 15 = .ok (.putfield 47, 3) := by decide +kernel
theorem dX8_letter_18 : decode cX8_letter 18 = .ok (.aload_n 0, 1) := by decide +kernel
theorem dX8_letter_19 : decode cX8_letter 19 = .ok (.getfield 47, 3) := by decide +kernel
theorem dX8_letter_22 : decode cX8_letter 22 = .ok (.ifCond .le 7, 3) := by decide +kernel
theorem dX8_letter_25 : decode cX8_letter 25 = .ok (.iconst 0, 1) := by decide +kernel
theorem dX8_letter_26 : decode cX8_letter 26 = .ok (.goto 9, 3) := by decide +kernel
theorem dX8_letter_29 : decode cX8_letter 29 = .ok (.aload_n 0, 1) := by decide +kernel
theorem dX8_letter_30 : decode cX8_letter 30 = .ok (.iload_n 1, 1) := by decide +kernel
theorem dX8_letter_31 : decode cX8_letter 31 = .ok (.iload_n 2, 1) := by decide +kernel
theorem dX8_letter_32 : decode cX8_letter 32 = .ok (.invokevirtual 112, 3) := by decide +kernel
theorem dX8_letter_35 : decode cX8_letter 35 = .ok (.ireturn, 1) := by decide +kernel
theorem dX8_annotate_0 : decode cX8_annotate 0 = .ok (.aload_n 0, 1) := by decide +kernel
theorem dX8_annotate_1 : decode cX8_annotate 1 = .ok (.iload_n 1, 1) := by decide +kernel
theorem dX8_annotate_2 : decode cX8_annotate 2 = .ok (.iload_n 2, 1) := by decide +kernel
theorem dX8_annotate_3 : decode cX8_annotate 3 = .ok (.invokevirtual 238, 3) := by decide +kernel
theorem dX8_annotate_6 : decode cX8_annotate 6 = .ok (.ifCond .eq 26, 3) := by decide +kernel
theorem dX8_annotate_9 : decode cX8_annotate 9 = .ok (.iload_n 3, 1) := by decide +kernel
theorem dX8_annotate_10 : decode cX8_annotate 10 = .ok (.iload_n 2, 1) := by decide +kernel
theorem dX8_annotate_11 : decode cX8_annotate 11 = .ok (.iconst 1, 1) := by decide +kernel
theorem dX8_annotate_12 : decode cX8_annotate 12 = .ok (.iadd, 1) := by decide +kernel
theorem dX8_annotate_13 : decode cX8_annotate 13 = .ok (.aload_n 0, 1) := by decide +kernel
theorem dX8_annotate_14 : decode cX8_annotate 14 = .ok (.getfield 7, 3) := by decide +kernel
theorem dX8_annotate_17 : decode cX8_annotate 17 = .ok (.bipush 85, 2) := by decide +kernel
theorem dX8_annotate_19 : decode cX8_annotate 19 = .ok (.iload_n 1, 1) := by decide +kernel
theorem dX8_annotate_20 : decode cX8_annotate 20 = .ok (.iadd, 1) := by decide +kernel
theorem dX8_annotate_21 : decode cX8_annotate 21 = .ok (.iaload, 1) := by decide +kernel
theorem dX8_annotate_22 : decode cX8_annotate 22 = .ok (.invokestatic 50, 3) := by decide +kernel
theorem dX8_annotate_25 : decode cX8_annotate 25 = .ok (.ifCond .eq 7, 3) := by decide +kernel
theorem dX8_annotate_28 : decode cX8_annotate 28 = .ok (.iconst 1, 1) := by decide +kernel
theorem dX8_annotate_29 : decode cX8_annotate 29 = .ok (.goto 4, 3) := by decide +kernel
theorem dX8_annotate_32 : decode cX8_annotate 32 = .ok (.iconst 0, 1) := by decide +kernel
theorem dX8_annotate_33 : decode cX8_annotate 33 = .ok (.istore 5, 2) := by decide +kernel
theorem dX8_annotate_35 : decode cX8_annotate 35 = .ok (.aload_n 0, 1) := by decide +kernel
theorem dX8_annotate_36 : decode cX8_annotate 36 = .ok (.iload 5, 2) := by decide +kernel
theorem dX8_annotate_38 : decode cX8_annotate 38 = .ok (.ifCond .ne 7, 3) := by decide +kernel
theorem dX8_annotate_41 : decode cX8_annotate 41 = .ok (.iconst 1, 1) := by decide +kernel
theorem dX8_annotate_42 : decode cX8_annotate 42 = .ok (.goto 35, 3) := by decide +kernel
theorem dX8_annotate_45 : decode cX8_annotate 45 = .ok (.iload 4, 2) := by decide +kernel
theorem dX8_annotate_47 : decode cX8_annotate 47 = .ok (.iconst 0, 1) := by decide +kernel
theorem dX8_annotate_48 : decode cX8_annotate 48 = .ok (.bipush 7, 2) := by decide +kernel
theorem dX8_annotate_50 : decode cX8_annotate 50 = .ok (.invokestatic 50, 3) := by decide +kernel
theorem dX8_annotate_53 : decode cX8_annotate 53 = .ok (.ifCond .ne 7, 3) := by decide +kernel
theorem dX8_annotate_56 : decode cX8_annotate 56 = .ok (.iconst 2, 1) := by decide +kernel
theorem dX8_annotate_57 : decode cX8_annotate 57 = .ok (.goto 20, 3) := by decide +kernel
theorem dX8_annotate_60 : decode cX8_annotate 60 = .ok (.aload_n 0, 1) := by decide +kernel
theorem dX8_annotate_61 : decode cX8_annotate 61 = .ok (.getfield 7, 3) := by decide +kernel
theorem dX8_annotate_64 : decode cX8_annotate 64 = .ok (.bipush 14, 2) := by decide +kernel
theorem dX8_annotate_66 : decode cX8_annotate 66 = .ok (.iaload, 1) := by decide +kernel
theorem dX8_annotate_67 : decode cX8_annotate 67 = .ok (.bipush 12, 2) := by decide +kernel
theorem dX8_annotate_69 : decode cX8_annotate 69 = .ok (.if_icmp .ne 7, 3) := by decide +kernel
theorem dX8_annotate_72 : decode cX8_annotate 72 = .ok (.iconst 3, 1) := by decide +kernel
theorem dX8_annotate_73 : decode cX8_annotate 73 = .ok (.goto 4, 3) := by decide +kernel
theorem dX8_annotate_76 : decode cX8_annotate 76 = .ok (.iconst 0, 1) := by decide +kernel
theorem dX8_annotate_77 : decode cX8_annotate 77 = .ok (.putfield 47, 3) := by decide +kernel
theorem dX8_annotate_80 : decode cX8_annotate 80 = .ok (.aload_n 0, 1) := by decide +kernel
theorem dX8_annotate_81 : decode cX8_annotate 81 = .ok (.getfield 47, 3) := by decide +kernel
theorem dX8_annotate_84 : decode cX8_annotate 84 = .ok (.ifCond .le 5, 3) := by decide +kernel
theorem dX8_annotate_87 : decode cX8_annotate 87 = .ok (.iconst 0, 1) := by decide +kernel
theorem dX8_annotate_88 : decode cX8_annotate 88 = .ok (.ireturn, 1) := by decide +kernel
theorem dX8_annotate_89 : decode cX8_annotate 89 = .ok (.bipush 15, 2) := by decide +kernel
theorem dX8_annotate_91 : decode cX8_annotate 91 = .ok (.iconst 5, 1) := by decide +kernel
theorem dX8_annotate_92 : decode cX8_annotate 92 = .ok (.aload_n 0, 1) := by decide +kernel
theorem dX8_annotate_93 : decode cX8_annotate 93 = .ok (.getfield 7, 3) := by decide +kernel
theorem dX8_annotate_96 : decode cX8_annotate 96 = .ok (.bipush 14, 2) := by decide +kernel
theorem dX8_annotate_98 : decode cX8_annotate 98 = .ok (.iaload, 1) := by decide +kernel
theorem dX8_annotate_99 : decode cX8_annotate 99 = .ok (.imul, 1) := by decide +kernel
theorem dX8_annotate_100 : decode cX8_annotate 100 = .ok (.iadd, 1) := by decide +kernel
theorem dX8_annotate_101 : decode cX8_annotate 101 = .ok (.istore 6, 2) := by decide +kernel
theorem dX8_annotate_103 : decode cX8_annotate 103 = .ok (.aload_n 0, 1) := by decide +kernel
theorem dX8_annotate_104 : decode cX8_annotate 104 = .ok (.getfield 7, 3) := by decide +kernel
theorem dX8_annotate_107 : decode cX8_annotate 107 = .ok (.iload 6, 2) := by decide +kernel
theorem dX8_annotate_109 : decode cX8_annotate 109 = .ok (.iload_n 1, 1) := by decide +kernel
theorem dX8_annotate_110 : decode cX8_annotate 110 = .ok (.iastore, 1) := by decide +kernel
theorem dX8_annotate_111 : decode cX8_annotate 111 = .ok (.aload_n 0, 1) := by decide +kernel
theorem dX8_annotate_112 : decode cX8_annotate 112 = .ok (.getfield 7, 3) := by decide +kernel
theorem dX8_annotate_115 : decode cX8_annotate 115 = .ok (.iload 6, 2) := by decide +kernel
theorem dX8_annotate_117 : decode cX8_annotate 117 = .ok (.iconst 1, 1) := by decide +kernel
theorem dX8_annotate_118 : decode cX8_annotate 118 = .ok (.iadd, 1) := by decide +kernel
theorem dX8_annotate_119 : decode cX8_annotate 119 = .ok (.iload_n 2, 1) := by decide +kernel
theorem dX8_annotate_120 : decode cX8_annotate 120 = .ok (.iastore, 1) := by decide +kernel
theorem dX8_annotate_121 : decode cX8_annotate 121 = .ok (.aload_n 0, 1) := by decide +kernel
theorem dX8_annotate_122 : decode cX8_annotate 122 = .ok (.getfield 7, 3) := by decide +kernel
theorem dX8_annotate_125 : decode cX8_annotate 125 = .ok (.iload 6, 2) := by decide +kernel
theorem dX8_annotate_127 : decode cX8_annotate 127 = .ok (.iconst 2, 1) := by decide +kernel
theorem dX8_annotate_128 : decode cX8_annotate 128 = .ok (.iadd, 1) := by decide +kernel
theorem dX8_annotate_129 : decode cX8_annotate 129 = .ok (.iload_n 3, 1) := by decide +kernel
theorem dX8_annotate_130 : decode cX8_annotate 130 = .ok (.iastore, 1) := by decide +kernel
theorem dX8_annotate_131 : decode cX8_annotate 131 = .ok (.aload_n 0, 1) := by decide +kernel
theorem dX8_annotate_132 : decode cX8_annotate 132 = .ok (.getfield 7, 3) := by decide +kernel
theorem dX8_annotate_135 : decode cX8_annotate 135 = .ok (.iload 6, 2) := by decide +kernel
theorem dX8_annotate_137 : decode cX8_annotate 137 = .ok (.iconst 3, 1) := by decide +kernel
theorem dX8_annotate_138 : decode cX8_annotate 138 = .ok (.iadd, 1) := by decide +kernel
theorem dX8_annotate_139 : decode cX8_annotate 139 = .ok (.iload 4, 2) := by decide +kernel
theorem dX8_annotate_141 : decode cX8_annotate 141 = .ok (.iastore, 1) := by decide +kernel
theorem dX8_annotate_142 : decode cX8_annotate 142 = .ok (.aload_n 0, 1) := by decide +kernel
theorem dX8_annotate_143 : decode cX8_annotate 143 = .ok (.getfield 7, 3) := by decide +kernel
theorem dX8_annotate_146 : decode cX8_annotate 146 = .ok (.iload 6, 2) := by decide +kernel
theorem dX8_annotate_148 : decode cX8_annotate 148 = .ok (.iconst 4, 1) := by decide +kernel
theorem dX8_annotate_149 : decode cX8_annotate 149 = .ok (.iadd, 1) := by decide +kernel
theorem dX8_annotate_150 : decode cX8_annotate 150 = .ok (.iconst 0, 1) := by decide +kernel
theorem dX8_annotate_151 : decode cX8_annotate 151 = .ok (.iastore, 1) := by decide +kernel
theorem dX8_annotate_152 : decode cX8_annotate 152 = .ok (.aload_n 0, 1) := by decide +kernel
theorem dX8_annotate_153 : decode cX8_annotate 153 = .ok (.getfield 7, 3) := by decide +kernel
theorem dX8_annotate_156 : decode cX8_annotate 156 = .ok (.bipush 14, 2) := by decide +kernel
theorem dX8_annotate_158 : decode cX8_annotate 158 = .ok (.dup2, 1) := by decide +kernel
theorem dX8_annotate_159 : decode cX8_annotate 159 = .ok (.iaload, 1) := by decide +kernel
theorem dX8_annotate_160 : decode cX8_annotate 160 = .ok (.iconst 1, 1) := by decide +kernel
theorem dX8_annotate_161 : decode cX8_annotate 161 = .ok (.iadd, 1) := by decide +kernel
theorem dX8_annotate_162 : decode cX8_annotate 162 = .ok (.iastore, 1) := by decide +kernel
theorem dX8_annotate_163 : decode cX8_annotate 163 = .ok (.aload_n 0, 1) := by decide +kernel
theorem dX8_annotate_164 : decode cX8_annotate 164 = .ok (.getfield 7, 3) := by decide +kernel
theorem dX8_annotate_167 : decode cX8_annotate 167 = .ok (.bipush 14, 2) := by decide +kernel
theorem dX8_annotate_169 : decode cX8_annotate 169 = .ok (.iaload, 1) := by decide +kernel
theorem dX8_annotate_170 : decode cX8_annotate 170 = .ok (.iconst 1, 1) := by decide +kernel
theorem dX8_annotate_171 : decode cX8_annotate 171 = .ok (.isub, 1) := by decide +kernel
theorem dX8_annotate_172 : decode cX8_annotate 172 = .ok (.ireturn, 1) := by decide +kernel
theorem dX8_isAnnotation_0 : decode cX8_isAnnotation 0 = .ok (.iload_n 1, 1) := by decide +kernel
theorem dX8_isAnnotation_1 : decode cX8_isAnnotation 1 = .ok (.iconst 0, 1) := by decide +kernel
theorem dX8_isAnnotation_2 : decode cX8_isAnnotation 2 = .ok (.aload_n 0, 1) := by decide +kernel
theorem dX8_isAnnotation_3 : decode cX8_isAnnotation 3 = .ok (.getfield 7, 3) := by decide +kernel
theorem dX8_isAnnotation_6 : decode cX8_isAnnotation 6 = .ok (.bipush 14, 2) := by decide +kernel
theorem dX8_isAnnotation_8 : decode cX8_isAnnotation 8 = .ok (.iaload, 1) := by decide +kernel
theorem dX8_isAnnotation_9 : decode cX8_isAnnotation 9 = .ok (.iconst 1, 1) := by decide +kernel
theorem dX8_isAnnotation_10 : decode cX8_isAnnotation 10 = .ok (.isub, 1) := by decide +kernel
theorem dX8_isAnnotation_11 : decode cX8_isAnnotation 11 = .ok (.invokestatic 50, 3) := by decide +kernel
theorem dX8_isAnnotation_14 : decode cX8_isAnnotation 14 = .ok (.ireturn, 1) := by decide +kernel
theorem dX8_annotationNow_0 : decode cX8_annotationNow 0 = .ok (.bipush 15, 2) := by decide +kernel
theorem dX8_annotationNow_2 : decode cX8_annotationNow 2 = .ok (.iconst 5, 1) := by decide +kernel
theorem dX8_annotationNow_3 : decode cX8_annotationNow 3 = .ok (.iload_n 1, 1) := by decide +kernel
theorem dX8_annotationNow_4 : decode cX8_annotationNow 4 = .ok (.imul, 1) := by decide +kernel
theorem dX8_annotationNow_5 : decode cX8_annotationNow 5 = .ok (.iadd, 1) := by decide +kernel
theorem dX8_annotationNow_6 : decode cX8_annotationNow 6 = .ok (.istore_n 3, 1) := by decide +kernel
theorem dX8_annotationNow_7 : decode cX8_annotationNow 7 = .ok (.iload_n 2, 1) := by decide +kernel
theorem dX8_annotationNow_8 : decode cX8_annotationNow 8 = .ok (.iconst 5, 1) := by decide +kernel
theorem dX8_annotationNow_9 : decode cX8_annotationNow 9 = .ok (.if_icmp .ge 14, 3) := by decide +kernel
theorem dX8_annotationNow_12 : decode cX8_annotationNow 12 = .ok (.aload_n 0, 1) := by decide +kernel
theorem dX8_annotationNow_13 : decode cX8_annotationNow 13 = .ok (.getfield 7, 3) := by decide +kernel
theorem dX8_annotationNow_16 : decode cX8_annotationNow 16 = .ok (.iload_n 3, 1) := by decide +kernel
theorem dX8_annotationNow_17 : decode cX8_annotationNow 17 = .ok (.iload_n 2, 1) := by decide +kernel
theorem dX8_annotationNow_18 : decode cX8_annotationNow 18 = .ok (.iadd, 1) := by decide +kernel
theorem dX8_annotationNow_19 : decode cX8_annotationNow 19 = .ok (.iaload, 1) := by decide +kernel
theorem dX8_annotationNow_20 : decode cX8_annotationNow 20 = .ok (.goto 37, 3) := by decide +kernel
theorem dX8_annotationNow_23 : decode cX8_annotationNow 23 = .ok (.aload_n 0, 1) := by decide +kernel
theorem dX8_annotationNow_24 : decode cX8_annotationNow 24 = .ok (.getfield 7, 3) := by decide +kernel
theorem dX8_annotationNow_27 : decode cX8_annotationNow 27 = .ok (.iload_n 3, 1) := by decide +kernel
theorem dX8_annotationNow_28 : decode cX8_annotationNow 28 = .ok (.iconst 4, 1) := by decide +kernel
theorem dX8_annotationNow_29 : decode cX8_annotationNow 29 = .ok (.iadd, 1) := by decide +kernel
theorem dX8_annotationNow_30 : decode cX8_annotationNow 30 = .ok (.iaload, 1) := by decide +kernel
theorem dX8_annotationNow_31 : decode cX8_annotationNow 31 = .ok (.iconst 1, 1) := by decide +kernel
theorem dX8_annotationNow_32 : decode cX8_annotationNow 32 = .ok (.if_icmp .ne 7, 3) := by decide +kernel
theorem dX8_annotationNow_35 : decode cX8_annotationNow 35 = .ok (.iconst (-1), 1) := by decide +kernel
theorem dX8_annotationNow_36 : decode cX8_annotationNow 36 = .ok (.goto 21, 3) := by decide +kernel
theorem dX8_annotationNow_39 : decode cX8_annotationNow 39 = .ok (.aload_n 0, 1) := by decide +kernel
theorem dX8_annotationNow_40 : decode cX8_annotationNow 40 = .ok (.aload_n 0, 1) := by decide +kernel
theorem dX8_annotationNow_41 : decode cX8_annotationNow 41 = .ok (.getfield 7, 3) := by decide +kernel
theorem dX8_annotationNow_44 : decode cX8_annotationNow 44 = .ok (.iload_n 3, 1) := by decide +kernel
theorem dX8_annotationNow_45 : decode cX8_annotationNow 45 = .ok (.iaload, 1) := by decide +kernel
theorem dX8_annotationNow_46 : decode cX8_annotationNow 46 = .ok (.aload_n 0, 1) := by decide +kernel
theorem dX8_annotationNow_47 : decode cX8_annotationNow 47 = .ok (.getfield 7, 3) := by decide +kernel
theorem dX8_annotationNow_50 : decode cX8_annotationNow 50 = .ok (.iload_n 3, 1) := by decide +kernel
theorem dX8_annotationNow_51 : decode cX8_annotationNow 51 = .ok (.iconst 1, 1) := by decide +kernel
theorem dX8_annotationNow_52 : decode cX8_annotationNow 52 = .ok (.iadd, 1) := by decide +kernel
theorem dX8_annotationNow_53 : decode cX8_annotationNow 53 = .ok (.iaload, 1) := by decide +kernel
theorem dX8_annotationNow_54 : decode cX8_annotationNow 54 = .ok (.invokevirtual 186, 3) := by decide +kernel
theorem dX8_annotationNow_57 : decode cX8_annotationNow 57 = .ok (.ireturn, 1) := by decide +kernel
theorem dX8_annotation_0 : decode cX8_annotation 0 = .ok (.aload_n 0, 1) := by decide +kernel
theorem dX8_annotation_1 : decode cX8_annotation 1 = .ok (.aload_n 0, 1) := by decide +kernel
theorem dX8_annotation_2 : decode cX8_annotation 2 = .ok (.iload_n 1, 1) := by decide +kernel
theorem dX8_annotation_3 : decode cX8_annotation 3 = .ok (.invokevirtual 284, 3) := by decide +kernel
theorem dX8_annotation_6 : decode cX8_annotation 6 = .ok (.ifCond .ne 7, 3) := by decide +kernel
theorem dX8_annotation_9 : decode cX8_annotation 9 = .ok (.iconst 1, 1) := by decide +kernel
theorem dX8_annotation_10 : decode cX8_annotation 10 = .ok (.goto 17, 3) := by decide +kernel
theorem dX8_annotation_13 : decode cX8_annotation 13 = .ok (.iload_n 2, 1) := by decide +kernel
theorem dX8_annotation_14 : decode cX8_annotation 14 = .ok (.iconst 0, 1) := by decide +kernel
theorem dX8_annotation_15 : decode cX8_annotation 15 = .ok (.iconst 5, 1) := by decide +kernel
theorem dX8_annotation_16 : decode cX8_annotation 16 = .ok (.invokestatic 50, 3) := by decide +kernel
theorem dX8_annotation_19 : decode cX8_annotation 19 = .ok (.ifCond .eq 7, 3) := by decide +kernel
theorem dX8_annotation_22 : decode cX8_annotation 22 = .ok (.iconst 0, 1) := by decide +kernel
theorem dX8_annotation_23 : decode cX8_annotation 23 = .ok (.goto 4, 3) := by decide +kernel
theorem dX8_annotation_26 : decode cX8_annotation 26 = .ok (.iconst 2, 1) := by decide +kernel
theorem dX8_annotation_27 : decode cX8_annotation 27 = .ok (.putfield 47, 3) := by decide +kernel
theorem dX8_annotation_30 : decode cX8_annotation 30 = .ok (.aload_n 0, 1) := by decide +kernel
theorem dX8_annotation_31 : decode cX8_annotation 31 = .ok (.invokevirtual 189, 3) := by decide +kernel
theorem dX8_annotation_34 : decode cX8_annotation 34 = .ok (.aload_n 0, 1) := by decide +kernel
theorem dX8_annotation_35 : decode cX8_annotation 35 = .ok (.getfield 47, 3) := by decide +kernel
theorem dX8_annotation_38 : decode cX8_annotation 38 = .ok (.ifCond .le 7, 3) := by decide +kernel
theorem dX8_annotation_41 : decode cX8_annotation 41 = .ok (.iconst 0, 1) := by decide +kernel
theorem dX8_annotation_42 : decode cX8_annotation 42 = .ok (.goto 9, 3) := by decide +kernel
theorem dX8_annotation_45 : decode cX8_annotation 45 = .ok (.aload_n 0, 1) := by decide +kernel
theorem dX8_annotation_46 : decode cX8_annotation 46 = .ok (.iload_n 1, 1) := by decide +kernel
theorem dX8_annotation_47 : decode cX8_annotation 47 = .ok (.iload_n 2, 1) := by decide +kernel
theorem dX8_annotation_48 : decode cX8_annotation 48 = .ok (.invokevirtual 287, 3) := by decide +kernel
theorem dX8_annotation_51 : decode cX8_annotation 51 = .ok (.ireturn, 1) := by decide +kernel
theorem dX8_removeAnnotation_0 : decode cX8_removeAnnotation 0 = .ok (.aload_n 0, 1) := by decide +kernel
theorem dX8_removeAnnotation_1 : decode cX8_removeAnnotation 1 = .ok (.aload_n 0, 1) := by decide +kernel
theorem dX8_removeAnnotation_2 : decode cX8_removeAnnotation 2 = .ok (.iload_n 1, 1) := by decide +kernel
theorem dX8_removeAnnotation_3 : decode cX8_removeAnnotation 3 = .ok (.invokevirtual 284, 3) := by decide +kernel
theorem dX8_removeAnnotation_6 : decode cX8_removeAnnotation 6 = .ok (.ifCond .eq 7, 3) := by decide +kernel
theorem dX8_removeAnnotation_9 : decode cX8_removeAnnotation 9 = .ok (.iconst 0, 1) := by decide +kernel
theorem dX8_removeAnnotation_10 : decode cX8_removeAnnotation 10 = .ok (.goto 4, 3) := by decide +kernel
theorem dX8_removeAnnotation_13 : decode cX8_removeAnnotation 13 = .ok (.iconst 1, 1) := by decide +kernel
theorem dX8_removeAnnotation_14 : decode cX8_removeAnnotation 14 = .ok (.putfield 47, 3) := by decide +kernel
theorem dX8_removeAnnotation_17 : decode cX8_removeAnnotation 17 = .ok (.aload_n 0, 1) := by decide +kernel
theorem dX8_removeAnnotation_18 : decode cX8_removeAnnotation 18 = .ok (.getfield 47, 3) := by decide +kernel
theorem dX8_removeAnnotation_21 : decode cX8_removeAnnotation 21 = .ok (.ifCond .le 5, 3) := by decide +kernel
theorem dX8_removeAnnotation_24 : decode cX8_removeAnnotation 24 = .ok (.iconst 0, 1) := by decide +kernel
theorem dX8_removeAnnotation_25 : decode cX8_removeAnnotation 25 = .ok (.ireturn, 1) := by decide +kernel
theorem dX8_removeAnnotation_26 : decode cX8_removeAnnotation 26 = .ok (.bipush 15, 2) := by decide +kernel
theorem dX8_removeAnnotation_28 : decode cX8_removeAnnotation 28 = .ok (.iconst 5, 1) := by decide +kernel
theorem dX8_removeAnnotation_29 : decode cX8_removeAnnotation 29 = .ok (.iload_n 1, 1) := by decide +kernel
theorem dX8_removeAnnotation_30 : decode cX8_removeAnnotation 30 = .ok (.imul, 1) := by decide +kernel
theorem dX8_removeAnnotation_31 : decode cX8_removeAnnotation 31 = .ok (.iadd, 1) := by decide +kernel
theorem dX8_removeAnnotation_32 : decode cX8_removeAnnotation 32 = .ok (.istore_n 2, 1) := by decide +kernel
theorem dX8_removeAnnotation_33 : decode cX8_removeAnnotation 33 = .ok (.iload_n 2, 1) := by decide +kernel
theorem dX8_removeAnnotation_34 : decode cX8_removeAnnotation 34 = .ok (.bipush 15, 2) := by decide +kernel
theorem dX8_removeAnnotation_36 : decode cX8_removeAnnotation 36 = .ok (.iconst 5, 1) := by decide +kernel
theorem dX8_removeAnnotation_37 : decode cX8_removeAnnotation 37 = .ok (.aload_n 0, 1) := by decide +kernel
theorem dX8_removeAnnotation_38 : decode cX8_removeAnnotation 38 = .ok (.getfield 7, 3) := by decide +kernel
theorem dX8_removeAnnotation_41 : decode cX8_removeAnnotation 41 = .ok (.bipush 14, 2) := by decide +kernel
theorem dX8_removeAnnotation_43 : decode cX8_removeAnnotation 43 = .ok (.iaload, 1) := by decide +kernel
theorem dX8_removeAnnotation_44 : decode cX8_removeAnnotation 44 = .ok (.imul, 1) := by decide +kernel
theorem dX8_removeAnnotation_45 : decode cX8_removeAnnotation 45 = .ok (.iadd, 1) := by decide +kernel
theorem dX8_removeAnnotation_46 : decode cX8_removeAnnotation 46 = .ok (.iconst 5, 1) := by decide +kernel
theorem dX8_removeAnnotation_47 : decode cX8_removeAnnotation 47 = .ok (.isub, 1) := by decide +kernel
theorem dX8_removeAnnotation_48 : decode cX8_removeAnnotation 48 = .ok (.if_icmp .ge 23, 3) := by decide +kernel
theorem dX8_removeAnnotation_51 : decode cX8_removeAnnotation 51 = .ok (.aload_n 0, 1) := by decide +kernel
theorem dX8_removeAnnotation_52 : decode cX8_removeAnnotation 52 = .ok (.getfield 7, 3) := by decide +kernel
theorem dX8_removeAnnotation_55 : decode cX8_removeAnnotation 55 = .ok (.iload_n 2, 1) := by decide +kernel
theorem dX8_removeAnnotation_56 : decode cX8_removeAnnotation 56 = .ok (.aload_n 0, 1) := by decide +kernel
theorem dX8_removeAnnotation_57 : decode cX8_removeAnnotation 57 = .ok (.getfield 7, 3) := by decide +kernel
theorem dX8_removeAnnotation_60 : decode cX8_removeAnnotation 60 = .ok (.iload_n 2, 1) := by decide +kernel
theorem dX8_removeAnnotation_61 : decode cX8_removeAnnotation 61 = .ok (.iconst 5, 1) := by decide +kernel
theorem dX8_removeAnnotation_62 : decode cX8_removeAnnotation 62 = .ok (.iadd, 1) := by decide +kernel
theorem dX8_removeAnnotation_63 : decode cX8_removeAnnotation 63 = .ok (.iaload, 1) := by decide +kernel
theorem dX8_removeAnnotation_64 : decode cX8_removeAnnotation 64 = .ok (.iastore, 1) := by decide +kernel
theorem dX8_removeAnnotation_65 : decode cX8_removeAnnotation 65 = .ok (.iinc 2 1, 3) := by decide +kernel
theorem dX8_removeAnnotation_68 : decode cX8_removeAnnotation 68 = .ok (.goto (-35), 3) := by decide +kernel
theorem dX8_removeAnnotation_71 : decode cX8_removeAnnotation 71 = .ok (.aload_n 0, 1) := by decide +kernel
theorem dX8_removeAnnotation_72 : decode cX8_removeAnnotation 72 = .ok (.getfield 7, 3) := by decide +kernel
theorem dX8_removeAnnotation_75 : decode cX8_removeAnnotation 75 = .ok (.bipush 14, 2) := by decide +kernel
theorem dX8_removeAnnotation_77 : decode cX8_removeAnnotation 77 = .ok (.dup2, 1) := by decide +kernel
theorem dX8_removeAnnotation_78 : decode cX8_removeAnnotation 78 = .ok (.iaload, 1) := by decide +kernel
theorem dX8_removeAnnotation_79 : decode cX8_removeAnnotation 79 = .ok (.iconst 1, 1) := by decide +kernel
theorem dX8_removeAnnotation_80 : decode cX8_removeAnnotation 80 = .ok (.isub, 1) := by decide +kernel
theorem dX8_removeAnnotation_81 : decode cX8_removeAnnotation 81 = .ok (.iastore, 1) := by decide +kernel
theorem dX8_removeAnnotation_82 : decode cX8_removeAnnotation 82 = .ok (.aload_n 0, 1) := by decide +kernel
theorem dX8_removeAnnotation_83 : decode cX8_removeAnnotation 83 = .ok (.getfield 7, 3) := by decide +kernel
theorem dX8_removeAnnotation_86 : decode cX8_removeAnnotation 86 = .ok (.bipush 14, 2) := by decide +kernel
theorem dX8_removeAnnotation_88 : decode cX8_removeAnnotation 88 = .ok (.iaload, 1) := by decide +kernel
theorem dX8_removeAnnotation_89 : decode cX8_removeAnnotation 89 = .ok (.ireturn, 1) := by decide +kernel
theorem dX8_keep_0 : decode cX8_keep 0 = .ok (.aload_n 0, 1) := by decide +kernel
theorem dX8_keep_1 : decode cX8_keep 1 = .ok (.getfield 102, 3) := by decide +kernel
theorem dX8_keep_4 : decode cX8_keep 4 = .ok (.iconst 4, 1) := by decide +kernel
theorem dX8_keep_5 : decode cX8_keep 5 = .ok (.if_icmp .ne 46, 3) := by decide +kernel
theorem dX8_keep_8 : decode cX8_keep 8 = .ok (.sipush 3695, 3) := by decide +kernel
theorem dX8_keep_11 : decode cX8_keep 11 = .ok (.istore_n 1, 1) := by decide +kernel
theorem dX8_keep_12 : decode cX8_keep 12 = .ok (.iload_n 1, 1) := by decide +kernel
theorem dX8_keep_13 : decode cX8_keep 13 = .ok (.sipush 14780, 3) := by decide +kernel
theorem dX8_keep_16 : decode cX8_keep 16 = .ok (.if_icmp .ge 25, 3) := by decide +kernel
theorem dX8_keep_19 : decode cX8_keep 19 = .ok (.aload_n 0, 1) := by decide +kernel
theorem dX8_keep_20 : decode cX8_keep 20 = .ok (.getfield 13, 3) := by decide +kernel
theorem dX8_keep_23 : decode cX8_keep 23 = .ok (.iload_n 1, 1) := by decide +kernel
theorem dX8_keep_24 : decode cX8_keep 24 = .ok (.sipush 3695, 3) := by decide +kernel
theorem dX8_keep_27 : decode cX8_keep 27 = .ok (.isub, 1) := by decide +kernel
theorem dX8_keep_28 : decode cX8_keep 28 = .ok (.aload_n 0, 1) := by decide +kernel
theorem dX8_keep_29 : decode cX8_keep 29 = .ok (.getfield 13, 3) := by decide +kernel
theorem dX8_keep_32 : decode cX8_keep 32 = .ok (.iload_n 1, 1) := by decide +kernel
theorem dX8_keep_33 : decode cX8_keep 33 = .ok (.iaload, 1) := by decide +kernel
theorem dX8_keep_34 : decode cX8_keep 34 = .ok (.iastore, 1) := by decide +kernel
theorem dX8_keep_35 : decode cX8_keep 35 = .ok (.iinc 1 1, 3) := by decide +kernel
theorem dX8_keep_38 : decode cX8_keep 38 = .ok (.goto (-26), 3) := by decide +kernel
theorem dX8_keep_41 : decode cX8_keep 41 = .ok (.aload_n 0, 1) := by decide +kernel
theorem dX8_keep_42 : decode cX8_keep 42 = .ok (.dup, 1) := by decide +kernel
theorem dX8_keep_43 : decode cX8_keep 43 = .ok (.getfield 102, 3) := by decide +kernel
theorem dX8_keep_46 : decode cX8_keep 46 = .ok (.iconst 1, 1) := by decide +kernel
theorem dX8_keep_47 : decode cX8_keep 47 = .ok (.isub, 1) := by decide +kernel
theorem dX8_keep_48 : decode cX8_keep 48 = .ok (.putfield 102, 3) := by decide +kernel
theorem dX8_keep_51 : decode cX8_keep 51 = .ok (.iconst 0, 1) := by decide +kernel
theorem dX8_keep_52 : decode cX8_keep 52 = .ok (.istore_n 1, 1) := by decide +kernel
theorem dX8_keep_53 : decode cX8_keep 53 = .ok (.iload_n 1, 1) := by decide +kernel
theorem dX8_keep_54 : decode cX8_keep 54 = .ok (.sipush 3695, 3) := by decide +kernel
theorem dX8_keep_57 : decode cX8_keep 57 = .ok (.if_icmp .ge 30, 3) := by decide +kernel
theorem dX8_keep_60 : decode cX8_keep 60 = .ok (.aload_n 0, 1) := by decide +kernel
theorem dX8_keep_61 : decode cX8_keep 61 = .ok (.getfield 13, 3) := by decide +kernel
theorem dX8_keep_64 : decode cX8_keep 64 = .ok (.sipush 3695, 3) := by decide +kernel
theorem dX8_keep_67 : decode cX8_keep 67 = .ok (.aload_n 0, 1) := by decide +kernel
theorem dX8_keep_68 : decode cX8_keep 68 = .ok (.getfield 102, 3) := by decide +kernel
theorem dX8_keep_71 : decode cX8_keep 71 = .ok (.imul, 1) := by decide +kernel
theorem dX8_keep_72 : decode cX8_keep 72 = .ok (.iload_n 1, 1) := by decide +kernel
theorem dX8_keep_73 : decode cX8_keep 73 = .ok (.iadd, 1) := by decide +kernel
theorem dX8_keep_74 : decode cX8_keep 74 = .ok (.aload_n 0, 1) := by decide +kernel
theorem dX8_keep_75 : decode cX8_keep 75 = .ok (.getfield 7, 3) := by decide +kernel
theorem dX8_keep_78 : decode cX8_keep 78 = .ok (.iload_n 1, 1) := by decide +kernel
theorem dX8_keep_79 : decode cX8_keep 79 = .ok (.iaload, 1) := by decide +kernel
theorem dX8_keep_80 : decode cX8_keep 80 = .ok (.iastore, 1) := by decide +kernel
theorem dX8_keep_81 : decode cX8_keep 81 = .ok (.iinc 1 1, 3) := by decide +kernel
theorem dX8_keep_84 : decode cX8_keep 84 = .ok (.goto (-31), 3) := by decide +kernel
theorem dX8_keep_87 : decode cX8_keep 87 = .ok (.aload_n 0, 1) := by decide +kernel
theorem dX8_keep_88 : decode cX8_keep 88 = .ok (.dup, 1) := by decide +kernel
theorem dX8_keep_89 : decode cX8_keep 89 = .ok (.getfield 102, 3) := by decide +kernel
theorem dX8_keep_92 : decode cX8_keep 92 = .ok (.iconst 1, 1) := by decide +kernel
theorem dX8_keep_93 : decode cX8_keep 93 = .ok (.iadd, 1) := by decide +kernel
theorem dX8_keep_94 : decode cX8_keep 94 = .ok (.putfield 102, 3) := by decide +kernel
theorem dX8_keep_97 : decode cX8_keep 97 = .ok (.return_, 1) := by decide +kernel
theorem dX8_undo_0 : decode cX8_undo 0 = .ok (.aload_n 0, 1) := by decide +kernel
theorem dX8_undo_1 : decode cX8_undo 1 = .ok (.aload_n 0, 1) := by decide +kernel
theorem dX8_undo_2 : decode cX8_undo 2 = .ok (.getfield 102, 3) := by decide +kernel
theorem dX8_undo_5 : decode cX8_undo 5 = .ok (.ifCond .le 7, 3) := by decide +kernel
theorem dX8_undo_8 : decode cX8_undo 8 = .ok (.iconst 0, 1) := by decide +kernel
theorem dX8_undo_9 : decode cX8_undo 9 = .ok (.goto 4, 3) := by decide +kernel
theorem dX8_undo_12 : decode cX8_undo 12 = .ok (.iconst 1, 1) := by decide +kernel
theorem dX8_undo_13 : decode cX8_undo 13 = .ok (.putfield 47, 3) := by decide +kernel
theorem dX8_undo_16 : decode cX8_undo 16 = .ok (.aload_n 0, 1) := by decide +kernel
theorem dX8_undo_17 : decode cX8_undo 17 = .ok (.getfield 47, 3) := by decide +kernel
theorem dX8_undo_20 : decode cX8_undo 20 = .ok (.ifCond .le 5, 3) := by decide +kernel
theorem dX8_undo_23 : decode cX8_undo 23 = .ok (.iconst 0, 1) := by decide +kernel
theorem dX8_undo_24 : decode cX8_undo 24 = .ok (.ireturn, 1) := by decide +kernel
theorem dX8_undo_25 : decode cX8_undo 25 = .ok (.aload_n 0, 1) := by decide +kernel
theorem dX8_undo_26 : decode cX8_undo 26 = .ok (.dup, 1) := by decide +kernel
theorem dX8_undo_27 : decode cX8_undo 27 = .ok (.getfield 102, 3) := by decide +kernel
theorem dX8_undo_30 : decode cX8_undo 30 = .ok (.iconst 1, 1) := by decide +kernel
theorem dX8_undo_31 : decode cX8_undo 31 = .ok (.isub, 1) := by decide +kernel
theorem dX8_undo_32 : decode cX8_undo 32 = .ok (.putfield 102, 3) := by decide +kernel
theorem dX8_undo_35 : decode cX8_undo 35 = .ok (.iconst 0, 1) := by decide +kernel
theorem dX8_undo_36 : decode cX8_undo 36 = .ok (.istore_n 1, 1) := by decide +kernel
theorem dX8_undo_37 : decode cX8_undo 37 = .ok (.iload_n 1, 1) := by decide +kernel
theorem dX8_undo_38 : decode cX8_undo 38 = .ok (.sipush 3695, 3) := by decide +kernel
theorem dX8_undo_41 : decode cX8_undo 41 = .ok (.if_icmp .ge 30, 3) := by decide +kernel
theorem dX8_undo_44 : decode cX8_undo 44 = .ok (.aload_n 0, 1) := by decide +kernel
theorem dX8_undo_45 : decode cX8_undo 45 = .ok (.getfield 7, 3) := by decide +kernel
theorem dX8_undo_48 : decode cX8_undo 48 = .ok (.iload_n 1, 1) := by decide +kernel
theorem dX8_undo_49 : decode cX8_undo 49 = .ok (.aload_n 0, 1) := by decide +kernel
theorem dX8_undo_50 : decode cX8_undo 50 = .ok (.getfield 13, 3) := by decide +kernel
theorem dX8_undo_53 : decode cX8_undo 53 = .ok (.sipush 3695, 3) := by decide +kernel
theorem dX8_undo_56 : decode cX8_undo 56 = .ok (.aload_n 0, 1) := by decide +kernel
theorem dX8_undo_57 : decode cX8_undo 57 = .ok (.getfield 102, 3) := by decide +kernel
theorem dX8_undo_60 : decode cX8_undo 60 = .ok (.imul, 1) := by decide +kernel
theorem dX8_undo_61 : decode cX8_undo 61 = .ok (.iload_n 1, 1) := by decide +kernel
theorem dX8_undo_62 : decode cX8_undo 62 = .ok (.iadd, 1) := by decide +kernel
theorem dX8_undo_63 : decode cX8_undo 63 = .ok (.iaload, 1) := by decide +kernel
theorem dX8_undo_64 : decode cX8_undo 64 = .ok (.iastore, 1) := by decide +kernel
theorem dX8_undo_65 : decode cX8_undo 65 = .ok (.iinc 1 1, 3) := by decide +kernel
theorem dX8_undo_68 : decode cX8_undo 68 = .ok (.goto (-31), 3) := by decide +kernel
theorem dX8_undo_71 : decode cX8_undo 71 = .ok (.aload_n 0, 1) := by decide +kernel
theorem dX8_undo_72 : decode cX8_undo 72 = .ok (.getfield 102, 3) := by decide +kernel
theorem dX8_undo_75 : decode cX8_undo 75 = .ok (.ireturn, 1) := by decide +kernel
theorem dX8_open_0 : decode cX8_open 0 = .ok (.aload_n 0, 1) := by decide +kernel
theorem dX8_open_1 : decode cX8_open 1 = .ok (.getfield 7, 3) := by decide +kernel
theorem dX8_open_4 : decode cX8_open 4 = .ok (.bipush 85, 2) := by decide +kernel
theorem dX8_open_6 : decode cX8_open 6 = .ok (.iload_n 1, 1) := by decide +kernel
theorem dX8_open_7 : decode cX8_open 7 = .ok (.iadd, 1) := by decide +kernel
theorem dX8_open_8 : decode cX8_open 8 = .ok (.iaload, 1) := by decide +kernel
theorem dX8_open_9 : decode cX8_open 9 = .ok (.iconst 1, 1) := by decide +kernel
theorem dX8_open_10 : decode cX8_open 10 = .ok (.isub, 1) := by decide +kernel
theorem dX8_open_11 : decode cX8_open 11 = .ok (.istore 4, 2) := by decide +kernel
theorem dX8_open_13 : decode cX8_open 13 = .ok (.iload 4, 2) := by decide +kernel
theorem dX8_open_15 : decode cX8_open 15 = .ok (.iload_n 2, 1) := by decide +kernel
theorem dX8_open_16 : decode cX8_open 16 = .ok (.if_icmp .lt 43, 3) := by decide +kernel
theorem dX8_open_19 : decode cX8_open 19 = .ok (.aload_n 0, 1) := by decide +kernel
theorem dX8_open_20 : decode cX8_open 20 = .ok (.getfield 7, 3) := by decide +kernel
theorem dX8_open_23 : decode cX8_open 23 = .ok (.bipush 95, 2) := by decide +kernel
theorem dX8_open_25 : decode cX8_open 25 = .ok (.sipush 360, 3) := by decide +kernel
theorem dX8_open_28 : decode cX8_open 28 = .ok (.iload_n 1, 1) := by decide +kernel
theorem dX8_open_29 : decode cX8_open 29 = .ok (.imul, 1) := by decide +kernel
theorem dX8_open_30 : decode cX8_open 30 = .ok (.iadd, 1) := by decide +kernel
theorem dX8_open_31 : decode cX8_open 31 = .ok (.iload 4, 2) := by decide +kernel
theorem dX8_open_33 : decode cX8_open 33 = .ok (.iadd, 1) := by decide +kernel
theorem dX8_open_34 : decode cX8_open 34 = .ok (.iload_n 3, 1) := by decide +kernel
theorem dX8_open_35 : decode cX8_open 35 = .ok (.iadd, 1) := by decide +kernel
theorem dX8_open_36 : decode cX8_open 36 = .ok (.aload_n 0, 1) := by decide +kernel
theorem dX8_open_37 : decode cX8_open 37 = .ok (.getfield 7, 3) := by decide +kernel
theorem dX8_open_40 : decode cX8_open 40 = .ok (.bipush 95, 2) := by decide +kernel
theorem dX8_open_42 : decode cX8_open 42 = .ok (.sipush 360, 3) := by decide +kernel
theorem dX8_open_45 : decode cX8_open 45 = .ok (.iload_n 1, 1) := by decide +kernel
theorem dX8_open_46 : decode cX8_open 46 = .ok (.imul, 1) := by decide +kernel
theorem dX8_open_47 : decode cX8_open 47 = .ok (.iadd, 1) := by decide +kernel
theorem dX8_open_48 : decode cX8_open 48 = .ok (.iload 4, 2) := by decide +kernel
theorem dX8_open_50 : decode cX8_open 50 = .ok (.iadd, 1) := by decide +kernel
theorem dX8_open_51 : decode cX8_open 51 = .ok (.iaload, 1) := by decide +kernel
theorem dX8_open_52 : decode cX8_open 52 = .ok (.iastore, 1) := by decide +kernel
theorem dX8_open_53 : decode cX8_open 53 = .ok (.iinc 4 (-1), 3) := by decide +kernel
theorem dX8_open_56 : decode cX8_open 56 = .ok (.goto (-43), 3) := by decide +kernel
theorem dX8_open_59 : decode cX8_open 59 = .ok (.aload_n 0, 1) := by decide +kernel
theorem dX8_open_60 : decode cX8_open 60 = .ok (.getfield 7, 3) := by decide +kernel
theorem dX8_open_63 : decode cX8_open 63 = .ok (.bipush 85, 2) := by decide +kernel
theorem dX8_open_65 : decode cX8_open 65 = .ok (.iload_n 1, 1) := by decide +kernel
theorem dX8_open_66 : decode cX8_open 66 = .ok (.iadd, 1) := by decide +kernel
theorem dX8_open_67 : decode cX8_open 67 = .ok (.dup2, 1) := by decide +kernel
theorem dX8_open_68 : decode cX8_open 68 = .ok (.iaload, 1) := by decide +kernel
theorem dX8_open_69 : decode cX8_open 69 = .ok (.iload_n 3, 1) := by decide +kernel
theorem dX8_open_70 : decode cX8_open 70 = .ok (.iadd, 1) := by decide +kernel
theorem dX8_open_71 : decode cX8_open 71 = .ok (.iastore, 1) := by decide +kernel
theorem dX8_open_72 : decode cX8_open 72 = .ok (.iconst 0, 1) := by decide +kernel
theorem dX8_open_73 : decode cX8_open 73 = .ok (.istore 4, 2) := by decide +kernel
theorem dX8_open_75 : decode cX8_open 75 = .ok (.iload 4, 2) := by decide +kernel
theorem dX8_open_77 : decode cX8_open 77 = .ok (.aload_n 0, 1) := by decide +kernel
theorem dX8_open_78 : decode cX8_open 78 = .ok (.getfield 7, 3) := by decide +kernel
theorem dX8_open_81 : decode cX8_open 81 = .ok (.iconst 3, 1) := by decide +kernel
theorem dX8_open_82 : decode cX8_open 82 = .ok (.iaload, 1) := by decide +kernel
theorem dX8_open_83 : decode cX8_open 83 = .ok (.if_icmp .gt 69, 3) := by decide +kernel
theorem dX8_open_86 : decode cX8_open 86 = .ok (.iload 4, 2) := by decide +kernel
theorem dX8_open_88 : decode cX8_open 88 = .ok (.ifCond .ne 7, 3) := by decide +kernel
theorem dX8_open_91 : decode cX8_open 91 = .ok (.iconst 1, 1) := by decide +kernel
theorem dX8_open_92 : decode cX8_open 92 = .ok (.goto 11, 3) := by decide +kernel
theorem dX8_open_95 : decode cX8_open 95 = .ok (.iconst 4, 1) := by decide +kernel
theorem dX8_open_96 : decode cX8_open 96 = .ok (.iconst 2, 1) := by decide +kernel
theorem dX8_open_97 : decode cX8_open 97 = .ok (.iload 4, 2) := by decide +kernel
theorem dX8_open_99 : decode cX8_open 99 = .ok (.imul, 1) := by decide +kernel
theorem dX8_open_100 : decode cX8_open 100 = .ok (.iadd, 1) := by decide +kernel
theorem dX8_open_101 : decode cX8_open 101 = .ok (.iconst 2, 1) := by decide +kernel
theorem dX8_open_102 : decode cX8_open 102 = .ok (.isub, 1) := by decide +kernel
theorem dX8_open_103 : decode cX8_open 103 = .ok (.istore 5, 2) := by decide +kernel
theorem dX8_open_105 : decode cX8_open 105 = .ok (.aload_n 0, 1) := by decide +kernel
theorem dX8_open_106 : decode cX8_open 106 = .ok (.getfield 7, 3) := by decide +kernel
theorem dX8_open_109 : decode cX8_open 109 = .ok (.iload 5, 2) := by decide +kernel
theorem dX8_open_111 : decode cX8_open 111 = .ok (.iconst 1, 1) := by decide +kernel
theorem dX8_open_112 : decode cX8_open 112 = .ok (.iadd, 1) := by decide +kernel
theorem dX8_open_113 : decode cX8_open 113 = .ok (.dup2, 1) := by decide +kernel
theorem dX8_open_114 : decode cX8_open 114 = .ok (.iaload, 1) := by decide +kernel
theorem dX8_open_115 : decode cX8_open 115 = .ok (.aload_n 0, 1) := by decide +kernel
theorem dX8_open_116 : decode cX8_open 116 = .ok (.getfield 7, 3) := by decide +kernel
theorem dX8_open_119 : decode cX8_open 119 = .ok (.iload 5, 2) := by decide +kernel
theorem dX8_open_121 : decode cX8_open 121 = .ok (.iaload, 1) := by decide +kernel
theorem dX8_open_122 : decode cX8_open 122 = .ok (.iload_n 1, 1) := by decide +kernel
theorem dX8_open_123 : decode cX8_open 123 = .ok (.if_icmp .ne 20, 3) := by decide +kernel
theorem dX8_open_126 : decode cX8_open 126 = .ok (.aload_n 0, 1) := by decide +kernel
theorem dX8_open_127 : decode cX8_open 127 = .ok (.getfield 7, 3) := by decide +kernel
theorem dX8_open_130 : decode cX8_open 130 = .ok (.iload 5, 2) := by decide +kernel
theorem dX8_open_132 : decode cX8_open 132 = .ok (.iconst 1, 1) := by decide +kernel
theorem dX8_open_133 : decode cX8_open 133 = .ok (.iadd, 1) := by decide +kernel
theorem dX8_open_134 : decode cX8_open 134 = .ok (.iaload, 1) := by decide +kernel
theorem dX8_open_135 : decode cX8_open 135 = .ok (.iload_n 2, 1) := by decide +kernel
theorem dX8_open_136 : decode cX8_open 136 = .ok (.if_icmp .lt 7, 3) := by decide +kernel
theorem dX8_open_139 : decode cX8_open 139 = .ok (.iload_n 3, 1) := by decide +kernel
theorem dX8_open_140 : decode cX8_open 140 = .ok (.goto 4, 3) := by decide +kernel
theorem dX8_open_143 : decode cX8_open 143 = .ok (.iconst 0, 1) := by decide +kernel
theorem dX8_open_144 : decode cX8_open 144 = .ok (.iadd, 1) := by decide +kernel
theorem dX8_open_145 : decode cX8_open 145 = .ok (.iastore, 1) := by decide +kernel
theorem dX8_open_146 : decode cX8_open 146 = .ok (.iinc 4 1, 3) := by decide +kernel
theorem dX8_open_149 : decode cX8_open 149 = .ok (.goto (-74), 3) := by decide +kernel
theorem dX8_open_152 : decode cX8_open 152 = .ok (.iconst 0, 1) := by decide +kernel
theorem dX8_open_153 : decode cX8_open 153 = .ok (.istore 4, 2) := by decide +kernel
theorem dX8_open_155 : decode cX8_open 155 = .ok (.iload 4, 2) := by decide +kernel
theorem dX8_open_157 : decode cX8_open 157 = .ok (.aload_n 0, 1) := by decide +kernel
theorem dX8_open_158 : decode cX8_open 158 = .ok (.getfield 7, 3) := by decide +kernel
theorem dX8_open_161 : decode cX8_open 161 = .ok (.bipush 14, 2) := by decide +kernel
theorem dX8_open_163 : decode cX8_open 163 = .ok (.iaload, 1) := by decide +kernel
theorem dX8_open_164 : decode cX8_open 164 = .ok (.if_icmp .ge 135, 3) := by decide +kernel
theorem dX8_open_167 : decode cX8_open 167 = .ok (.bipush 15, 2) := by decide +kernel
theorem dX8_open_169 : decode cX8_open 169 = .ok (.iconst 5, 1) := by decide +kernel
theorem dX8_open_170 : decode cX8_open 170 = .ok (.iload 4, 2) := by decide +kernel
theorem dX8_open_172 : decode cX8_open 172 = .ok (.imul, 1) := by decide +kernel
theorem dX8_open_173 : decode cX8_open 173 = .ok (.iadd, 1) := by decide +kernel
theorem dX8_open_174 : decode cX8_open 174 = .ok (.istore 5, 2) := by decide +kernel
theorem dX8_open_176 : decode cX8_open 176 = .ok (.aload_n 0, 1) := by decide +kernel
theorem dX8_open_177 : decode cX8_open 177 = .ok (.getfield 7, 3) := by decide +kernel
theorem dX8_open_180 : decode cX8_open 180 = .ok (.iload 5, 2) := by decide +kernel
theorem dX8_open_182 : decode cX8_open 182 = .ok (.iaload, 1) := by decide +kernel
theorem dX8_open_183 : decode cX8_open 183 = .ok (.iload_n 1, 1) := by decide +kernel
theorem dX8_open_184 : decode cX8_open 184 = .ok (.if_icmp .ne 7, 3) := by decide +kernel
theorem dX8_open_187 : decode cX8_open 187 = .ok (.iconst 1, 1) := by decide +kernel
theorem dX8_open_188 : decode cX8_open 188 = .ok (.goto 4, 3) := by decide +kernel
theorem dX8_open_191 : decode cX8_open 191 = .ok (.iconst 0, 1) := by decide +kernel
theorem dX8_open_192 : decode cX8_open 192 = .ok (.istore 6, 2) := by decide +kernel
theorem dX8_open_194 : decode cX8_open 194 = .ok (.aload_n 0, 1) := by decide +kernel
theorem dX8_open_195 : decode cX8_open 195 = .ok (.getfield 7, 3) := by decide +kernel
theorem dX8_open_198 : decode cX8_open 198 = .ok (.iload 5, 2) := by decide +kernel
theorem dX8_open_200 : decode cX8_open 200 = .ok (.iconst 2, 1) := by decide +kernel
theorem dX8_open_201 : decode cX8_open 201 = .ok (.iadd, 1) := by decide +kernel
theorem dX8_open_202 : decode cX8_open 202 = .ok (.dup2, 1) := by decide +kernel
theorem dX8_open_203 : decode cX8_open 203 = .ok (.iaload, 1) := by decide +kernel
theorem dX8_open_204 : decode cX8_open 204 = .ok (.iload 6, 2) := by decide +kernel
theorem dX8_open_206 : decode cX8_open 206 = .ok (.ifCond .eq 49, 3) := by decide +kernel
theorem dX8_open_209 : decode cX8_open 209 = .ok (.aload_n 0, 1) := by decide +kernel
theorem dX8_open_210 : decode cX8_open 210 = .ok (.getfield 7, 3) := by decide +kernel
theorem dX8_open_213 : decode cX8_open 213 = .ok (.iload 5, 2) := by decide +kernel
theorem dX8_open_215 : decode cX8_open 215 = .ok (.iconst 4, 1) := by decide +kernel
theorem dX8_open_216 : decode cX8_open 216 = .ok (.iadd, 1) := by decide +kernel
theorem dX8_open_217 : decode cX8_open 217 = .ok (.iaload, 1) := by decide +kernel
theorem dX8_open_218 : decode cX8_open 218 = .ok (.iconst 1, 1) := by decide +kernel
theorem dX8_open_219 : decode cX8_open 219 = .ok (.if_icmp .ne 19, 3) := by decide +kernel
theorem dX8_open_222 : decode cX8_open 222 = .ok (.aload_n 0, 1) := by decide +kernel
theorem dX8_open_223 : decode cX8_open 223 = .ok (.getfield 7, 3) := by decide +kernel
theorem dX8_open_226 : decode cX8_open 226 = .ok (.iload 5, 2) := by decide +kernel
theorem dX8_open_228 : decode cX8_open 228 = .ok (.iconst 2, 1) := by decide +kernel
theorem dX8_open_229 : decode cX8_open 229 = .ok (.iadd, 1) := by decide +kernel
theorem dX8_open_230 : decode cX8_open 230 = .ok (.iaload, 1) := by decide +kernel
theorem dX8_open_231 : decode cX8_open 231 = .ok (.iload_n 2, 1) := by decide +kernel
theorem dX8_open_232 : decode cX8_open 232 = .ok (.if_icmp .lt 23, 3) := by decide +kernel
theorem dX8_open_235 : decode cX8_open 235 = .ok (.goto 16, 3) := by decide +kernel
theorem dX8_open_238 : decode cX8_open 238 = .ok (.aload_n 0, 1) := by decide +kernel
theorem dX8_open_239 : decode cX8_open 239 = .ok (.getfield 7, 3) := by decide +kernel
theorem dX8_open_242 : decode cX8_open 242 = .ok (.iload 5, 2) := by decide +kernel
theorem dX8_open_244 : decode cX8_open 244 = .ok (.iconst 2, 1) := by decide +kernel
theorem dX8_open_245 : decode cX8_open 245 = .ok (.iadd, 1) := by decide +kernel
theorem dX8_open_246 : decode cX8_open 246 = .ok (.iaload, 1) := by decide +kernel
theorem dX8_open_247 : decode cX8_open 247 = .ok (.iload_n 2, 1) := by decide +kernel
theorem dX8_open_248 : decode cX8_open 248 = .ok (.if_icmp .le 7, 3) := by decide +kernel
theorem dX8_open_251 : decode cX8_open 251 = .ok (.iload_n 3, 1) := by decide +kernel
theorem dX8_open_252 : decode cX8_open 252 = .ok (.goto 4, 3) := by decide +kernel
theorem dX8_open_255 : decode cX8_open 255 = .ok (.iconst 0, 1) := by decide +kernel
theorem dX8_open_256 : decode cX8_open 256 = .ok (.iadd, 1) := by decide +kernel
theorem dX8_open_257 : decode cX8_open 257 = .ok (.iastore, 1) := by decide +kernel
theorem dX8_open_258 : decode cX8_open 258 = .ok (.aload_n 0, 1) := by decide +kernel
theorem dX8_open_259 : decode cX8_open 259 = .ok (.getfield 7, 3) := by decide +kernel
theorem dX8_open_262 : decode cX8_open 262 = .ok (.iload 5, 2) := by decide +kernel
theorem dX8_open_264 : decode cX8_open 264 = .ok (.iconst 1, 1) := by decide +kernel
theorem dX8_open_265 : decode cX8_open 265 = .ok (.iadd, 1) := by decide +kernel
theorem dX8_open_266 : decode cX8_open 266 = .ok (.dup2, 1) := by decide +kernel
theorem dX8_open_267 : decode cX8_open 267 = .ok (.iaload, 1) := by decide +kernel
theorem dX8_open_268 : decode cX8_open 268 = .ok (.iload 6, 2) := by decide +kernel
theorem dX8_open_270 : decode cX8_open 270 = .ok (.ifCond .eq 20, 3) := by decide +kernel
theorem dX8_open_273 : decode cX8_open 273 = .ok (.aload_n 0, 1) := by decide +kernel
theorem dX8_open_274 : decode cX8_open 274 = .ok (.getfield 7, 3) := by decide +kernel
theorem dX8_open_277 : decode cX8_open 277 = .ok (.iload 5, 2) := by decide +kernel
theorem dX8_open_279 : decode cX8_open 279 = .ok (.iconst 1, 1) := by decide +kernel
theorem dX8_open_280 : decode cX8_open 280 = .ok (.iadd, 1) := by decide +kernel
theorem dX8_open_281 : decode cX8_open 281 = .ok (.iaload, 1) := by decide +kernel
theorem dX8_open_282 : decode cX8_open 282 = .ok (.iload_n 2, 1) := by decide +kernel
theorem dX8_open_283 : decode cX8_open 283 = .ok (.if_icmp .lt 7, 3) := by decide +kernel
theorem dX8_open_286 : decode cX8_open 286 = .ok (.iload_n 3, 1) := by decide +kernel
theorem dX8_open_287 : decode cX8_open 287 = .ok (.goto 4, 3) := by decide +kernel
theorem dX8_open_290 : decode cX8_open 290 = .ok (.iconst 0, 1) := by decide +kernel
theorem dX8_open_291 : decode cX8_open 291 = .ok (.iadd, 1) := by decide +kernel
theorem dX8_open_292 : decode cX8_open 292 = .ok (.iastore, 1) := by decide +kernel
theorem dX8_open_293 : decode cX8_open 293 = .ok (.iinc 4 1, 3) := by decide +kernel
theorem dX8_open_296 : decode cX8_open 296 = .ok (.goto (-141), 3) := by decide +kernel
theorem dX8_open_299 : decode cX8_open 299 = .ok (.return_, 1) := by decide +kernel
theorem dX8_listWords_0 : decode cX8_listWords 0 = .ok (.iconst 1, 1) := by decide +kernel
theorem dX8_listWords_1 : decode cX8_listWords 1 = .ok (.istore_n 1, 1) := by decide +kernel
theorem dX8_listWords_2 : decode cX8_listWords 2 = .ok (.iconst 0, 1) := by decide +kernel
theorem dX8_listWords_3 : decode cX8_listWords 3 = .ok (.istore_n 2, 1) := by decide +kernel
theorem dX8_listWords_4 : decode cX8_listWords 4 = .ok (.iload_n 2, 1) := by decide +kernel
theorem dX8_listWords_5 : decode cX8_listWords 5 = .ok (.aload_n 0, 1) := by decide +kernel
theorem dX8_listWords_6 : decode cX8_listWords 6 = .ok (.getfield 54, 3) := by decide +kernel
theorem dX8_listWords_9 : decode cX8_listWords 9 = .ok (.if_icmp .ge 28, 3) := by decide +kernel
theorem dX8_listWords_12 : decode cX8_listWords 12 = .ok (.iload_n 1, 1) := by decide +kernel
theorem dX8_listWords_13 : decode cX8_listWords 13 = .ok (.aload_n 0, 1) := by decide +kernel
theorem dX8_listWords_14 : decode cX8_listWords 14 = .ok (.getfield 32, 3) := by decide +kernel
theorem dX8_listWords_17 : decode cX8_listWords 17 = .ok (.iload_n 2, 1) := by decide +kernel
theorem dX8_listWords_18 : decode cX8_listWords 18 = .ok (.iaload, 1) := by decide +kernel
theorem dX8_listWords_19 : decode cX8_listWords 19 = .ok (.bipush 32, 2) := by decide +kernel
theorem dX8_listWords_21 : decode cX8_listWords 21 = .ok (.if_icmp .ne 7, 3) := by decide +kernel
theorem dX8_listWords_24 : decode cX8_listWords 24 = .ok (.iconst 1, 1) := by decide +kernel
theorem dX8_listWords_25 : decode cX8_listWords 25 = .ok (.goto 4, 3) := by decide +kernel
theorem dX8_listWords_28 : decode cX8_listWords 28 = .ok (.iconst 0, 1) := by decide +kernel
theorem dX8_listWords_29 : decode cX8_listWords 29 = .ok (.iadd, 1) := by decide +kernel
theorem dX8_listWords_30 : decode cX8_listWords 30 = .ok (.istore_n 1, 1) := by decide +kernel
theorem dX8_listWords_31 : decode cX8_listWords 31 = .ok (.iinc 2 1, 3) := by decide +kernel
theorem dX8_listWords_34 : decode cX8_listWords 34 = .ok (.goto (-30), 3) := by decide +kernel
theorem dX8_listWords_37 : decode cX8_listWords 37 = .ok (.iload_n 1, 1) := by decide +kernel
theorem dX8_listWords_38 : decode cX8_listWords 38 = .ok (.ireturn, 1) := by decide +kernel
theorem dX8_putIn_0 : decode cX8_putIn 0 = .ok (.iload_n 2, 1) := by decide +kernel
theorem dX8_putIn_1 : decode cX8_putIn 1 = .ok (.aload_n 0, 1) := by decide +kernel
theorem dX8_putIn_2 : decode cX8_putIn 2 = .ok (.iload_n 1, 1) := by decide +kernel
theorem dX8_putIn_3 : decode cX8_putIn 3 = .ok (.invokevirtual 260, 3) := by decide +kernel
theorem dX8_putIn_6 : decode cX8_putIn 6 = .ok (.if_icmp .ne 7, 3) := by decide +kernel
theorem dX8_putIn_9 : decode cX8_putIn 9 = .ok (.iconst 1, 1) := by decide +kernel
theorem dX8_putIn_10 : decode cX8_putIn 10 = .ok (.goto 4, 3) := by decide +kernel
theorem dX8_putIn_13 : decode cX8_putIn 13 = .ok (.iconst 0, 1) := by decide +kernel
theorem dX8_putIn_14 : decode cX8_putIn 14 = .ok (.istore_n 3, 1) := by decide +kernel
theorem dX8_putIn_15 : decode cX8_putIn 15 = .ok (.aload_n 0, 1) := by decide +kernel
theorem dX8_putIn_16 : decode cX8_putIn 16 = .ok (.iload_n 1, 1) := by decide +kernel
theorem dX8_putIn_17 : decode cX8_putIn 17 = .ok (.iload_n 2, 1) := by decide +kernel
theorem dX8_putIn_18 : decode cX8_putIn 18 = .ok (.invokevirtual 290, 3) := by decide +kernel
theorem dX8_putIn_21 : decode cX8_putIn 21 = .ok (.istore 4, 2) := by decide +kernel
theorem dX8_putIn_23 : decode cX8_putIn 23 = .ok (.aload_n 0, 1) := by decide +kernel
theorem dX8_putIn_24 : decode cX8_putIn 24 = .ok (.iload_n 1, 1) := by decide +kernel
theorem dX8_putIn_25 : decode cX8_putIn 25 = .ok (.iload 4, 2) := by decide +kernel
theorem dX8_putIn_27 : decode cX8_putIn 27 = .ok (.aload_n 0, 1) := by decide +kernel
theorem dX8_putIn_28 : decode cX8_putIn 28 = .ok (.getfield 54, 3) := by decide +kernel
theorem dX8_putIn_31 : decode cX8_putIn 31 = .ok (.iconst 1, 1) := by decide +kernel
theorem dX8_putIn_32 : decode cX8_putIn 32 = .ok (.iadd, 1) := by decide +kernel
theorem dX8_putIn_33 : decode cX8_putIn 33 = .ok (.invokevirtual 293, 3) := by decide +kernel
theorem dX8_putIn_36 : decode cX8_putIn 36 = .ok (.bipush 95, 2) := by decide +kernel
theorem dX8_putIn_38 : decode cX8_putIn 38 = .ok (.sipush 360, 3) := by decide +kernel
theorem dX8_putIn_41 : decode cX8_putIn 41 = .ok (.iload_n 1, 1) := by decide +kernel
theorem dX8_putIn_42 : decode cX8_putIn 42 = .ok (.imul, 1) := by decide +kernel
theorem dX8_putIn_43 : decode cX8_putIn 43 = .ok (.iadd, 1) := by decide +kernel
theorem dX8_putIn_44 : decode cX8_putIn 44 = .ok (.iload 4, 2) := by decide +kernel
theorem dX8_putIn_46 : decode cX8_putIn 46 = .ok (.iadd, 1) := by decide +kernel
theorem dX8_putIn_47 : decode cX8_putIn 47 = .ok (.istore 5, 2) := by decide +kernel
theorem dX8_putIn_49 : decode cX8_putIn 49 = .ok (.iconst 0, 1) := by decide +kernel
theorem dX8_putIn_50 : decode cX8_putIn 50 = .ok (.istore 6, 2) := by decide +kernel
theorem dX8_putIn_52 : decode cX8_putIn 52 = .ok (.iload 6, 2) := by decide +kernel
theorem dX8_putIn_54 : decode cX8_putIn 54 = .ok (.aload_n 0, 1) := by decide +kernel
theorem dX8_putIn_55 : decode cX8_putIn 55 = .ok (.getfield 54, 3) := by decide +kernel
theorem dX8_putIn_58 : decode cX8_putIn 58 = .ok (.if_icmp .ge 36, 3) := by decide +kernel
theorem dX8_putIn_61 : decode cX8_putIn 61 = .ok (.aload_n 0, 1) := by decide +kernel
theorem dX8_putIn_62 : decode cX8_putIn 62 = .ok (.getfield 7, 3) := by decide +kernel
theorem dX8_putIn_65 : decode cX8_putIn 65 = .ok (.iload 5, 2) := by decide +kernel
theorem dX8_putIn_67 : decode cX8_putIn 67 = .ok (.iload 6, 2) := by decide +kernel
theorem dX8_putIn_69 : decode cX8_putIn 69 = .ok (.iadd, 1) := by decide +kernel
theorem dX8_putIn_70 : decode cX8_putIn 70 = .ok (.iload_n 3, 1) := by decide +kernel
theorem dX8_putIn_71 : decode cX8_putIn 71 = .ok (.ifCond .eq 7, 3) := by decide +kernel
theorem dX8_putIn_74 : decode cX8_putIn 74 = .ok (.iconst 1, 1) := by decide +kernel
theorem dX8_putIn_75 : decode cX8_putIn 75 = .ok (.goto 4, 3) := by decide +kernel
theorem dX8_putIn_78 : decode cX8_putIn 78 = .ok (.iconst 0, 1) := by decide +kernel
theorem dX8_putIn_79 : decode cX8_putIn 79 = .ok (.iadd, 1) := by decide +kernel
theorem dX8_putIn_80 : decode cX8_putIn 80 = .ok (.aload_n 0, 1) := by decide +kernel
theorem dX8_putIn_81 : decode cX8_putIn 81 = .ok (.getfield 32, 3) := by decide +kernel
theorem dX8_putIn_84 : decode cX8_putIn 84 = .ok (.iload 6, 2) := by decide +kernel
theorem dX8_putIn_86 : decode cX8_putIn 86 = .ok (.iaload, 1) := by decide +kernel
theorem dX8_putIn_87 : decode cX8_putIn 87 = .ok (.iastore, 1) := by decide +kernel
theorem dX8_putIn_88 : decode cX8_putIn 88 = .ok (.iinc 6 1, 3) := by decide +kernel
theorem dX8_putIn_91 : decode cX8_putIn 91 = .ok (.goto (-39), 3) := by decide +kernel
theorem dX8_putIn_94 : decode cX8_putIn 94 = .ok (.aload_n 0, 1) := by decide +kernel
theorem dX8_putIn_95 : decode cX8_putIn 95 = .ok (.getfield 7, 3) := by decide +kernel
theorem dX8_putIn_98 : decode cX8_putIn 98 = .ok (.iload 5, 2) := by decide +kernel
theorem dX8_putIn_100 : decode cX8_putIn 100 = .ok (.iload_n 3, 1) := by decide +kernel
theorem dX8_putIn_101 : decode cX8_putIn 101 = .ok (.ifCond .eq 7, 3) := by decide +kernel
theorem dX8_putIn_104 : decode cX8_putIn 104 = .ok (.iconst 0, 1) := by decide +kernel
theorem dX8_putIn_105 : decode cX8_putIn 105 = .ok (.goto 7, 3) := by decide +kernel
theorem dX8_putIn_108 : decode cX8_putIn 108 = .ok (.aload_n 0, 1) := by decide +kernel
theorem dX8_putIn_109 : decode cX8_putIn 109 = .ok (.getfield 54, 3) := by decide +kernel
theorem dX8_putIn_112 : decode cX8_putIn 112 = .ok (.iadd, 1) := by decide +kernel
theorem dX8_putIn_113 : decode cX8_putIn 113 = .ok (.bipush 32, 2) := by decide +kernel
theorem dX8_putIn_115 : decode cX8_putIn 115 = .ok (.iastore, 1) := by decide +kernel
theorem dX8_putIn_116 : decode cX8_putIn 116 = .ok (.return_, 1) := by decide +kernel
theorem dX8_insert_0 : decode cX8_insert 0 = .ok (.aload_n 0, 1) := by decide +kernel
theorem dX8_insert_1 : decode cX8_insert 1 = .ok (.iload_n 1, 1) := by decide +kernel
theorem dX8_insert_2 : decode cX8_insert 2 = .ok (.invokevirtual 278, 3) := by decide +kernel
theorem dX8_insert_5 : decode cX8_insert 5 = .ok (.ifCond .eq 20, 3) := by decide +kernel
theorem dX8_insert_8 : decode cX8_insert 8 = .ok (.iload_n 2, 1) := by decide +kernel
theorem dX8_insert_9 : decode cX8_insert 9 = .ok (.iconst 0, 1) := by decide +kernel
theorem dX8_insert_10 : decode cX8_insert 10 = .ok (.aload_n 0, 1) := by decide +kernel
theorem dX8_insert_11 : decode cX8_insert 11 = .ok (.iload_n 1, 1) := by decide +kernel
theorem dX8_insert_12 : decode cX8_insert 12 = .ok (.invokevirtual 260, 3) := by decide +kernel
theorem dX8_insert_15 : decode cX8_insert 15 = .ok (.invokestatic 50, 3) := by decide +kernel
theorem dX8_insert_18 : decode cX8_insert 18 = .ok (.ifCond .eq 7, 3) := by decide +kernel
theorem dX8_insert_21 : decode cX8_insert 21 = .ok (.iconst 1, 1) := by decide +kernel
theorem dX8_insert_22 : decode cX8_insert 22 = .ok (.goto 4, 3) := by decide +kernel
theorem dX8_insert_25 : decode cX8_insert 25 = .ok (.iconst 0, 1) := by decide +kernel
theorem dX8_insert_26 : decode cX8_insert 26 = .ok (.istore_n 3, 1) := by decide +kernel
theorem dX8_insert_27 : decode cX8_insert 27 = .ok (.aload_n 0, 1) := by decide +kernel
theorem dX8_insert_28 : decode cX8_insert 28 = .ok (.iload_n 3, 1) := by decide +kernel
theorem dX8_insert_29 : decode cX8_insert 29 = .ok (.ifCond .ne 7, 3) := by decide +kernel
theorem dX8_insert_32 : decode cX8_insert 32 = .ok (.iconst 1, 1) := by decide +kernel
theorem dX8_insert_33 : decode cX8_insert 33 = .ok (.goto 31, 3) := by decide +kernel
theorem dX8_insert_36 : decode cX8_insert 36 = .ok (.aload_n 0, 1) := by decide +kernel
theorem dX8_insert_37 : decode cX8_insert 37 = .ok (.iconst 0, 1) := by decide +kernel
theorem dX8_insert_38 : decode cX8_insert 38 = .ok (.invokevirtual 96, 3) := by decide +kernel
theorem dX8_insert_41 : decode cX8_insert 41 = .ok (.ifCond .eq 22, 3) := by decide +kernel
theorem dX8_insert_44 : decode cX8_insert 44 = .ok (.aload_n 0, 1) := by decide +kernel
theorem dX8_insert_45 : decode cX8_insert 45 = .ok (.iload_n 1, 1) := by decide +kernel
theorem dX8_insert_46 : decode cX8_insert 46 = .ok (.invokevirtual 260, 3) := by decide +kernel
theorem dX8_insert_49 : decode cX8_insert 49 = .ok (.aload_n 0, 1) := by decide +kernel
theorem dX8_insert_50 : decode cX8_insert 50 = .ok (.invokevirtual 297, 3) := by decide +kernel
theorem dX8_insert_53 : decode cX8_insert 53 = .ok (.iadd, 1) := by decide +kernel
theorem dX8_insert_54 : decode cX8_insert 54 = .ok (.bipush 24, 2) := by decide +kernel
theorem dX8_insert_56 : decode cX8_insert 56 = .ok (.if_icmp .gt 7, 3) := by decide +kernel
theorem dX8_insert_59 : decode cX8_insert 59 = .ok (.iconst 0, 1) := by decide +kernel
theorem dX8_insert_60 : decode cX8_insert 60 = .ok (.goto 4, 3) := by decide +kernel
theorem dX8_insert_63 : decode cX8_insert 63 = .ok (.iconst 2, 1) := by decide +kernel
theorem dX8_insert_64 : decode cX8_insert 64 = .ok (.putfield 47, 3) := by decide +kernel
theorem dX8_insert_67 : decode cX8_insert 67 = .ok (.aload_n 0, 1) := by decide +kernel
theorem dX8_insert_68 : decode cX8_insert 68 = .ok (.getfield 47, 3) := by decide +kernel
theorem dX8_insert_71 : decode cX8_insert 71 = .ok (.ifCond .le 5, 3) := by decide +kernel
theorem dX8_insert_74 : decode cX8_insert 74 = .ok (.iconst 0, 1) := by decide +kernel
theorem dX8_insert_75 : decode cX8_insert 75 = .ok (.ireturn, 1) := by decide +kernel
theorem dX8_insert_76 : decode cX8_insert 76 = .ok (.aload_n 0, 1) := by decide +kernel
theorem dX8_insert_77 : decode cX8_insert 77 = .ok (.invokevirtual 300, 3) := by decide +kernel
theorem dX8_insert_80 : decode cX8_insert 80 = .ok (.aload_n 0, 1) := by decide +kernel
theorem dX8_insert_81 : decode cX8_insert 81 = .ok (.iload_n 1, 1) := by decide +kernel
theorem dX8_insert_82 : decode cX8_insert 82 = .ok (.iload_n 2, 1) := by decide +kernel
theorem dX8_insert_83 : decode cX8_insert 83 = .ok (.invokevirtual 303, 3) := by decide +kernel
theorem dX8_insert_86 : decode cX8_insert 86 = .ok (.aload_n 0, 1) := by decide +kernel
theorem dX8_insert_87 : decode cX8_insert 87 = .ok (.iconst 0, 1) := by decide +kernel
theorem dX8_insert_88 : decode cX8_insert 88 = .ok (.putfield 54, 3) := by decide +kernel
theorem dX8_insert_91 : decode cX8_insert 91 = .ok (.aload_n 0, 1) := by decide +kernel
theorem dX8_insert_92 : decode cX8_insert 92 = .ok (.iload_n 1, 1) := by decide +kernel
theorem dX8_insert_93 : decode cX8_insert 93 = .ok (.invokevirtual 260, 3) := by decide +kernel
theorem dX8_insert_96 : decode cX8_insert 96 = .ok (.ireturn, 1) := by decide +kernel
theorem dX8_behind_0 : decode cX8_behind 0 = .ok (.iload_n 0, 1) := by decide +kernel
theorem dX8_behind_1 : decode cX8_behind 1 = .ok (.iload_n 1, 1) := by decide +kernel
theorem dX8_behind_2 : decode cX8_behind 2 = .ok (.if_icmp .ge 7, 3) := by decide +kernel
theorem dX8_behind_5 : decode cX8_behind 5 = .ok (.iload_n 0, 1) := by decide +kernel
theorem dX8_behind_6 : decode cX8_behind 6 = .ok (.goto 17, 3) := by decide +kernel
theorem dX8_behind_9 : decode cX8_behind 9 = .ok (.iload_n 0, 1) := by decide +kernel
theorem dX8_behind_10 : decode cX8_behind 10 = .ok (.iload_n 2, 1) := by decide +kernel
theorem dX8_behind_11 : decode cX8_behind 11 = .ok (.if_icmp .ge 7, 3) := by decide +kernel
theorem dX8_behind_14 : decode cX8_behind 14 = .ok (.iload_n 1, 1) := by decide +kernel
theorem dX8_behind_15 : decode cX8_behind 15 = .ok (.goto 8, 3) := by decide +kernel
theorem dX8_behind_18 : decode cX8_behind 18 = .ok (.iload_n 0, 1) := by decide +kernel
theorem dX8_behind_19 : decode cX8_behind 19 = .ok (.iload_n 2, 1) := by decide +kernel
theorem dX8_behind_20 : decode cX8_behind 20 = .ok (.iload_n 1, 1) := by decide +kernel
theorem dX8_behind_21 : decode cX8_behind 21 = .ok (.isub, 1) := by decide +kernel
theorem dX8_behind_22 : decode cX8_behind 22 = .ok (.isub, 1) := by decide +kernel
theorem dX8_behind_23 : decode cX8_behind 23 = .ok (.ireturn, 1) := by decide +kernel
theorem dX8_close_0 : decode cX8_close 0 = .ok (.iload_n 3, 1) := by decide +kernel
theorem dX8_close_1 : decode cX8_close 1 = .ok (.istore 4, 2) := by decide +kernel
theorem dX8_close_3 : decode cX8_close 3 = .ok (.iload 4, 2) := by decide +kernel
theorem dX8_close_5 : decode cX8_close 5 = .ok (.aload_n 0, 1) := by decide +kernel
theorem dX8_close_6 : decode cX8_close 6 = .ok (.getfield 7, 3) := by decide +kernel
theorem dX8_close_9 : decode cX8_close 9 = .ok (.bipush 85, 2) := by decide +kernel
theorem dX8_close_11 : decode cX8_close 11 = .ok (.iload_n 1, 1) := by decide +kernel
theorem dX8_close_12 : decode cX8_close 12 = .ok (.iadd, 1) := by decide +kernel
theorem dX8_close_13 : decode cX8_close 13 = .ok (.iaload, 1) := by decide +kernel
theorem dX8_close_14 : decode cX8_close 14 = .ok (.if_icmp .ge 45, 3) := by decide +kernel
theorem dX8_close_17 : decode cX8_close 17 = .ok (.aload_n 0, 1) := by decide +kernel
theorem dX8_close_18 : decode cX8_close 18 = .ok (.getfield 7, 3) := by decide +kernel
theorem dX8_close_21 : decode cX8_close 21 = .ok (.bipush 95, 2) := by decide +kernel
theorem dX8_close_23 : decode cX8_close 23 = .ok (.sipush 360, 3) := by decide +kernel
theorem dX8_close_26 : decode cX8_close 26 = .ok (.iload_n 1, 1) := by decide +kernel
theorem dX8_close_27 : decode cX8_close 27 = .ok (.imul, 1) := by decide +kernel
theorem dX8_close_28 : decode cX8_close 28 = .ok (.iadd, 1) := by decide +kernel
theorem dX8_close_29 : decode cX8_close 29 = .ok (.iload 4, 2) := by decide +kernel
theorem dX8_close_31 : decode cX8_close 31 = .ok (.iadd, 1) := by decide +kernel
theorem dX8_close_32 : decode cX8_close 32 = .ok (.iload_n 3, 1) := by decide +kernel
theorem dX8_close_33 : decode cX8_close 33 = .ok (.iload_n 2, 1) := by decide +kernel
theorem dX8_close_34 : decode cX8_close 34 = .ok (.isub, 1) := by decide +kernel
theorem dX8_close_35 : decode cX8_close 35 = .ok (.isub, 1) := by decide +kernel
theorem dX8_close_36 : decode cX8_close 36 = .ok (.aload_n 0, 1) := by decide +kernel
theorem dX8_close_37 : decode cX8_close 37 = .ok (.getfield 7, 3) := by decide +kernel
theorem dX8_close_40 : decode cX8_close 40 = .ok (.bipush 95, 2) := by decide +kernel
theorem dX8_close_42 : decode cX8_close 42 = .ok (.sipush 360, 3) := by decide +kernel
theorem dX8_close_45 : decode cX8_close 45 = .ok (.iload_n 1, 1) := by decide +kernel
theorem dX8_close_46 : decode cX8_close 46 = .ok (.imul, 1) := by decide +kernel
theorem dX8_close_47 : decode cX8_close 47 = .ok (.iadd, 1) := by decide +kernel
theorem dX8_close_48 : decode cX8_close 48 = .ok (.iload 4, 2) := by decide +kernel
theorem dX8_close_50 : decode cX8_close 50 = .ok (.iadd, 1) := by decide +kernel
theorem dX8_close_51 : decode cX8_close 51 = .ok (.iaload, 1) := by decide +kernel
theorem dX8_close_52 : decode cX8_close 52 = .ok (.iastore, 1) := by decide +kernel
theorem dX8_close_53 : decode cX8_close 53 = .ok (.iinc 4 1, 3) := by decide +kernel
theorem dX8_close_56 : decode cX8_close 56 = .ok (.goto (-53), 3) := by decide +kernel
theorem dX8_close_59 : decode cX8_close 59 = .ok (.aload_n 0, 1) := by decide +kernel
theorem dX8_close_60 : decode cX8_close 60 = .ok (.getfield 7, 3) := by decide +kernel
theorem dX8_close_63 : decode cX8_close 63 = .ok (.bipush 85, 2) := by decide +kernel
theorem dX8_close_65 : decode cX8_close 65 = .ok (.iload_n 1, 1) := by decide +kernel
theorem dX8_close_66 : decode cX8_close 66 = .ok (.iadd, 1) := by decide +kernel
theorem dX8_close_67 : decode cX8_close 67 = .ok (.dup2, 1) := by decide +kernel
theorem dX8_close_68 : decode cX8_close 68 = .ok (.iaload, 1) := by decide +kernel
theorem dX8_close_69 : decode cX8_close 69 = .ok (.iload_n 3, 1) := by decide +kernel
theorem dX8_close_70 : decode cX8_close 70 = .ok (.iload_n 2, 1) := by decide +kernel
theorem dX8_close_71 : decode cX8_close 71 = .ok (.isub, 1) := by decide +kernel
theorem dX8_close_72 : decode cX8_close 72 = .ok (.isub, 1) := by decide +kernel
theorem dX8_close_73 : decode cX8_close 73 = .ok (.iastore, 1) := by decide +kernel
theorem dX8_close_74 : decode cX8_close 74 = .ok (.iconst 0, 1) := by decide +kernel
theorem dX8_close_75 : decode cX8_close 75 = .ok (.istore 4, 2) := by decide +kernel
theorem dX8_close_77 : decode cX8_close 77 = .ok (.iload 4, 2) := by decide +kernel
theorem dX8_close_79 : decode cX8_close 79 = .ok (.aload_n 0, 1) := by decide +kernel
theorem dX8_close_80 : decode cX8_close 80 = .ok (.getfield 7, 3) := by decide +kernel
theorem dX8_close_83 : decode cX8_close 83 = .ok (.iconst 3, 1) := by decide +kernel
theorem dX8_close_84 : decode cX8_close 84 = .ok (.iaload, 1) := by decide +kernel
theorem dX8_close_85 : decode cX8_close 85 = .ok (.if_icmp .gt 94, 3) := by decide +kernel
theorem dX8_close_88 : decode cX8_close 88 = .ok (.iload 4, 2) := by decide +kernel
theorem dX8_close_90 : decode cX8_close 90 = .ok (.ifCond .ne 7, 3) := by decide +kernel
theorem dX8_close_93 : decode cX8_close 93 = .ok (.iconst 1, 1) := by decide +kernel
theorem dX8_close_94 : decode cX8_close 94 = .ok (.goto 11, 3) := by decide +kernel
theorem dX8_close_97 : decode cX8_close 97 = .ok (.iconst 4, 1) := by decide +kernel
theorem dX8_close_98 : decode cX8_close 98 = .ok (.iconst 2, 1) := by decide +kernel
theorem dX8_close_99 : decode cX8_close 99 = .ok (.iload 4, 2) := by decide +kernel
theorem dX8_close_101 : decode cX8_close 101 = .ok (.imul, 1) := by decide +kernel
theorem dX8_close_102 : decode cX8_close 102 = .ok (.iadd, 1) := by decide +kernel
theorem dX8_close_103 : decode cX8_close 103 = .ok (.iconst 2, 1) := by decide +kernel
theorem dX8_close_104 : decode cX8_close 104 = .ok (.isub, 1) := by decide +kernel
theorem dX8_close_105 : decode cX8_close 105 = .ok (.istore 5, 2) := by decide +kernel
theorem dX8_close_107 : decode cX8_close 107 = .ok (.aload_n 0, 1) := by decide +kernel
theorem dX8_close_108 : decode cX8_close 108 = .ok (.getfield 7, 3) := by decide +kernel
theorem dX8_close_111 : decode cX8_close 111 = .ok (.iload 5, 2) := by decide +kernel
theorem dX8_close_113 : decode cX8_close 113 = .ok (.iaload, 1) := by decide +kernel
theorem dX8_close_114 : decode cX8_close 114 = .ok (.iload_n 1, 1) := by decide +kernel
theorem dX8_close_115 : decode cX8_close 115 = .ok (.if_icmp .ne 58, 3) := by decide +kernel
theorem dX8_close_118 : decode cX8_close 118 = .ok (.aload_n 0, 1) := by decide +kernel
theorem dX8_close_119 : decode cX8_close 119 = .ok (.getfield 7, 3) := by decide +kernel
theorem dX8_close_122 : decode cX8_close 122 = .ok (.iload 5, 2) := by decide +kernel
theorem dX8_close_124 : decode cX8_close 124 = .ok (.iconst 1, 1) := by decide +kernel
theorem dX8_close_125 : decode cX8_close 125 = .ok (.iadd, 1) := by decide +kernel
theorem dX8_close_126 : decode cX8_close 126 = .ok (.iaload, 1) := by decide +kernel
theorem dX8_close_127 : decode cX8_close 127 = .ok (.iload_n 2, 1) := by decide +kernel
theorem dX8_close_128 : decode cX8_close 128 = .ok (.iload_n 3, 1) := by decide +kernel
theorem dX8_close_129 : decode cX8_close 129 = .ok (.invokestatic 306, 3) := by decide +kernel
theorem dX8_close_132 : decode cX8_close 132 = .ok (.istore 6, 2) := by decide +kernel
theorem dX8_close_134 : decode cX8_close 134 = .ok (.aload_n 0, 1) := by decide +kernel
theorem dX8_close_135 : decode cX8_close 135 = .ok (.getfield 7, 3) := by decide +kernel
theorem dX8_close_138 : decode cX8_close 138 = .ok (.iload 5, 2) := by decide +kernel
theorem dX8_close_140 : decode cX8_close 140 = .ok (.iconst 1, 1) := by decide +kernel
theorem dX8_close_141 : decode cX8_close 141 = .ok (.iadd, 1) := by decide +kernel
theorem dX8_close_142 : decode cX8_close 142 = .ok (.iload 6, 2) := by decide +kernel
theorem dX8_close_144 : decode cX8_close 144 = .ok (.aload_n 0, 1) := by decide +kernel
theorem dX8_close_145 : decode cX8_close 145 = .ok (.getfield 7, 3) := by decide +kernel
theorem dX8_close_148 : decode cX8_close 148 = .ok (.bipush 85, 2) := by decide +kernel
theorem dX8_close_150 : decode cX8_close 150 = .ok (.iload_n 1, 1) := by decide +kernel
theorem dX8_close_151 : decode cX8_close 151 = .ok (.iadd, 1) := by decide +kernel
theorem dX8_close_152 : decode cX8_close 152 = .ok (.iaload, 1) := by decide +kernel
theorem dX8_close_153 : decode cX8_close 153 = .ok (.if_icmp .ge 8, 3) := by decide +kernel
theorem dX8_close_156 : decode cX8_close 156 = .ok (.iload 6, 2) := by decide +kernel
theorem dX8_close_158 : decode cX8_close 158 = .ok (.goto 14, 3) := by decide +kernel
theorem dX8_close_161 : decode cX8_close 161 = .ok (.aload_n 0, 1) := by decide +kernel
theorem dX8_close_162 : decode cX8_close 162 = .ok (.getfield 7, 3) := by decide +kernel
theorem dX8_close_165 : decode cX8_close 165 = .ok (.bipush 85, 2) := by decide +kernel
theorem dX8_close_167 : decode cX8_close 167 = .ok (.iload_n 1, 1) := by decide +kernel
theorem dX8_close_168 : decode cX8_close 168 = .ok (.iadd, 1) := by decide +kernel
theorem dX8_close_169 : decode cX8_close 169 = .ok (.iaload, 1) := by decide +kernel
theorem dX8_close_170 : decode cX8_close 170 = .ok (.iconst 1, 1) := by decide +kernel
theorem dX8_close_171 : decode cX8_close 171 = .ok (.isub, 1) := by decide +kernel
theorem dX8_close_172 : decode cX8_close 172 = .ok (.iastore, 1) := by decide +kernel
theorem dX8_close_173 : decode cX8_close 173 = .ok (.iinc 4 1, 3) := by decide +kernel
theorem dX8_close_176 : decode cX8_close 176 = .ok (.goto (-99), 3) := by decide +kernel
theorem dX8_close_179 : decode cX8_close 179 = .ok (.iconst 0, 1) := by decide +kernel
theorem dX8_close_180 : decode cX8_close 180 = .ok (.istore 4, 2) := by decide +kernel
theorem dX8_close_182 : decode cX8_close 182 = .ok (.iload 4, 2) := by decide +kernel
theorem dX8_close_184 : decode cX8_close 184 = .ok (.aload_n 0, 1) := by decide +kernel
theorem dX8_close_185 : decode cX8_close 185 = .ok (.getfield 7, 3) := by decide +kernel
theorem dX8_close_188 : decode cX8_close 188 = .ok (.bipush 14, 2) := by decide +kernel
theorem dX8_close_190 : decode cX8_close 190 = .ok (.iaload, 1) := by decide +kernel
theorem dX8_close_191 : decode cX8_close 191 = .ok (.if_icmp .ge 110, 3) := by decide +kernel
theorem dX8_close_194 : decode cX8_close 194 = .ok (.bipush 15, 2) := by decide +kernel
theorem dX8_close_196 : decode cX8_close 196 = .ok (.iconst 5, 1) := by decide +kernel
theorem dX8_close_197 : decode cX8_close 197 = .ok (.iload 4, 2) := by decide +kernel
theorem dX8_close_199 : decode cX8_close 199 = .ok (.imul, 1) := by decide +kernel
theorem dX8_close_200 : decode cX8_close 200 = .ok (.iadd, 1) := by decide +kernel
theorem dX8_close_201 : decode cX8_close 201 = .ok (.istore 5, 2) := by decide +kernel
theorem dX8_close_203 : decode cX8_close 203 = .ok (.aload_n 0, 1) := by decide +kernel
theorem dX8_close_204 : decode cX8_close 204 = .ok (.getfield 7, 3) := by decide +kernel
theorem dX8_close_207 : decode cX8_close 207 = .ok (.iload 5, 2) := by decide +kernel
theorem dX8_close_209 : decode cX8_close 209 = .ok (.iaload, 1) := by decide +kernel
theorem dX8_close_210 : decode cX8_close 210 = .ok (.iload_n 1, 1) := by decide +kernel
theorem dX8_close_211 : decode cX8_close 211 = .ok (.if_icmp .ne 84, 3) := by decide +kernel
theorem dX8_close_214 : decode cX8_close 214 = .ok (.aload_n 0, 1) := by decide +kernel
theorem dX8_close_215 : decode cX8_close 215 = .ok (.getfield 7, 3) := by decide +kernel
theorem dX8_close_218 : decode cX8_close 218 = .ok (.iload 5, 2) := by decide +kernel
theorem dX8_close_220 : decode cX8_close 220 = .ok (.iconst 1, 1) := by decide +kernel
theorem dX8_close_221 : decode cX8_close 221 = .ok (.iadd, 1) := by decide +kernel
theorem dX8_close_222 : decode cX8_close 222 = .ok (.aload_n 0, 1) := by decide +kernel
theorem dX8_close_223 : decode cX8_close 223 = .ok (.getfield 7, 3) := by decide +kernel
theorem dX8_close_226 : decode cX8_close 226 = .ok (.iload 5, 2) := by decide +kernel
theorem dX8_close_228 : decode cX8_close 228 = .ok (.iconst 1, 1) := by decide +kernel
theorem dX8_close_229 : decode cX8_close 229 = .ok (.iadd, 1) := by decide +kernel
theorem dX8_close_230 : decode cX8_close 230 = .ok (.iaload, 1) := by decide +kernel
theorem dX8_close_231 : decode cX8_close 231 = .ok (.iload_n 2, 1) := by decide +kernel
theorem dX8_close_232 : decode cX8_close 232 = .ok (.iload_n 3, 1) := by decide +kernel
theorem dX8_close_233 : decode cX8_close 233 = .ok (.invokestatic 306, 3) := by decide +kernel
theorem dX8_close_236 : decode cX8_close 236 = .ok (.iastore, 1) := by decide +kernel
theorem dX8_close_237 : decode cX8_close 237 = .ok (.aload_n 0, 1) := by decide +kernel
theorem dX8_close_238 : decode cX8_close 238 = .ok (.getfield 7, 3) := by decide +kernel
theorem dX8_close_241 : decode cX8_close 241 = .ok (.iload 5, 2) := by decide +kernel
theorem dX8_close_243 : decode cX8_close 243 = .ok (.iconst 2, 1) := by decide +kernel
theorem dX8_close_244 : decode cX8_close 244 = .ok (.iadd, 1) := by decide +kernel
theorem dX8_close_245 : decode cX8_close 245 = .ok (.aload_n 0, 1) := by decide +kernel
theorem dX8_close_246 : decode cX8_close 246 = .ok (.getfield 7, 3) := by decide +kernel
theorem dX8_close_249 : decode cX8_close 249 = .ok (.iload 5, 2) := by decide +kernel
theorem dX8_close_251 : decode cX8_close 251 = .ok (.iconst 2, 1) := by decide +kernel
theorem dX8_close_252 : decode cX8_close 252 = .ok (.iadd, 1) := by decide +kernel
theorem dX8_close_253 : decode cX8_close 253 = .ok (.iaload, 1) := by decide +kernel
theorem dX8_close_254 : decode cX8_close 254 = .ok (.iload_n 2, 1) := by decide +kernel
theorem dX8_close_255 : decode cX8_close 255 = .ok (.iload_n 3, 1) := by decide +kernel
theorem dX8_close_256 : decode cX8_close 256 = .ok (.invokestatic 306, 3) := by decide +kernel
theorem dX8_close_259 : decode cX8_close 259 = .ok (.iastore, 1) := by decide +kernel
theorem dX8_close_260 : decode cX8_close 260 = .ok (.aload_n 0, 1) := by decide +kernel
theorem dX8_close_261 : decode cX8_close 261 = .ok (.getfield 7, 3) := by decide +kernel
theorem dX8_close_264 : decode cX8_close 264 = .ok (.iload 5, 2) := by decide +kernel
theorem dX8_close_266 : decode cX8_close 266 = .ok (.iconst 4, 1) := by decide +kernel
theorem dX8_close_267 : decode cX8_close 267 = .ok (.iadd, 1) := by decide +kernel
theorem dX8_close_268 : decode cX8_close 268 = .ok (.aload_n 0, 1) := by decide +kernel
theorem dX8_close_269 : decode cX8_close 269 = .ok (.getfield 7, 3) := by decide +kernel
theorem dX8_close_272 : decode cX8_close 272 = .ok (.iload 5, 2) := by decide +kernel
theorem dX8_close_274 : decode cX8_close 274 = .ok (.iconst 1, 1) := by decide +kernel
theorem dX8_close_275 : decode cX8_close 275 = .ok (.iadd, 1) := by decide +kernel
theorem dX8_close_276 : decode cX8_close 276 = .ok (.iaload, 1) := by decide +kernel
theorem dX8_close_277 : decode cX8_close 277 = .ok (.aload_n 0, 1) := by decide +kernel
theorem dX8_close_278 : decode cX8_close 278 = .ok (.getfield 7, 3) := by decide +kernel
theorem dX8_close_281 : decode cX8_close 281 = .ok (.iload 5, 2) := by decide +kernel
theorem dX8_close_283 : decode cX8_close 283 = .ok (.iconst 2, 1) := by decide +kernel
theorem dX8_close_284 : decode cX8_close 284 = .ok (.iadd, 1) := by decide +kernel
theorem dX8_close_285 : decode cX8_close 285 = .ok (.iaload, 1) := by decide +kernel
theorem dX8_close_286 : decode cX8_close 286 = .ok (.if_icmp .ne 7, 3) := by decide +kernel
theorem dX8_close_289 : decode cX8_close 289 = .ok (.iconst 1, 1) := by decide +kernel
theorem dX8_close_290 : decode cX8_close 290 = .ok (.goto 4, 3) := by decide +kernel
theorem dX8_close_293 : decode cX8_close 293 = .ok (.iconst 0, 1) := by decide +kernel
theorem dX8_close_294 : decode cX8_close 294 = .ok (.iastore, 1) := by decide +kernel
theorem dX8_close_295 : decode cX8_close 295 = .ok (.iinc 4 1, 3) := by decide +kernel
theorem dX8_close_298 : decode cX8_close 298 = .ok (.goto (-116), 3) := by decide +kernel
theorem dX8_close_301 : decode cX8_close 301 = .ok (.return_, 1) := by decide +kernel
theorem dX8_delete_0 : decode cX8_delete 0 = .ok (.aload_n 0, 1) := by decide +kernel
theorem dX8_delete_1 : decode cX8_delete 1 = .ok (.iload_n 1, 1) := by decide +kernel
theorem dX8_delete_2 : decode cX8_delete 2 = .ok (.invokevirtual 278, 3) := by decide +kernel
theorem dX8_delete_5 : decode cX8_delete 5 = .ok (.ifCond .eq 16, 3) := by decide +kernel
theorem dX8_delete_8 : decode cX8_delete 8 = .ok (.iload_n 2, 1) := by decide +kernel
theorem dX8_delete_9 : decode cX8_delete 9 = .ok (.ifCond .lt 12, 3) := by decide +kernel
theorem dX8_delete_12 : decode cX8_delete 12 = .ok (.iload_n 3, 1) := by decide +kernel
theorem dX8_delete_13 : decode cX8_delete 13 = .ok (.iconst 1, 1) := by decide +kernel
theorem dX8_delete_14 : decode cX8_delete 14 = .ok (.if_icmp .lt 7, 3) := by decide +kernel
theorem dX8_delete_17 : decode cX8_delete 17 = .ok (.iconst 1, 1) := by decide +kernel
theorem dX8_delete_18 : decode cX8_delete 18 = .ok (.goto 4, 3) := by decide +kernel
theorem dX8_delete_21 : decode cX8_delete 21 = .ok (.iconst 0, 1) := by decide +kernel
theorem dX8_delete_22 : decode cX8_delete 22 = .ok (.istore 4, 2) := by decide +kernel
theorem dX8_delete_24 : decode cX8_delete 24 = .ok (.iload 4, 2) := by decide +kernel
theorem dX8_delete_26 : decode cX8_delete 26 = .ok (.ifCond .eq 11, 3) := by decide +kernel
theorem dX8_delete_29 : decode cX8_delete 29 = .ok (.aload_n 0, 1) := by decide +kernel
theorem dX8_delete_30 : decode cX8_delete 30 = .ok (.iload_n 1, 1) := by decide +kernel
theorem dX8_delete_31 : decode cX8_delete 31 = .ok (.invokevirtual 260, 3) := by decide +kernel
theorem dX8_delete_34 : decode cX8_delete 34 = .ok (.goto 4, 3) := by decide +kernel
theorem dX8_delete_37 : decode cX8_delete 37 = .ok (.iconst 0, 1) := by decide +kernel
theorem dX8_delete_38 : decode cX8_delete 38 = .ok (.istore 5, 2) := by decide +kernel
theorem dX8_delete_40 : decode cX8_delete 40 = .ok (.iload 4, 2) := by decide +kernel
theorem dX8_delete_42 : decode cX8_delete 42 = .ok (.ifCond .eq 21, 3) := by decide +kernel
theorem dX8_delete_45 : decode cX8_delete 45 = .ok (.iload_n 2, 1) := by decide +kernel
theorem dX8_delete_46 : decode cX8_delete 46 = .ok (.iload 5, 2) := by decide +kernel
theorem dX8_delete_48 : decode cX8_delete 48 = .ok (.if_icmp .ge 15, 3) := by decide +kernel
theorem dX8_delete_51 : decode cX8_delete 51 = .ok (.iload_n 3, 1) := by decide +kernel
theorem dX8_delete_52 : decode cX8_delete 52 = .ok (.iload 5, 2) := by decide +kernel
theorem dX8_delete_54 : decode cX8_delete 54 = .ok (.iload_n 2, 1) := by decide +kernel
theorem dX8_delete_55 : decode cX8_delete 55 = .ok (.isub, 1) := by decide +kernel
theorem dX8_delete_56 : decode cX8_delete 56 = .ok (.if_icmp .gt 7, 3) := by decide +kernel
theorem dX8_delete_59 : decode cX8_delete 59 = .ok (.iconst 1, 1) := by decide +kernel
theorem dX8_delete_60 : decode cX8_delete 60 = .ok (.goto 4, 3) := by decide +kernel
theorem dX8_delete_63 : decode cX8_delete 63 = .ok (.iconst 0, 1) := by decide +kernel
theorem dX8_delete_64 : decode cX8_delete 64 = .ok (.istore 4, 2) := by decide +kernel
theorem dX8_delete_66 : decode cX8_delete 66 = .ok (.aload_n 0, 1) := by decide +kernel
theorem dX8_delete_67 : decode cX8_delete 67 = .ok (.iload 4, 2) := by decide +kernel
theorem dX8_delete_69 : decode cX8_delete 69 = .ok (.ifCond .ne 7, 3) := by decide +kernel
theorem dX8_delete_72 : decode cX8_delete 72 = .ok (.iconst 1, 1) := by decide +kernel
theorem dX8_delete_73 : decode cX8_delete 73 = .ok (.goto 14, 3) := by decide +kernel
theorem dX8_delete_76 : decode cX8_delete 76 = .ok (.iload_n 3, 1) := by decide +kernel
theorem dX8_delete_77 : decode cX8_delete 77 = .ok (.iload 5, 2) := by decide +kernel
theorem dX8_delete_79 : decode cX8_delete 79 = .ok (.if_icmp .ge 7, 3) := by decide +kernel
theorem dX8_delete_82 : decode cX8_delete 82 = .ok (.iconst 0, 1) := by decide +kernel
theorem dX8_delete_83 : decode cX8_delete 83 = .ok (.goto 4, 3) := by decide +kernel
theorem dX8_delete_86 : decode cX8_delete 86 = .ok (.iconst 2, 1) := by decide +kernel
theorem dX8_delete_87 : decode cX8_delete 87 = .ok (.putfield 47, 3) := by decide +kernel
theorem dX8_delete_90 : decode cX8_delete 90 = .ok (.aload_n 0, 1) := by decide +kernel
theorem dX8_delete_91 : decode cX8_delete 91 = .ok (.getfield 47, 3) := by decide +kernel
theorem dX8_delete_94 : decode cX8_delete 94 = .ok (.ifCond .le 5, 3) := by decide +kernel
theorem dX8_delete_97 : decode cX8_delete 97 = .ok (.iconst 0, 1) := by decide +kernel
theorem dX8_delete_98 : decode cX8_delete 98 = .ok (.ireturn, 1) := by decide +kernel
theorem dX8_delete_99 : decode cX8_delete 99 = .ok (.aload_n 0, 1) := by decide +kernel
theorem dX8_delete_100 : decode cX8_delete 100 = .ok (.invokevirtual 300, 3) := by decide +kernel
theorem dX8_delete_103 : decode cX8_delete 103 = .ok (.iload_n 2, 1) := by decide +kernel
theorem dX8_delete_104 : decode cX8_delete 104 = .ok (.iload_n 3, 1) := by decide +kernel
theorem dX8_delete_105 : decode cX8_delete 105 = .ok (.iadd, 1) := by decide +kernel
theorem dX8_delete_106 : decode cX8_delete 106 = .ok (.iload 5, 2) := by decide +kernel
theorem dX8_delete_108 : decode cX8_delete 108 = .ok (.if_icmp .ne 7, 3) := by decide +kernel
theorem dX8_delete_111 : decode cX8_delete 111 = .ok (.iconst 1, 1) := by decide +kernel
theorem dX8_delete_112 : decode cX8_delete 112 = .ok (.goto 4, 3) := by decide +kernel
theorem dX8_delete_115 : decode cX8_delete 115 = .ok (.iconst 0, 1) := by decide +kernel
theorem dX8_delete_116 : decode cX8_delete 116 = .ok (.istore 6, 2) := by decide +kernel
theorem dX8_delete_118 : decode cX8_delete 118 = .ok (.aload_n 0, 1) := by decide +kernel
theorem dX8_delete_119 : decode cX8_delete 119 = .ok (.iload_n 1, 1) := by decide +kernel
theorem dX8_delete_120 : decode cX8_delete 120 = .ok (.iload_n 2, 1) := by decide +kernel
theorem dX8_delete_121 : decode cX8_delete 121 = .ok (.invokevirtual 290, 3) := by decide +kernel
theorem dX8_delete_124 : decode cX8_delete 124 = .ok (.iload 6, 2) := by decide +kernel
theorem dX8_delete_126 : decode cX8_delete 126 = .ok (.ifCond .eq 7, 3) := by decide +kernel
theorem dX8_delete_129 : decode cX8_delete 129 = .ok (.iconst 1, 1) := by decide +kernel
theorem dX8_delete_130 : decode cX8_delete 130 = .ok (.goto 4, 3) := by decide +kernel
theorem dX8_delete_133 : decode cX8_delete 133 = .ok (.iconst 0, 1) := by decide +kernel
theorem dX8_delete_134 : decode cX8_delete 134 = .ok (.isub, 1) := by decide +kernel
theorem dX8_delete_135 : decode cX8_delete 135 = .ok (.istore 7, 2) := by decide +kernel
theorem dX8_delete_137 : decode cX8_delete 137 = .ok (.aload_n 0, 1) := by decide +kernel
theorem dX8_delete_138 : decode cX8_delete 138 = .ok (.iload_n 1, 1) := by decide +kernel
theorem dX8_delete_139 : decode cX8_delete 139 = .ok (.iload 7, 2) := by decide +kernel
theorem dX8_delete_141 : decode cX8_delete 141 = .ok (.aload_n 0, 1) := by decide +kernel
theorem dX8_delete_142 : decode cX8_delete 142 = .ok (.iload_n 1, 1) := by decide +kernel
theorem dX8_delete_143 : decode cX8_delete 143 = .ok (.iload_n 2, 1) := by decide +kernel
theorem dX8_delete_144 : decode cX8_delete 144 = .ok (.iload_n 3, 1) := by decide +kernel
theorem dX8_delete_145 : decode cX8_delete 145 = .ok (.iadd, 1) := by decide +kernel
theorem dX8_delete_146 : decode cX8_delete 146 = .ok (.invokevirtual 290, 3) := by decide +kernel
theorem dX8_delete_149 : decode cX8_delete 149 = .ok (.invokevirtual 309, 3) := by decide +kernel
theorem dX8_delete_152 : decode cX8_delete 152 = .ok (.aload_n 0, 1) := by decide +kernel
theorem dX8_delete_153 : decode cX8_delete 153 = .ok (.iload_n 1, 1) := by decide +kernel
theorem dX8_delete_154 : decode cX8_delete 154 = .ok (.invokevirtual 260, 3) := by decide +kernel
theorem dX8_delete_157 : decode cX8_delete 157 = .ok (.ireturn, 1) := by decide +kernel
theorem dX8_renumber_0 : decode cX8_renumber 0 = .ok (.iconst 0, 1) := by decide +kernel
theorem dX8_renumber_1 : decode cX8_renumber 1 = .ok (.istore_n 3, 1) := by decide +kernel
theorem dX8_renumber_2 : decode cX8_renumber 2 = .ok (.iload_n 3, 1) := by decide +kernel
theorem dX8_renumber_3 : decode cX8_renumber 3 = .ok (.aload_n 0, 1) := by decide +kernel
theorem dX8_renumber_4 : decode cX8_renumber 4 = .ok (.getfield 7, 3) := by decide +kernel
theorem dX8_renumber_7 : decode cX8_renumber 7 = .ok (.iconst 3, 1) := by decide +kernel
theorem dX8_renumber_8 : decode cX8_renumber 8 = .ok (.iaload, 1) := by decide +kernel
theorem dX8_renumber_9 : decode cX8_renumber 9 = .ok (.if_icmp .gt 52, 3) := by decide +kernel
theorem dX8_renumber_12 : decode cX8_renumber 12 = .ok (.iload_n 3, 1) := by decide +kernel
theorem dX8_renumber_13 : decode cX8_renumber 13 = .ok (.ifCond .ne 7, 3) := by decide +kernel
theorem dX8_renumber_16 : decode cX8_renumber 16 = .ok (.iconst 1, 1) := by decide +kernel
theorem dX8_renumber_17 : decode cX8_renumber 17 = .ok (.goto 10, 3) := by decide +kernel
theorem dX8_renumber_20 : decode cX8_renumber 20 = .ok (.iconst 4, 1) := by decide +kernel
theorem dX8_renumber_21 : decode cX8_renumber 21 = .ok (.iconst 2, 1) := by decide +kernel
theorem dX8_renumber_22 : decode cX8_renumber 22 = .ok (.iload_n 3, 1) := by decide +kernel
theorem dX8_renumber_23 : decode cX8_renumber 23 = .ok (.imul, 1) := by decide +kernel
theorem dX8_renumber_24 : decode cX8_renumber 24 = .ok (.iadd, 1) := by decide +kernel
theorem dX8_renumber_25 : decode cX8_renumber 25 = .ok (.iconst 2, 1) := by decide +kernel
theorem dX8_renumber_26 : decode cX8_renumber 26 = .ok (.isub, 1) := by decide +kernel
theorem dX8_renumber_27 : decode cX8_renumber 27 = .ok (.istore 4, 2) := by decide +kernel
theorem dX8_renumber_29 : decode cX8_renumber 29 = .ok (.aload_n 0, 1) := by decide +kernel
theorem dX8_renumber_30 : decode cX8_renumber 30 = .ok (.getfield 7, 3) := by decide +kernel
theorem dX8_renumber_33 : decode cX8_renumber 33 = .ok (.iload 4, 2) := by decide +kernel
theorem dX8_renumber_35 : decode cX8_renumber 35 = .ok (.dup2, 1) := by decide +kernel
theorem dX8_renumber_36 : decode cX8_renumber 36 = .ok (.iaload, 1) := by decide +kernel
theorem dX8_renumber_37 : decode cX8_renumber 37 = .ok (.aload_n 0, 1) := by decide +kernel
theorem dX8_renumber_38 : decode cX8_renumber 38 = .ok (.getfield 7, 3) := by decide +kernel
theorem dX8_renumber_41 : decode cX8_renumber 41 = .ok (.iload 4, 2) := by decide +kernel
theorem dX8_renumber_43 : decode cX8_renumber 43 = .ok (.iaload, 1) := by decide +kernel
theorem dX8_renumber_44 : decode cX8_renumber 44 = .ok (.iload_n 1, 1) := by decide +kernel
theorem dX8_renumber_45 : decode cX8_renumber 45 = .ok (.if_icmp .lt 7, 3) := by decide +kernel
theorem dX8_renumber_48 : decode cX8_renumber 48 = .ok (.iload_n 2, 1) := by decide +kernel
theorem dX8_renumber_49 : decode cX8_renumber 49 = .ok (.goto 4, 3) := by decide +kernel
theorem dX8_renumber_52 : decode cX8_renumber 52 = .ok (.iconst 0, 1) := by decide +kernel
theorem dX8_renumber_53 : decode cX8_renumber 53 = .ok (.iadd, 1) := by decide +kernel
theorem dX8_renumber_54 : decode cX8_renumber 54 = .ok (.iastore, 1) := by decide +kernel
theorem dX8_renumber_55 : decode cX8_renumber 55 = .ok (.iinc 3 1, 3) := by decide +kernel
theorem dX8_renumber_58 : decode cX8_renumber 58 = .ok (.goto (-56), 3) := by decide +kernel
theorem dX8_renumber_61 : decode cX8_renumber 61 = .ok (.iconst 0, 1) := by decide +kernel
theorem dX8_renumber_62 : decode cX8_renumber 62 = .ok (.istore_n 3, 1) := by decide +kernel
theorem dX8_renumber_63 : decode cX8_renumber 63 = .ok (.iload_n 3, 1) := by decide +kernel
theorem dX8_renumber_64 : decode cX8_renumber 64 = .ok (.aload_n 0, 1) := by decide +kernel
theorem dX8_renumber_65 : decode cX8_renumber 65 = .ok (.getfield 7, 3) := by decide +kernel
theorem dX8_renumber_68 : decode cX8_renumber 68 = .ok (.bipush 14, 2) := by decide +kernel
theorem dX8_renumber_70 : decode cX8_renumber 70 = .ok (.iaload, 1) := by decide +kernel
theorem dX8_renumber_71 : decode cX8_renumber 71 = .ok (.if_icmp .ge 43, 3) := by decide +kernel
theorem dX8_renumber_74 : decode cX8_renumber 74 = .ok (.aload_n 0, 1) := by decide +kernel
theorem dX8_renumber_75 : decode cX8_renumber 75 = .ok (.getfield 7, 3) := by decide +kernel
theorem dX8_renumber_78 : decode cX8_renumber 78 = .ok (.bipush 15, 2) := by decide +kernel
theorem dX8_renumber_80 : decode cX8_renumber 80 = .ok (.iconst 5, 1) := by decide +kernel
theorem dX8_renumber_81 : decode cX8_renumber 81 = .ok (.iload_n 3, 1) := by decide +kernel
theorem dX8_renumber_82 : decode cX8_renumber 82 = .ok (.imul, 1) := by decide +kernel
theorem dX8_renumber_83 : decode cX8_renumber 83 = .ok (.iadd, 1) := by decide +kernel
theorem dX8_renumber_84 : decode cX8_renumber 84 = .ok (.dup2, 1) := by decide +kernel
theorem dX8_renumber_85 : decode cX8_renumber 85 = .ok (.iaload, 1) := by decide +kernel
theorem dX8_renumber_86 : decode cX8_renumber 86 = .ok (.aload_n 0, 1) := by decide +kernel
theorem dX8_renumber_87 : decode cX8_renumber 87 = .ok (.getfield 7, 3) := by decide +kernel
theorem dX8_renumber_90 : decode cX8_renumber 90 = .ok (.bipush 15, 2) := by decide +kernel
theorem dX8_renumber_92 : decode cX8_renumber 92 = .ok (.iconst 5, 1) := by decide +kernel
theorem dX8_renumber_93 : decode cX8_renumber 93 = .ok (.iload_n 3, 1) := by decide +kernel
theorem dX8_renumber_94 : decode cX8_renumber 94 = .ok (.imul, 1) := by decide +kernel
theorem dX8_renumber_95 : decode cX8_renumber 95 = .ok (.iadd, 1) := by decide +kernel
theorem dX8_renumber_96 : decode cX8_renumber 96 = .ok (.iaload, 1) := by decide +kernel
theorem dX8_renumber_97 : decode cX8_renumber 97 = .ok (.iload_n 1, 1) := by decide +kernel
theorem dX8_renumber_98 : decode cX8_renumber 98 = .ok (.if_icmp .lt 7, 3) := by decide +kernel
theorem dX8_renumber_101 : decode cX8_renumber 101 = .ok (.iload_n 2, 1) := by decide +kernel
theorem dX8_renumber_102 : decode cX8_renumber 102 = .ok (.goto 4, 3) := by decide +kernel
theorem dX8_renumber_105 : decode cX8_renumber 105 = .ok (.iconst 0, 1) := by decide +kernel
theorem dX8_renumber_106 : decode cX8_renumber 106 = .ok (.iadd, 1) := by decide +kernel
theorem dX8_renumber_107 : decode cX8_renumber 107 = .ok (.iastore, 1) := by decide +kernel
theorem dX8_renumber_108 : decode cX8_renumber 108 = .ok (.iinc 3 1, 3) := by decide +kernel
theorem dX8_renumber_111 : decode cX8_renumber 111 = .ok (.goto (-48), 3) := by decide +kernel
theorem dX8_renumber_114 : decode cX8_renumber 114 = .ok (.return_, 1) := by decide +kernel
theorem dX8_copyParagraph_0 : decode cX8_copyParagraph 0 = .ok (.aload_n 0, 1) := by decide +kernel
theorem dX8_copyParagraph_1 : decode cX8_copyParagraph 1 = .ok (.getfield 7, 3) := by decide +kernel
theorem dX8_copyParagraph_4 : decode cX8_copyParagraph 4 = .ok (.bipush 75, 2) := by decide +kernel
theorem dX8_copyParagraph_6 : decode cX8_copyParagraph 6 = .ok (.iload_n 1, 1) := by decide +kernel
theorem dX8_copyParagraph_7 : decode cX8_copyParagraph 7 = .ok (.iadd, 1) := by decide +kernel
theorem dX8_copyParagraph_8 : decode cX8_copyParagraph 8 = .ok (.aload_n 0, 1) := by decide +kernel
theorem dX8_copyParagraph_9 : decode cX8_copyParagraph 9 = .ok (.getfield 7, 3) := by decide +kernel
theorem dX8_copyParagraph_12 : decode cX8_copyParagraph 12 = .ok (.bipush 75, 2) := by decide +kernel
theorem dX8_copyParagraph_14 : decode cX8_copyParagraph 14 = .ok (.iload_n 2, 1) := by decide +kernel
theorem dX8_copyParagraph_15 : decode cX8_copyParagraph 15 = .ok (.iadd, 1) := by decide +kernel
theorem dX8_copyParagraph_16 : decode cX8_copyParagraph 16 = .ok (.iaload, 1) := by decide +kernel
theorem dX8_copyParagraph_17 : decode cX8_copyParagraph 17 = .ok (.iastore, 1) := by decide +kernel
theorem dX8_copyParagraph_18 : decode cX8_copyParagraph 18 = .ok (.aload_n 0, 1) := by decide +kernel
theorem dX8_copyParagraph_19 : decode cX8_copyParagraph 19 = .ok (.getfield 7, 3) := by decide +kernel
theorem dX8_copyParagraph_22 : decode cX8_copyParagraph 22 = .ok (.bipush 85, 2) := by decide +kernel
theorem dX8_copyParagraph_24 : decode cX8_copyParagraph 24 = .ok (.iload_n 1, 1) := by decide +kernel
theorem dX8_copyParagraph_25 : decode cX8_copyParagraph 25 = .ok (.iadd, 1) := by decide +kernel
theorem dX8_copyParagraph_26 : decode cX8_copyParagraph 26 = .ok (.aload_n 0, 1) := by decide +kernel
theorem dX8_copyParagraph_27 : decode cX8_copyParagraph 27 = .ok (.getfield 7, 3) := by decide +kernel
theorem dX8_copyParagraph_30 : decode cX8_copyParagraph 30 = .ok (.bipush 85, 2) := by decide +kernel
theorem dX8_copyParagraph_32 : decode cX8_copyParagraph 32 = .ok (.iload_n 2, 1) := by decide +kernel
theorem dX8_copyParagraph_33 : decode cX8_copyParagraph 33 = .ok (.iadd, 1) := by decide +kernel
theorem dX8_copyParagraph_34 : decode cX8_copyParagraph 34 = .ok (.iaload, 1) := by decide +kernel
theorem dX8_copyParagraph_35 : decode cX8_copyParagraph 35 = .ok (.iastore, 1) := by decide +kernel
theorem dX8_copyParagraph_36 : decode cX8_copyParagraph 36 = .ok (.iconst 0, 1) := by decide +kernel
theorem dX8_copyParagraph_37 : decode cX8_copyParagraph 37 = .ok (.istore_n 3, 1) := by decide +kernel
theorem dX8_copyParagraph_38 : decode cX8_copyParagraph 38 = .ok (.iload_n 3, 1) := by decide +kernel
theorem dX8_copyParagraph_39 : decode cX8_copyParagraph 39 = .ok (.sipush 360, 3) := by decide +kernel
theorem dX8_copyParagraph_42 : decode cX8_copyParagraph 42 = .ok (.if_icmp .ge 39, 3) := by decide +kernel
theorem dX8_copyParagraph_45 : decode cX8_copyParagraph 45 = .ok (.aload_n 0, 1) := by decide +kernel
theorem dX8_copyParagraph_46 : decode cX8_copyParagraph 46 = .ok (.getfield 7, 3) := by decide +kernel
theorem dX8_copyParagraph_49 : decode cX8_copyParagraph 49 = .ok (.bipush 95, 2) := by decide +kernel
theorem dX8_copyParagraph_51 : decode cX8_copyParagraph 51 = .ok (.sipush 360, 3) := by decide +kernel
theorem dX8_copyParagraph_54 : decode cX8_copyParagraph 54 = .ok (.iload_n 1, 1) := by decide +kernel
theorem dX8_copyParagraph_55 : decode cX8_copyParagraph 55 = .ok (.imul, 1) := by decide +kernel
theorem dX8_copyParagraph_56 : decode cX8_copyParagraph 56 = .ok (.iadd, 1) := by decide +kernel
theorem dX8_copyParagraph_57 : decode cX8_copyParagraph 57 = .ok (.iload_n 3, 1) := by decide +kernel
theorem dX8_copyParagraph_58 : decode cX8_copyParagraph 58 = .ok (.iadd, 1) := by decide +kernel
theorem dX8_copyParagraph_59 : decode cX8_copyParagraph 59 = .ok (.aload_n 0, 1) := by decide +kernel
theorem dX8_copyParagraph_60 : decode cX8_copyParagraph 60 = .ok (.getfield 7, 3) := by decide +kernel
theorem dX8_copyParagraph_63 : decode cX8_copyParagraph 63 = .ok (.bipush 95, 2) := by decide +kernel
theorem dX8_copyParagraph_65 : decode cX8_copyParagraph 65 = .ok (.sipush 360, 3) := by decide +kernel
theorem dX8_copyParagraph_68 : decode cX8_copyParagraph 68 = .ok (.iload_n 2, 1) := by decide +kernel
theorem dX8_copyParagraph_69 : decode cX8_copyParagraph 69 = .ok (.imul, 1) := by decide +kernel
theorem dX8_copyParagraph_70 : decode cX8_copyParagraph 70 = .ok (.iadd, 1) := by decide +kernel
theorem dX8_copyParagraph_71 : decode cX8_copyParagraph 71 = .ok (.iload_n 3, 1) := by decide +kernel
theorem dX8_copyParagraph_72 : decode cX8_copyParagraph 72 = .ok (.iadd, 1) := by decide +kernel
theorem dX8_copyParagraph_73 : decode cX8_copyParagraph 73 = .ok (.iaload, 1) := by decide +kernel
theorem dX8_copyParagraph_74 : decode cX8_copyParagraph 74 = .ok (.iastore, 1) := by decide +kernel
theorem dX8_copyParagraph_75 : decode cX8_copyParagraph 75 = .ok (.iinc 3 1, 3) := by decide +kernel
theorem dX8_copyParagraph_78 : decode cX8_copyParagraph 78 = .ok (.goto (-40), 3) := by decide +kernel
theorem dX8_copyParagraph_81 : decode cX8_copyParagraph 81 = .ok (.return_, 1) := by decide +kernel
theorem dX8_splitAnnotation_0 : decode cX8_splitAnnotation 0 = .ok (.aload_n 0, 1) := by decide +kernel
theorem dX8_splitAnnotation_1 : decode cX8_splitAnnotation 1 = .ok (.getfield 7, 3) := by decide +kernel
theorem dX8_splitAnnotation_4 : decode cX8_splitAnnotation 4 = .ok (.iload_n 1, 1) := by decide +kernel
theorem dX8_splitAnnotation_5 : decode cX8_splitAnnotation 5 = .ok (.iconst 1, 1) := by decide +kernel
theorem dX8_splitAnnotation_6 : decode cX8_splitAnnotation 6 = .ok (.iadd, 1) := by decide +kernel
theorem dX8_splitAnnotation_7 : decode cX8_splitAnnotation 7 = .ok (.iaload, 1) := by decide +kernel
theorem dX8_splitAnnotation_8 : decode cX8_splitAnnotation 8 = .ok (.iload_n 3, 1) := by decide +kernel
theorem dX8_splitAnnotation_9 : decode cX8_splitAnnotation 9 = .ok (.if_icmp .lt 39, 3) := by decide +kernel
theorem dX8_splitAnnotation_12 : decode cX8_splitAnnotation 12 = .ok (.aload_n 0, 1) := by decide +kernel
theorem dX8_splitAnnotation_13 : decode cX8_splitAnnotation 13 = .ok (.getfield 7, 3) := by decide +kernel
theorem dX8_splitAnnotation_16 : decode cX8_splitAnnotation 16 = .ok (.iload_n 1, 1) := by decide +kernel
theorem dX8_splitAnnotation_17 : decode cX8_splitAnnotation 17 = .ok (.iload_n 2, 1) := by decide +kernel
theorem dX8_splitAnnotation_18 : decode cX8_splitAnnotation 18 = .ok (.iconst 1, 1) := by decide +kernel
theorem dX8_splitAnnotation_19 : decode cX8_splitAnnotation 19 = .ok (.iadd, 1) := by decide +kernel
theorem dX8_splitAnnotation_20 : decode cX8_splitAnnotation 20 = .ok (.iastore, 1) := by decide +kernel
theorem dX8_splitAnnotation_21 : decode cX8_splitAnnotation 21 = .ok (.aload_n 0, 1) := by decide +kernel
theorem dX8_splitAnnotation_22 : decode cX8_splitAnnotation 22 = .ok (.getfield 7, 3) := by decide +kernel
theorem dX8_splitAnnotation_25 : decode cX8_splitAnnotation 25 = .ok (.iload_n 1, 1) := by decide +kernel
theorem dX8_splitAnnotation_26 : decode cX8_splitAnnotation 26 = .ok (.iconst 1, 1) := by decide +kernel
theorem dX8_splitAnnotation_27 : decode cX8_splitAnnotation 27 = .ok (.iadd, 1) := by decide +kernel
theorem dX8_splitAnnotation_28 : decode cX8_splitAnnotation 28 = .ok (.dup2, 1) := by decide +kernel
theorem dX8_splitAnnotation_29 : decode cX8_splitAnnotation 29 = .ok (.iaload, 1) := by decide +kernel
theorem dX8_splitAnnotation_30 : decode cX8_splitAnnotation 30 = .ok (.iload_n 3, 1) := by decide +kernel
theorem dX8_splitAnnotation_31 : decode cX8_splitAnnotation 31 = .ok (.isub, 1) := by decide +kernel
theorem dX8_splitAnnotation_32 : decode cX8_splitAnnotation 32 = .ok (.iastore, 1) := by decide +kernel
theorem dX8_splitAnnotation_33 : decode cX8_splitAnnotation 33 = .ok (.aload_n 0, 1) := by decide +kernel
theorem dX8_splitAnnotation_34 : decode cX8_splitAnnotation 34 = .ok (.getfield 7, 3) := by decide +kernel
theorem dX8_splitAnnotation_37 : decode cX8_splitAnnotation 37 = .ok (.iload_n 1, 1) := by decide +kernel
theorem dX8_splitAnnotation_38 : decode cX8_splitAnnotation 38 = .ok (.iconst 2, 1) := by decide +kernel
theorem dX8_splitAnnotation_39 : decode cX8_splitAnnotation 39 = .ok (.iadd, 1) := by decide +kernel
theorem dX8_splitAnnotation_40 : decode cX8_splitAnnotation 40 = .ok (.dup2, 1) := by decide +kernel
theorem dX8_splitAnnotation_41 : decode cX8_splitAnnotation 41 = .ok (.iaload, 1) := by decide +kernel
theorem dX8_splitAnnotation_42 : decode cX8_splitAnnotation 42 = .ok (.iload_n 3, 1) := by decide +kernel
theorem dX8_splitAnnotation_43 : decode cX8_splitAnnotation 43 = .ok (.isub, 1) := by decide +kernel
theorem dX8_splitAnnotation_44 : decode cX8_splitAnnotation 44 = .ok (.iastore, 1) := by decide +kernel
theorem dX8_splitAnnotation_45 : decode cX8_splitAnnotation 45 = .ok (.goto 107, 3) := by decide +kernel
theorem dX8_splitAnnotation_48 : decode cX8_splitAnnotation 48 = .ok (.aload_n 0, 1) := by decide +kernel
theorem dX8_splitAnnotation_49 : decode cX8_splitAnnotation 49 = .ok (.getfield 7, 3) := by decide +kernel
theorem dX8_splitAnnotation_52 : decode cX8_splitAnnotation 52 = .ok (.iload_n 1, 1) := by decide +kernel
theorem dX8_splitAnnotation_53 : decode cX8_splitAnnotation 53 = .ok (.iconst 1, 1) := by decide +kernel
theorem dX8_splitAnnotation_54 : decode cX8_splitAnnotation 54 = .ok (.iadd, 1) := by decide +kernel
theorem dX8_splitAnnotation_55 : decode cX8_splitAnnotation 55 = .ok (.aload_n 0, 1) := by decide +kernel
theorem dX8_splitAnnotation_56 : decode cX8_splitAnnotation 56 = .ok (.getfield 7, 3) := by decide +kernel
theorem dX8_splitAnnotation_59 : decode cX8_splitAnnotation 59 = .ok (.iload_n 1, 1) := by decide +kernel
theorem dX8_splitAnnotation_60 : decode cX8_splitAnnotation 60 = .ok (.iconst 1, 1) := by decide +kernel
theorem dX8_splitAnnotation_61 : decode cX8_splitAnnotation 61 = .ok (.iadd, 1) := by decide +kernel
theorem dX8_splitAnnotation_62 : decode cX8_splitAnnotation 62 = .ok (.iaload, 1) := by decide +kernel
theorem dX8_splitAnnotation_63 : decode cX8_splitAnnotation 63 = .ok (.iload_n 3, 1) := by decide +kernel
theorem dX8_splitAnnotation_64 : decode cX8_splitAnnotation 64 = .ok (.iconst 1, 1) := by decide +kernel
theorem dX8_splitAnnotation_65 : decode cX8_splitAnnotation 65 = .ok (.isub, 1) := by decide +kernel
theorem dX8_splitAnnotation_66 : decode cX8_splitAnnotation 66 = .ok (.if_icmp .ge 14, 3) := by decide +kernel
theorem dX8_splitAnnotation_69 : decode cX8_splitAnnotation 69 = .ok (.aload_n 0, 1) := by decide +kernel
theorem dX8_splitAnnotation_70 : decode cX8_splitAnnotation 70 = .ok (.getfield 7, 3) := by decide +kernel
theorem dX8_splitAnnotation_73 : decode cX8_splitAnnotation 73 = .ok (.iload_n 1, 1) := by decide +kernel
theorem dX8_splitAnnotation_74 : decode cX8_splitAnnotation 74 = .ok (.iconst 1, 1) := by decide +kernel
theorem dX8_splitAnnotation_75 : decode cX8_splitAnnotation 75 = .ok (.iadd, 1) := by decide +kernel
theorem dX8_splitAnnotation_76 : decode cX8_splitAnnotation 76 = .ok (.iaload, 1) := by decide +kernel
theorem dX8_splitAnnotation_77 : decode cX8_splitAnnotation 77 = .ok (.goto 6, 3) := by decide +kernel
theorem dX8_splitAnnotation_80 : decode cX8_splitAnnotation 80 = .ok (.iload_n 3, 1) := by decide +kernel
theorem dX8_splitAnnotation_81 : decode cX8_splitAnnotation 81 = .ok (.iconst 1, 1) := by decide +kernel
theorem dX8_splitAnnotation_82 : decode cX8_splitAnnotation 82 = .ok (.isub, 1) := by decide +kernel
theorem dX8_splitAnnotation_83 : decode cX8_splitAnnotation 83 = .ok (.iastore, 1) := by decide +kernel
theorem dX8_splitAnnotation_84 : decode cX8_splitAnnotation 84 = .ok (.aload_n 0, 1) := by decide +kernel
theorem dX8_splitAnnotation_85 : decode cX8_splitAnnotation 85 = .ok (.getfield 7, 3) := by decide +kernel
theorem dX8_splitAnnotation_88 : decode cX8_splitAnnotation 88 = .ok (.iload_n 1, 1) := by decide +kernel
theorem dX8_splitAnnotation_89 : decode cX8_splitAnnotation 89 = .ok (.iconst 2, 1) := by decide +kernel
theorem dX8_splitAnnotation_90 : decode cX8_splitAnnotation 90 = .ok (.iadd, 1) := by decide +kernel
theorem dX8_splitAnnotation_91 : decode cX8_splitAnnotation 91 = .ok (.aload_n 0, 1) := by decide +kernel
theorem dX8_splitAnnotation_92 : decode cX8_splitAnnotation 92 = .ok (.getfield 7, 3) := by decide +kernel
theorem dX8_splitAnnotation_95 : decode cX8_splitAnnotation 95 = .ok (.iload_n 1, 1) := by decide +kernel
theorem dX8_splitAnnotation_96 : decode cX8_splitAnnotation 96 = .ok (.iconst 2, 1) := by decide +kernel
theorem dX8_splitAnnotation_97 : decode cX8_splitAnnotation 97 = .ok (.iadd, 1) := by decide +kernel
theorem dX8_splitAnnotation_98 : decode cX8_splitAnnotation 98 = .ok (.iaload, 1) := by decide +kernel
theorem dX8_splitAnnotation_99 : decode cX8_splitAnnotation 99 = .ok (.iload_n 3, 1) := by decide +kernel
theorem dX8_splitAnnotation_100 : decode cX8_splitAnnotation 100 = .ok (.iconst 1, 1) := by decide +kernel
theorem dX8_splitAnnotation_101 : decode cX8_splitAnnotation 101 = .ok (.isub, 1) := by decide +kernel
theorem dX8_splitAnnotation_102 : decode cX8_splitAnnotation 102 = .ok (.if_icmp .ge 14, 3) := by decide +kernel
theorem dX8_splitAnnotation_105 : decode cX8_splitAnnotation 105 = .ok (.aload_n 0, 1) := by decide +kernel
theorem dX8_splitAnnotation_106 : decode cX8_splitAnnotation 106 = .ok (.getfield 7, 3) := by decide +kernel
theorem dX8_splitAnnotation_109 : decode cX8_splitAnnotation 109 = .ok (.iload_n 1, 1) := by decide +kernel
theorem dX8_splitAnnotation_110 : decode cX8_splitAnnotation 110 = .ok (.iconst 2, 1) := by decide +kernel
theorem dX8_splitAnnotation_111 : decode cX8_splitAnnotation 111 = .ok (.iadd, 1) := by decide +kernel
theorem dX8_splitAnnotation_112 : decode cX8_splitAnnotation 112 = .ok (.iaload, 1) := by decide +kernel
theorem dX8_splitAnnotation_113 : decode cX8_splitAnnotation 113 = .ok (.goto 6, 3) := by decide +kernel
theorem dX8_splitAnnotation_116 : decode cX8_splitAnnotation 116 = .ok (.iload_n 3, 1) := by decide +kernel
theorem dX8_splitAnnotation_117 : decode cX8_splitAnnotation 117 = .ok (.iconst 1, 1) := by decide +kernel
theorem dX8_splitAnnotation_118 : decode cX8_splitAnnotation 118 = .ok (.isub, 1) := by decide +kernel
theorem dX8_splitAnnotation_119 : decode cX8_splitAnnotation 119 = .ok (.iastore, 1) := by decide +kernel
theorem dX8_splitAnnotation_120 : decode cX8_splitAnnotation 120 = .ok (.aload_n 0, 1) := by decide +kernel
theorem dX8_splitAnnotation_121 : decode cX8_splitAnnotation 121 = .ok (.getfield 7, 3) := by decide +kernel
theorem dX8_splitAnnotation_124 : decode cX8_splitAnnotation 124 = .ok (.iload_n 1, 1) := by decide +kernel
theorem dX8_splitAnnotation_125 : decode cX8_splitAnnotation 125 = .ok (.iconst 4, 1) := by decide +kernel
theorem dX8_splitAnnotation_126 : decode cX8_splitAnnotation 126 = .ok (.iadd, 1) := by decide +kernel
theorem dX8_splitAnnotation_127 : decode cX8_splitAnnotation 127 = .ok (.aload_n 0, 1) := by decide +kernel
theorem dX8_splitAnnotation_128 : decode cX8_splitAnnotation 128 = .ok (.getfield 7, 3) := by decide +kernel
theorem dX8_splitAnnotation_131 : decode cX8_splitAnnotation 131 = .ok (.iload_n 1, 1) := by decide +kernel
theorem dX8_splitAnnotation_132 : decode cX8_splitAnnotation 132 = .ok (.iconst 1, 1) := by decide +kernel
theorem dX8_splitAnnotation_133 : decode cX8_splitAnnotation 133 = .ok (.iadd, 1) := by decide +kernel
theorem dX8_splitAnnotation_134 : decode cX8_splitAnnotation 134 = .ok (.iaload, 1) := by decide +kernel
theorem dX8_splitAnnotation_135 : decode cX8_splitAnnotation 135 = .ok (.aload_n 0, 1) := by decide +kernel
theorem dX8_splitAnnotation_136 : decode cX8_splitAnnotation 136 = .ok (.getfield 7, 3) := by decide +kernel
theorem dX8_splitAnnotation_139 : decode cX8_splitAnnotation 139 = .ok (.iload_n 1, 1) := by decide +kernel
theorem dX8_splitAnnotation_140 : decode cX8_splitAnnotation 140 = .ok (.iconst 2, 1) := by decide +kernel
theorem dX8_splitAnnotation_141 : decode cX8_splitAnnotation 141 = .ok (.iadd, 1) := by decide +kernel
theorem dX8_splitAnnotation_142 : decode cX8_splitAnnotation 142 = .ok (.iaload, 1) := by decide +kernel
theorem dX8_splitAnnotation_143 : decode cX8_splitAnnotation 143 = .ok (.if_icmp .ne 7, 3) := by decide +kernel
theorem dX8_splitAnnotation_146 : decode cX8_splitAnnotation 146 = .ok (.iconst 1, 1) := by decide +kernel
theorem dX8_splitAnnotation_147 : decode cX8_splitAnnotation 147 = .ok (.goto 4, 3) := by decide +kernel
theorem dX8_splitAnnotation_150 : decode cX8_splitAnnotation 150 = .ok (.iconst 0, 1) := by decide +kernel
theorem dX8_splitAnnotation_151 : decode cX8_splitAnnotation 151 = .ok (.iastore, 1) := by decide +kernel
theorem dX8_splitAnnotation_152 : decode cX8_splitAnnotation 152 = .ok (.return_, 1) := by decide +kernel
theorem dX8_divide_0 : decode cX8_divide 0 = .ok (.aload_n 0, 1) := by decide +kernel
theorem dX8_divide_1 : decode cX8_divide 1 = .ok (.iload_n 1, 1) := by decide +kernel
theorem dX8_divide_2 : decode cX8_divide 2 = .ok (.iconst 1, 1) := by decide +kernel
theorem dX8_divide_3 : decode cX8_divide 3 = .ok (.iadd, 1) := by decide +kernel
theorem dX8_divide_4 : decode cX8_divide 4 = .ok (.iconst 1, 1) := by decide +kernel
theorem dX8_divide_5 : decode cX8_divide 5 = .ok (.invokevirtual 312, 3) := by decide +kernel
theorem dX8_divide_8 : decode cX8_divide 8 = .ok (.aload_n 0, 1) := by decide +kernel
theorem dX8_divide_9 : decode cX8_divide 9 = .ok (.getfield 7, 3) := by decide +kernel
theorem dX8_divide_12 : decode cX8_divide 12 = .ok (.iconst 0, 1) := by decide +kernel
theorem dX8_divide_13 : decode cX8_divide 13 = .ok (.iaload, 1) := by decide +kernel
theorem dX8_divide_14 : decode cX8_divide 14 = .ok (.istore_n 3, 1) := by decide +kernel
theorem dX8_divide_15 : decode cX8_divide 15 = .ok (.iload_n 3, 1) := by decide +kernel
theorem dX8_divide_16 : decode cX8_divide 16 = .ok (.iload_n 1, 1) := by decide +kernel
theorem dX8_divide_17 : decode cX8_divide 17 = .ok (.iconst 1, 1) := by decide +kernel
theorem dX8_divide_18 : decode cX8_divide 18 = .ok (.iadd, 1) := by decide +kernel
theorem dX8_divide_19 : decode cX8_divide 19 = .ok (.if_icmp .le 17, 3) := by decide +kernel
theorem dX8_divide_22 : decode cX8_divide 22 = .ok (.aload_n 0, 1) := by decide +kernel
theorem dX8_divide_23 : decode cX8_divide 23 = .ok (.iload_n 3, 1) := by decide +kernel
theorem dX8_divide_24 : decode cX8_divide 24 = .ok (.iload_n 3, 1) := by decide +kernel
theorem dX8_divide_25 : decode cX8_divide 25 = .ok (.iconst 1, 1) := by decide +kernel
theorem dX8_divide_26 : decode cX8_divide 26 = .ok (.isub, 1) := by decide +kernel
theorem dX8_divide_27 : decode cX8_divide 27 = .ok (.invokevirtual 315, 3) := by decide +kernel
theorem dX8_divide_30 : decode cX8_divide 30 = .ok (.iinc 3 (-1), 3) := by decide +kernel
theorem dX8_divide_33 : decode cX8_divide 33 = .ok (.goto (-18), 3) := by decide +kernel
theorem dX8_divide_36 : decode cX8_divide 36 = .ok (.aload_n 0, 1) := by decide +kernel
theorem dX8_divide_37 : decode cX8_divide 37 = .ok (.getfield 7, 3) := by decide +kernel
theorem dX8_divide_40 : decode cX8_divide 40 = .ok (.iconst 0, 1) := by decide +kernel
theorem dX8_divide_41 : decode cX8_divide 41 = .ok (.dup2, 1) := by decide +kernel
theorem dX8_divide_42 : decode cX8_divide 42 = .ok (.iaload, 1) := by decide +kernel
theorem dX8_divide_43 : decode cX8_divide 43 = .ok (.iconst 1, 1) := by decide +kernel
theorem dX8_divide_44 : decode cX8_divide 44 = .ok (.iadd, 1) := by decide +kernel
theorem dX8_divide_45 : decode cX8_divide 45 = .ok (.iastore, 1) := by decide +kernel
theorem dX8_divide_46 : decode cX8_divide 46 = .ok (.aload_n 0, 1) := by decide +kernel
theorem dX8_divide_47 : decode cX8_divide 47 = .ok (.getfield 7, 3) := by decide +kernel
theorem dX8_divide_50 : decode cX8_divide 50 = .ok (.bipush 75, 2) := by decide +kernel
theorem dX8_divide_52 : decode cX8_divide 52 = .ok (.iload_n 1, 1) := by decide +kernel
theorem dX8_divide_53 : decode cX8_divide 53 = .ok (.iadd, 1) := by decide +kernel
theorem dX8_divide_54 : decode cX8_divide 54 = .ok (.iconst 1, 1) := by decide +kernel
theorem dX8_divide_55 : decode cX8_divide 55 = .ok (.iadd, 1) := by decide +kernel
theorem dX8_divide_56 : decode cX8_divide 56 = .ok (.aload_n 0, 1) := by decide +kernel
theorem dX8_divide_57 : decode cX8_divide 57 = .ok (.getfield 7, 3) := by decide +kernel
theorem dX8_divide_60 : decode cX8_divide 60 = .ok (.bipush 75, 2) := by decide +kernel
theorem dX8_divide_62 : decode cX8_divide 62 = .ok (.iload_n 1, 1) := by decide +kernel
theorem dX8_divide_63 : decode cX8_divide 63 = .ok (.iadd, 1) := by decide +kernel
theorem dX8_divide_64 : decode cX8_divide 64 = .ok (.iaload, 1) := by decide +kernel
theorem dX8_divide_65 : decode cX8_divide 65 = .ok (.iconst 1, 1) := by decide +kernel
theorem dX8_divide_66 : decode cX8_divide 66 = .ok (.if_icmp .ne 7, 3) := by decide +kernel
theorem dX8_divide_69 : decode cX8_divide 69 = .ok (.iconst 0, 1) := by decide +kernel
theorem dX8_divide_70 : decode cX8_divide 70 = .ok (.goto 12, 3) := by decide +kernel
theorem dX8_divide_73 : decode cX8_divide 73 = .ok (.aload_n 0, 1) := by decide +kernel
theorem dX8_divide_74 : decode cX8_divide 74 = .ok (.getfield 7, 3) := by decide +kernel
theorem dX8_divide_77 : decode cX8_divide 77 = .ok (.bipush 75, 2) := by decide +kernel
theorem dX8_divide_79 : decode cX8_divide 79 = .ok (.iload_n 1, 1) := by decide +kernel
theorem dX8_divide_80 : decode cX8_divide 80 = .ok (.iadd, 1) := by decide +kernel
theorem dX8_divide_81 : decode cX8_divide 81 = .ok (.iaload, 1) := by decide +kernel
theorem dX8_divide_82 : decode cX8_divide 82 = .ok (.iastore, 1) := by decide +kernel
theorem dX8_divide_83 : decode cX8_divide 83 = .ok (.aload_n 0, 1) := by decide +kernel
theorem dX8_divide_84 : decode cX8_divide 84 = .ok (.getfield 7, 3) := by decide +kernel
theorem dX8_divide_87 : decode cX8_divide 87 = .ok (.bipush 85, 2) := by decide +kernel
theorem dX8_divide_89 : decode cX8_divide 89 = .ok (.iload_n 1, 1) := by decide +kernel
theorem dX8_divide_90 : decode cX8_divide 90 = .ok (.iadd, 1) := by decide +kernel
theorem dX8_divide_91 : decode cX8_divide 91 = .ok (.iconst 1, 1) := by decide +kernel
theorem dX8_divide_92 : decode cX8_divide 92 = .ok (.iadd, 1) := by decide +kernel
theorem dX8_divide_93 : decode cX8_divide 93 = .ok (.aload_n 0, 1) := by decide +kernel
theorem dX8_divide_94 : decode cX8_divide 94 = .ok (.getfield 7, 3) := by decide +kernel
theorem dX8_divide_97 : decode cX8_divide 97 = .ok (.bipush 85, 2) := by decide +kernel
theorem dX8_divide_99 : decode cX8_divide 99 = .ok (.iload_n 1, 1) := by decide +kernel
theorem dX8_divide_100 : decode cX8_divide 100 = .ok (.iadd, 1) := by decide +kernel
theorem dX8_divide_101 : decode cX8_divide 101 = .ok (.iaload, 1) := by decide +kernel
theorem dX8_divide_102 : decode cX8_divide 102 = .ok (.iload_n 2, 1) := by decide +kernel
theorem dX8_divide_103 : decode cX8_divide 103 = .ok (.isub, 1) := by decide +kernel
theorem dX8_divide_104 : decode cX8_divide 104 = .ok (.iastore, 1) := by decide +kernel
theorem dX8_divide_105 : decode cX8_divide 105 = .ok (.iload_n 2, 1) := by decide +kernel
theorem dX8_divide_106 : decode cX8_divide 106 = .ok (.istore_n 3, 1) := by decide +kernel
theorem dX8_divide_107 : decode cX8_divide 107 = .ok (.iload_n 3, 1) := by decide +kernel
theorem dX8_divide_108 : decode cX8_divide 108 = .ok (.aload_n 0, 1) := by decide +kernel
theorem dX8_divide_109 : decode cX8_divide 109 = .ok (.getfield 7, 3) := by decide +kernel
theorem dX8_divide_112 : decode cX8_divide 112 = .ok (.bipush 85, 2) := by decide +kernel
theorem dX8_divide_114 : decode cX8_divide 114 = .ok (.iload_n 1, 1) := by decide +kernel
theorem dX8_divide_115 : decode cX8_divide 115 = .ok (.iadd, 1) := by decide +kernel
theorem dX8_divide_116 : decode cX8_divide 116 = .ok (.iaload, 1) := by decide +kernel
theorem dX8_divide_117 : decode cX8_divide 117 = .ok (.if_icmp .ge 43, 3) := by decide +kernel
theorem dX8_divide_120 : decode cX8_divide 120 = .ok (.aload_n 0, 1) := by decide +kernel
theorem dX8_divide_121 : decode cX8_divide 121 = .ok (.getfield 7, 3) := by decide +kernel
theorem dX8_divide_124 : decode cX8_divide 124 = .ok (.bipush 95, 2) := by decide +kernel
theorem dX8_divide_126 : decode cX8_divide 126 = .ok (.sipush 360, 3) := by decide +kernel
theorem dX8_divide_129 : decode cX8_divide 129 = .ok (.iload_n 1, 1) := by decide +kernel
theorem dX8_divide_130 : decode cX8_divide 130 = .ok (.iconst 1, 1) := by decide +kernel
theorem dX8_divide_131 : decode cX8_divide 131 = .ok (.iadd, 1) := by decide +kernel
theorem dX8_divide_132 : decode cX8_divide 132 = .ok (.imul, 1) := by decide +kernel
theorem dX8_divide_133 : decode cX8_divide 133 = .ok (.iadd, 1) := by decide +kernel
theorem dX8_divide_134 : decode cX8_divide 134 = .ok (.iload_n 3, 1) := by decide +kernel
theorem dX8_divide_135 : decode cX8_divide 135 = .ok (.iadd, 1) := by decide +kernel
theorem dX8_divide_136 : decode cX8_divide 136 = .ok (.iload_n 2, 1) := by decide +kernel
theorem dX8_divide_137 : decode cX8_divide 137 = .ok (.isub, 1) := by decide +kernel
theorem dX8_divide_138 : decode cX8_divide 138 = .ok (.aload_n 0, 1) := by decide +kernel
theorem dX8_divide_139 : decode cX8_divide 139 = .ok (.getfield 7, 3) := by decide +kernel
theorem dX8_divide_142 : decode cX8_divide 142 = .ok (.bipush 95, 2) := by decide +kernel
theorem dX8_divide_144 : decode cX8_divide 144 = .ok (.sipush 360, 3) := by decide +kernel
theorem dX8_divide_147 : decode cX8_divide 147 = .ok (.iload_n 1, 1) := by decide +kernel
theorem dX8_divide_148 : decode cX8_divide 148 = .ok (.imul, 1) := by decide +kernel
theorem dX8_divide_149 : decode cX8_divide 149 = .ok (.iadd, 1) := by decide +kernel
theorem dX8_divide_150 : decode cX8_divide 150 = .ok (.iload_n 3, 1) := by decide +kernel
theorem dX8_divide_151 : decode cX8_divide 151 = .ok (.iadd, 1) := by decide +kernel
theorem dX8_divide_152 : decode cX8_divide 152 = .ok (.iaload, 1) := by decide +kernel
theorem dX8_divide_153 : decode cX8_divide 153 = .ok (.iastore, 1) := by decide +kernel
theorem dX8_divide_154 : decode cX8_divide 154 = .ok (.iinc 3 1, 3) := by decide +kernel
theorem dX8_divide_157 : decode cX8_divide 157 = .ok (.goto (-50), 3) := by decide +kernel
theorem dX8_divide_160 : decode cX8_divide 160 = .ok (.aload_n 0, 1) := by decide +kernel
theorem dX8_divide_161 : decode cX8_divide 161 = .ok (.getfield 7, 3) := by decide +kernel
theorem dX8_divide_164 : decode cX8_divide 164 = .ok (.bipush 85, 2) := by decide +kernel
theorem dX8_divide_166 : decode cX8_divide 166 = .ok (.iload_n 1, 1) := by decide +kernel
theorem dX8_divide_167 : decode cX8_divide 167 = .ok (.iadd, 1) := by decide +kernel
theorem dX8_divide_168 : decode cX8_divide 168 = .ok (.iload_n 2, 1) := by decide +kernel
theorem dX8_divide_169 : decode cX8_divide 169 = .ok (.iconst 1, 1) := by decide +kernel
theorem dX8_divide_170 : decode cX8_divide 170 = .ok (.isub, 1) := by decide +kernel
theorem dX8_divide_171 : decode cX8_divide 171 = .ok (.iastore, 1) := by decide +kernel
theorem dX8_divide_172 : decode cX8_divide 172 = .ok (.iconst 0, 1) := by decide +kernel
theorem dX8_divide_173 : decode cX8_divide 173 = .ok (.istore_n 3, 1) := by decide +kernel
theorem dX8_divide_174 : decode cX8_divide 174 = .ok (.iload_n 3, 1) := by decide +kernel
theorem dX8_divide_175 : decode cX8_divide 175 = .ok (.aload_n 0, 1) := by decide +kernel
theorem dX8_divide_176 : decode cX8_divide 176 = .ok (.getfield 7, 3) := by decide +kernel
theorem dX8_divide_179 : decode cX8_divide 179 = .ok (.iconst 3, 1) := by decide +kernel
theorem dX8_divide_180 : decode cX8_divide 180 = .ok (.iaload, 1) := by decide +kernel
theorem dX8_divide_181 : decode cX8_divide 181 = .ok (.if_icmp .gt 135, 3) := by decide +kernel
theorem dX8_divide_184 : decode cX8_divide 184 = .ok (.iload_n 3, 1) := by decide +kernel
theorem dX8_divide_185 : decode cX8_divide 185 = .ok (.ifCond .ne 7, 3) := by decide +kernel
theorem dX8_divide_188 : decode cX8_divide 188 = .ok (.iconst 1, 1) := by decide +kernel
theorem dX8_divide_189 : decode cX8_divide 189 = .ok (.goto 10, 3) := by decide +kernel
theorem dX8_divide_192 : decode cX8_divide 192 = .ok (.iconst 4, 1) := by decide +kernel
theorem dX8_divide_193 : decode cX8_divide 193 = .ok (.iconst 2, 1) := by decide +kernel
theorem dX8_divide_194 : decode cX8_divide 194 = .ok (.iload_n 3, 1) := by decide +kernel
theorem dX8_divide_195 : decode cX8_divide 195 = .ok (.imul, 1) := by decide +kernel
theorem dX8_divide_196 : decode cX8_divide 196 = .ok (.iadd, 1) := by decide +kernel
theorem dX8_divide_197 : decode cX8_divide 197 = .ok (.iconst 2, 1) := by decide +kernel
theorem dX8_divide_198 : decode cX8_divide 198 = .ok (.isub, 1) := by decide +kernel
theorem dX8_divide_199 : decode cX8_divide 199 = .ok (.istore 4, 2) := by decide +kernel
theorem dX8_divide_201 : decode cX8_divide 201 = .ok (.aload_n 0, 1) := by decide +kernel
theorem dX8_divide_202 : decode cX8_divide 202 = .ok (.getfield 7, 3) := by decide +kernel
theorem dX8_divide_205 : decode cX8_divide 205 = .ok (.iload 4, 2) := by decide +kernel
theorem dX8_divide_207 : decode cX8_divide 207 = .ok (.iaload, 1) := by decide +kernel
theorem dX8_divide_208 : decode cX8_divide 208 = .ok (.iload_n 1, 1) := by decide +kernel
theorem dX8_divide_209 : decode cX8_divide 209 = .ok (.if_icmp .ne 101, 3) := by decide +kernel
theorem dX8_divide_212 : decode cX8_divide 212 = .ok (.aload_n 0, 1) := by decide +kernel
theorem dX8_divide_213 : decode cX8_divide 213 = .ok (.getfield 7, 3) := by decide +kernel
theorem dX8_divide_216 : decode cX8_divide 216 = .ok (.iload 4, 2) := by decide +kernel
theorem dX8_divide_218 : decode cX8_divide 218 = .ok (.iconst 1, 1) := by decide +kernel
theorem dX8_divide_219 : decode cX8_divide 219 = .ok (.iadd, 1) := by decide +kernel
theorem dX8_divide_220 : decode cX8_divide 220 = .ok (.iaload, 1) := by decide +kernel
theorem dX8_divide_221 : decode cX8_divide 221 = .ok (.iload_n 2, 1) := by decide +kernel
theorem dX8_divide_222 : decode cX8_divide 222 = .ok (.if_icmp .lt 7, 3) := by decide +kernel
theorem dX8_divide_225 : decode cX8_divide 225 = .ok (.iconst 1, 1) := by decide +kernel
theorem dX8_divide_226 : decode cX8_divide 226 = .ok (.goto 4, 3) := by decide +kernel
theorem dX8_divide_229 : decode cX8_divide 229 = .ok (.iconst 0, 1) := by decide +kernel
theorem dX8_divide_230 : decode cX8_divide 230 = .ok (.istore 5, 2) := by decide +kernel
theorem dX8_divide_232 : decode cX8_divide 232 = .ok (.aload_n 0, 1) := by decide +kernel
theorem dX8_divide_233 : decode cX8_divide 233 = .ok (.getfield 7, 3) := by decide +kernel
theorem dX8_divide_236 : decode cX8_divide 236 = .ok (.iload 4, 2) := by decide +kernel
theorem dX8_divide_238 : decode cX8_divide 238 = .ok (.dup2, 1) := by decide +kernel
theorem dX8_divide_239 : decode cX8_divide 239 = .ok (.iaload, 1) := by decide +kernel
theorem dX8_divide_240 : decode cX8_divide 240 = .ok (.iload 5, 2) := by decide +kernel
theorem dX8_divide_242 : decode cX8_divide 242 = .ok (.ifCond .eq 7, 3) := by decide +kernel
theorem dX8_divide_245 : decode cX8_divide 245 = .ok (.iconst 1, 1) := by decide +kernel
theorem dX8_divide_246 : decode cX8_divide 246 = .ok (.goto 4, 3) := by decide +kernel
theorem dX8_divide_249 : decode cX8_divide 249 = .ok (.iconst 0, 1) := by decide +kernel
theorem dX8_divide_250 : decode cX8_divide 250 = .ok (.iadd, 1) := by decide +kernel
theorem dX8_divide_251 : decode cX8_divide 251 = .ok (.iastore, 1) := by decide +kernel
theorem dX8_divide_252 : decode cX8_divide 252 = .ok (.aload_n 0, 1) := by decide +kernel
theorem dX8_divide_253 : decode cX8_divide 253 = .ok (.getfield 7, 3) := by decide +kernel
theorem dX8_divide_256 : decode cX8_divide 256 = .ok (.iload 4, 2) := by decide +kernel
theorem dX8_divide_258 : decode cX8_divide 258 = .ok (.iconst 1, 1) := by decide +kernel
theorem dX8_divide_259 : decode cX8_divide 259 = .ok (.iadd, 1) := by decide +kernel
theorem dX8_divide_260 : decode cX8_divide 260 = .ok (.iload 5, 2) := by decide +kernel
theorem dX8_divide_262 : decode cX8_divide 262 = .ok (.ifCond .eq 17, 3) := by decide +kernel
theorem dX8_divide_265 : decode cX8_divide 265 = .ok (.aload_n 0, 1) := by decide +kernel
theorem dX8_divide_266 : decode cX8_divide 266 = .ok (.getfield 7, 3) := by decide +kernel
theorem dX8_divide_269 : decode cX8_divide 269 = .ok (.iload 4, 2) := by decide +kernel
theorem dX8_divide_271 : decode cX8_divide 271 = .ok (.iconst 1, 1) := by decide +kernel
theorem dX8_divide_272 : decode cX8_divide 272 = .ok (.iadd, 1) := by decide +kernel
theorem dX8_divide_273 : decode cX8_divide 273 = .ok (.iaload, 1) := by decide +kernel
theorem dX8_divide_274 : decode cX8_divide 274 = .ok (.iload_n 2, 1) := by decide +kernel
theorem dX8_divide_275 : decode cX8_divide 275 = .ok (.isub, 1) := by decide +kernel
theorem dX8_divide_276 : decode cX8_divide 276 = .ok (.goto 33, 3) := by decide +kernel
theorem dX8_divide_279 : decode cX8_divide 279 = .ok (.aload_n 0, 1) := by decide +kernel
theorem dX8_divide_280 : decode cX8_divide 280 = .ok (.getfield 7, 3) := by decide +kernel
theorem dX8_divide_283 : decode cX8_divide 283 = .ok (.iload 4, 2) := by decide +kernel
theorem dX8_divide_285 : decode cX8_divide 285 = .ok (.iconst 1, 1) := by decide +kernel
theorem dX8_divide_286 : decode cX8_divide 286 = .ok (.iadd, 1) := by decide +kernel
theorem dX8_divide_287 : decode cX8_divide 287 = .ok (.iaload, 1) := by decide +kernel
theorem dX8_divide_288 : decode cX8_divide 288 = .ok (.iload_n 2, 1) := by decide +kernel
theorem dX8_divide_289 : decode cX8_divide 289 = .ok (.iconst 1, 1) := by decide +kernel
theorem dX8_divide_290 : decode cX8_divide 290 = .ok (.isub, 1) := by decide +kernel
theorem dX8_divide_291 : decode cX8_divide 291 = .ok (.if_icmp .ne 9, 3) := by decide +kernel
theorem dX8_divide_294 : decode cX8_divide 294 = .ok (.iload_n 2, 1) := by decide +kernel
theorem dX8_divide_295 : decode cX8_divide 295 = .ok (.iconst 2, 1) := by decide +kernel
theorem dX8_divide_296 : decode cX8_divide 296 = .ok (.isub, 1) := by decide +kernel
theorem dX8_divide_297 : decode cX8_divide 297 = .ok (.goto 12, 3) := by decide +kernel
theorem dX8_divide_300 : decode cX8_divide 300 = .ok (.aload_n 0, 1) := by decide +kernel
theorem dX8_divide_301 : decode cX8_divide 301 = .ok (.getfield 7, 3) := by decide +kernel
theorem dX8_divide_304 : decode cX8_divide 304 = .ok (.iload 4, 2) := by decide +kernel
theorem dX8_divide_306 : decode cX8_divide 306 = .ok (.iconst 1, 1) := by decide +kernel
theorem dX8_divide_307 : decode cX8_divide 307 = .ok (.iadd, 1) := by decide +kernel
theorem dX8_divide_308 : decode cX8_divide 308 = .ok (.iaload, 1) := by decide +kernel
theorem dX8_divide_309 : decode cX8_divide 309 = .ok (.iastore, 1) := by decide +kernel
theorem dX8_divide_310 : decode cX8_divide 310 = .ok (.iinc 3 1, 3) := by decide +kernel
theorem dX8_divide_313 : decode cX8_divide 313 = .ok (.goto (-139), 3) := by decide +kernel
theorem dX8_divide_316 : decode cX8_divide 316 = .ok (.iconst 0, 1) := by decide +kernel
theorem dX8_divide_317 : decode cX8_divide 317 = .ok (.istore_n 3, 1) := by decide +kernel
theorem dX8_divide_318 : decode cX8_divide 318 = .ok (.iload_n 3, 1) := by decide +kernel
theorem dX8_divide_319 : decode cX8_divide 319 = .ok (.aload_n 0, 1) := by decide +kernel
theorem dX8_divide_320 : decode cX8_divide 320 = .ok (.getfield 7, 3) := by decide +kernel
theorem dX8_divide_323 : decode cX8_divide 323 = .ok (.bipush 14, 2) := by decide +kernel
theorem dX8_divide_325 : decode cX8_divide 325 = .ok (.iaload, 1) := by decide +kernel
theorem dX8_divide_326 : decode cX8_divide 326 = .ok (.if_icmp .ge 36, 3) := by decide +kernel
theorem dX8_divide_329 : decode cX8_divide 329 = .ok (.aload_n 0, 1) := by decide +kernel
theorem dX8_divide_330 : decode cX8_divide 330 = .ok (.getfield 7, 3) := by decide +kernel
theorem dX8_divide_333 : decode cX8_divide 333 = .ok (.bipush 15, 2) := by decide +kernel
theorem dX8_divide_335 : decode cX8_divide 335 = .ok (.iconst 5, 1) := by decide +kernel
theorem dX8_divide_336 : decode cX8_divide 336 = .ok (.iload_n 3, 1) := by decide +kernel
theorem dX8_divide_337 : decode cX8_divide 337 = .ok (.imul, 1) := by decide +kernel
theorem dX8_divide_338 : decode cX8_divide 338 = .ok (.iadd, 1) := by decide +kernel
theorem dX8_divide_339 : decode cX8_divide 339 = .ok (.iaload, 1) := by decide +kernel
theorem dX8_divide_340 : decode cX8_divide 340 = .ok (.iload_n 1, 1) := by decide +kernel
theorem dX8_divide_341 : decode cX8_divide 341 = .ok (.if_icmp .ne 15, 3) := by decide +kernel
theorem dX8_divide_344 : decode cX8_divide 344 = .ok (.aload_n 0, 1) := by decide +kernel
theorem dX8_divide_345 : decode cX8_divide 345 = .ok (.bipush 15, 2) := by decide +kernel
theorem dX8_divide_347 : decode cX8_divide 347 = .ok (.iconst 5, 1) := by decide +kernel
theorem dX8_divide_348 : decode cX8_divide 348 = .ok (.iload_n 3, 1) := by decide +kernel
theorem dX8_divide_349 : decode cX8_divide 349 = .ok (.imul, 1) := by decide +kernel
theorem dX8_divide_350 : decode cX8_divide 350 = .ok (.iadd, 1) := by decide +kernel
theorem dX8_divide_351 : decode cX8_divide 351 = .ok (.iload_n 1, 1) := by decide +kernel
theorem dX8_divide_352 : decode cX8_divide 352 = .ok (.iload_n 2, 1) := by decide +kernel
theorem dX8_divide_353 : decode cX8_divide 353 = .ok (.invokevirtual 318, 3) := by decide +kernel
theorem dX8_divide_356 : decode cX8_divide 356 = .ok (.iinc 3 1, 3) := by decide +kernel
theorem dX8_divide_359 : decode cX8_divide 359 = .ok (.goto (-41), 3) := by decide +kernel
theorem dX8_divide_362 : decode cX8_divide 362 = .ok (.return_, 1) := by decide +kernel
theorem dX8_split_0 : decode cX8_split 0 = .ok (.aload_n 0, 1) := by decide +kernel
theorem dX8_split_1 : decode cX8_split 1 = .ok (.iload_n 1, 1) := by decide +kernel
theorem dX8_split_2 : decode cX8_split 2 = .ok (.invokevirtual 278, 3) := by decide +kernel
theorem dX8_split_5 : decode cX8_split 5 = .ok (.ifCond .eq 22, 3) := by decide +kernel
theorem dX8_split_8 : decode cX8_split 8 = .ok (.iload_n 2, 1) := by decide +kernel
theorem dX8_split_9 : decode cX8_split 9 = .ok (.iconst 1, 1) := by decide +kernel
theorem dX8_split_10 : decode cX8_split 10 = .ok (.aload_n 0, 1) := by decide +kernel
theorem dX8_split_11 : decode cX8_split 11 = .ok (.iload_n 1, 1) := by decide +kernel
theorem dX8_split_12 : decode cX8_split 12 = .ok (.invokevirtual 260, 3) := by decide +kernel
theorem dX8_split_15 : decode cX8_split 15 = .ok (.iconst 1, 1) := by decide +kernel
theorem dX8_split_16 : decode cX8_split 16 = .ok (.isub, 1) := by decide +kernel
theorem dX8_split_17 : decode cX8_split 17 = .ok (.invokestatic 50, 3) := by decide +kernel
theorem dX8_split_20 : decode cX8_split 20 = .ok (.ifCond .eq 7, 3) := by decide +kernel
theorem dX8_split_23 : decode cX8_split 23 = .ok (.iconst 1, 1) := by decide +kernel
theorem dX8_split_24 : decode cX8_split 24 = .ok (.goto 4, 3) := by decide +kernel
theorem dX8_split_27 : decode cX8_split 27 = .ok (.iconst 0, 1) := by decide +kernel
theorem dX8_split_28 : decode cX8_split 28 = .ok (.istore_n 3, 1) := by decide +kernel
theorem dX8_split_29 : decode cX8_split 29 = .ok (.aload_n 0, 1) := by decide +kernel
theorem dX8_split_30 : decode cX8_split 30 = .ok (.iload_n 3, 1) := by decide +kernel
theorem dX8_split_31 : decode cX8_split 31 = .ok (.ifCond .ne 7, 3) := by decide +kernel
theorem dX8_split_34 : decode cX8_split 34 = .ok (.iconst 1, 1) := by decide +kernel
theorem dX8_split_35 : decode cX8_split 35 = .ok (.goto 19, 3) := by decide +kernel
theorem dX8_split_38 : decode cX8_split 38 = .ok (.aload_n 0, 1) := by decide +kernel
theorem dX8_split_39 : decode cX8_split 39 = .ok (.getfield 7, 3) := by decide +kernel
theorem dX8_split_42 : decode cX8_split 42 = .ok (.iconst 0, 1) := by decide +kernel
theorem dX8_split_43 : decode cX8_split 43 = .ok (.iaload, 1) := by decide +kernel
theorem dX8_split_44 : decode cX8_split 44 = .ok (.bipush 10, 2) := by decide +kernel
theorem dX8_split_46 : decode cX8_split 46 = .ok (.if_icmp .ge 7, 3) := by decide +kernel
theorem dX8_split_49 : decode cX8_split 49 = .ok (.iconst 0, 1) := by decide +kernel
theorem dX8_split_50 : decode cX8_split 50 = .ok (.goto 4, 3) := by decide +kernel
theorem dX8_split_53 : decode cX8_split 53 = .ok (.iconst 2, 1) := by decide +kernel
theorem dX8_split_54 : decode cX8_split 54 = .ok (.putfield 47, 3) := by decide +kernel
theorem dX8_split_57 : decode cX8_split 57 = .ok (.aload_n 0, 1) := by decide +kernel
theorem dX8_split_58 : decode cX8_split 58 = .ok (.getfield 47, 3) := by decide +kernel
theorem dX8_split_61 : decode cX8_split 61 = .ok (.ifCond .le 5, 3) := by decide +kernel
