theorem dX0_init_0 : decode cX0_init 0 = .ok (.aload_n 0, 1) := by decide +kernel
theorem dX0_init_1 : decode cX0_init 1 = .ok (.invokespecial 3, 3) := by decide +kernel
theorem dX0_init_4 : decode cX0_init 4 = .ok (.aload_n 0, 1) := by decide +kernel
theorem dX0_init_5 : decode cX0_init 5 = .ok (.aload_n 1, 1) := by decide +kernel
theorem dX0_init_6 : decode cX0_init 6 = .ok (.putfield 9, 3) := by decide +kernel
theorem dX0_init_9 : decode cX0_init 9 = .ok (.aload_n 0, 1) := by decide +kernel
theorem dX0_init_10 : decode cX0_init 10 = .ok (.aload_n 2, 1) := by decide +kernel
theorem dX0_init_11 : decode cX0_init 11 = .ok (.putfield 15, 3) := by decide +kernel
theorem dX0_init_14 : decode cX0_init 14 = .ok (.aload_n 0, 1) := by decide +kernel
theorem dX0_init_15 : decode cX0_init 15 = .ok (.aload_n 3, 1) := by decide +kernel
theorem dX0_init_16 : decode cX0_init 16 = .ok (.putfield 19, 3) := by decide +kernel
theorem dX0_init_19 : decode cX0_init 19 = .ok (.return_, 1) := by decide +kernel
theorem dX0_words_0 : decode cX0_words 0 = .ok (.aload_n 0, 1) := by decide +kernel
theorem dX0_words_1 : decode cX0_words 1 = .ok (.getfield 9, 3) := by decide +kernel
theorem dX0_words_4 : decode cX0_words 4 = .ok (.areturn, 1) := by decide +kernel
theorem dX0_paragraphs_0 : decode cX0_paragraphs 0 = .ok (.aload_n 0, 1) := by decide +kernel
theorem dX0_paragraphs_1 : decode cX0_paragraphs 1 = .ok (.getfield 15, 3) := by decide +kernel
theorem dX0_paragraphs_4 : decode cX0_paragraphs 4 = .ok (.arraylength, 1) := by decide +kernel
theorem dX0_paragraphs_5 : decode cX0_paragraphs 5 = .ok (.ireturn, 1) := by decide +kernel
theorem dX0_kindOf_0 : decode cX0_kindOf 0 = .ok (.iload_n 1, 1) := by decide +kernel
theorem dX0_kindOf_1 : decode cX0_kindOf 1 = .ok (.ifCond .lt 21, 3) := by decide +kernel
theorem dX0_kindOf_4 : decode cX0_kindOf 4 = .ok (.iload_n 1, 1) := by decide +kernel
theorem dX0_kindOf_5 : decode cX0_kindOf 5 = .ok (.aload_n 0, 1) := by decide +kernel
theorem dX0_kindOf_6 : decode cX0_kindOf 6 = .ok (.getfield 15, 3) := by decide +kernel
theorem dX0_kindOf_9 : decode cX0_kindOf 9 = .ok (.arraylength, 1) := by decide +kernel
theorem dX0_kindOf_10 : decode cX0_kindOf 10 = .ok (.if_icmp .ge 12, 3) := by decide +kernel
theorem dX0_kindOf_13 : decode cX0_kindOf 13 = .ok (.aload_n 0, 1) := by decide +kernel
theorem dX0_kindOf_14 : decode cX0_kindOf 14 = .ok (.getfield 15, 3) := by decide +kernel
theorem dX0_kindOf_17 : decode cX0_kindOf 17 = .ok (.iload_n 1, 1) := by decide +kernel
theorem dX0_kindOf_18 : decode cX0_kindOf 18 = .ok (.iaload, 1) := by decide +kernel
theorem dX0_kindOf_19 : decode cX0_kindOf 19 = .ok (.goto 4, 3) := by decide +kernel
theorem dX0_kindOf_22 : decode cX0_kindOf 22 = .ok (.iconst 0, 1) := by decide +kernel
theorem dX0_kindOf_23 : decode cX0_kindOf 23 = .ok (.ireturn, 1) := by decide +kernel
theorem dX0_firstWordOf_0 : decode cX0_firstWordOf 0 = .ok (.iload_n 1, 1) := by decide +kernel
theorem dX0_firstWordOf_1 : decode cX0_firstWordOf 1 = .ok (.ifCond .lt 21, 3) := by decide +kernel
theorem dX0_firstWordOf_4 : decode cX0_firstWordOf 4 = .ok (.iload_n 1, 1) := by decide +kernel
theorem dX0_firstWordOf_5 : decode cX0_firstWordOf 5 = .ok (.aload_n 0, 1) := by decide +kernel
theorem dX0_firstWordOf_6 : decode cX0_firstWordOf 6 = .ok (.getfield 19, 3) := by decide +kernel
theorem dX0_firstWordOf_9 : decode cX0_firstWordOf 9 = .ok (.arraylength, 1) := by decide +kernel
theorem dX0_firstWordOf_10 : decode cX0_firstWordOf 10 = .ok (.if_icmp .ge 12, 3) := by decide +kernel
theorem dX0_firstWordOf_13 : decode cX0_firstWordOf 13 = .ok (.aload_n 0, 1) := by decide +kernel
theorem dX0_firstWordOf_14 : decode cX0_firstWordOf 14 = .ok (.getfield 19, 3) := by decide +kernel
theorem dX0_firstWordOf_17 : decode cX0_firstWordOf 17 = .ok (.iload_n 1, 1) := by decide +kernel
theorem dX0_firstWordOf_18 : decode cX0_firstWordOf 18 = .ok (.iaload, 1) := by decide +kernel
theorem dX0_firstWordOf_19 : decode cX0_firstWordOf 19 = .ok (.goto 4, 3) := by decide +kernel
theorem dX0_firstWordOf_22 : decode cX0_firstWordOf 22 = .ok (.iconst 0, 1) := by decide +kernel
theorem dX0_firstWordOf_23 : decode cX0_firstWordOf 23 = .ok (.ireturn, 1) := by decide +kernel
theorem dX0_wordsOf_0 : decode cX0_wordsOf 0 = .ok (.aload_n 0, 1) := by decide +kernel
theorem dX0_wordsOf_1 : decode cX0_wordsOf 1 = .ok (.iload_n 1, 1) := by decide +kernel
theorem dX0_wordsOf_2 : decode cX0_wordsOf 2 = .ok (.iconst 1, 1) := by decide +kernel
theorem dX0_wordsOf_3 : decode cX0_wordsOf 3 = .ok (.iadd, 1) := by decide +kernel
theorem dX0_wordsOf_4 : decode cX0_wordsOf 4 = .ok (.invokevirtual 22, 3) := by decide +kernel
theorem dX0_wordsOf_7 : decode cX0_wordsOf 7 = .ok (.aload_n 0, 1) := by decide +kernel
theorem dX0_wordsOf_8 : decode cX0_wordsOf 8 = .ok (.iload_n 1, 1) := by decide +kernel
theorem dX0_wordsOf_9 : decode cX0_wordsOf 9 = .ok (.invokevirtual 22, 3) := by decide +kernel
theorem dX0_wordsOf_12 : decode cX0_wordsOf 12 = .ok (.isub, 1) := by decide +kernel
theorem dX0_wordsOf_13 : decode cX0_wordsOf 13 = .ok (.ireturn, 1) := by decide +kernel
theorem dX0_placeOfWord_0 : decode cX0_placeOfWord 0 = .ok (.aload_n 0, 1) := by decide +kernel
theorem dX0_placeOfWord_1 : decode cX0_placeOfWord 1 = .ok (.getfield 9, 3) := by decide +kernel
theorem dX0_placeOfWord_4 : decode cX0_placeOfWord 4 = .ok (.aload_n 0, 1) := by decide +kernel
theorem dX0_placeOfWord_5 : decode cX0_placeOfWord 5 = .ok (.iload_n 1, 1) := by decide +kernel
theorem dX0_placeOfWord_6 : decode cX0_placeOfWord 6 = .ok (.invokevirtual 22, 3) := by decide +kernel
theorem dX0_placeOfWord_9 : decode cX0_placeOfWord 9 = .ok (.iload_n 2, 1) := by decide +kernel
theorem dX0_placeOfWord_10 : decode cX0_placeOfWord 10 = .ok (.iadd, 1) := by decide +kernel
theorem dX0_placeOfWord_11 : decode cX0_placeOfWord 11 = .ok (.invokevirtual 26, 3) := by decide +kernel
theorem dX0_placeOfWord_14 : decode cX0_placeOfWord 14 = .ok (.ireturn, 1) := by decide +kernel
theorem dX0_startOf_0 : decode cX0_startOf 0 = .ok (.aload_n 0, 1) := by decide +kernel
theorem dX0_startOf_1 : decode cX0_startOf 1 = .ok (.getfield 9, 3) := by decide +kernel
theorem dX0_startOf_4 : decode cX0_startOf 4 = .ok (.aload_n 0, 1) := by decide +kernel
theorem dX0_startOf_5 : decode cX0_startOf 5 = .ok (.iload_n 1, 1) := by decide +kernel
theorem dX0_startOf_6 : decode cX0_startOf 6 = .ok (.invokevirtual 22, 3) := by decide +kernel
theorem dX0_startOf_9 : decode cX0_startOf 9 = .ok (.invokevirtual 26, 3) := by decide +kernel
theorem dX0_startOf_12 : decode cX0_startOf 12 = .ok (.ireturn, 1) := by decide +kernel
theorem dX0_endOf_0 : decode cX0_endOf 0 = .ok (.aload_n 0, 1) := by decide +kernel
theorem dX0_endOf_1 : decode cX0_endOf 1 = .ok (.getfield 9, 3) := by decide +kernel
theorem dX0_endOf_4 : decode cX0_endOf 4 = .ok (.aload_n 0, 1) := by decide +kernel
theorem dX0_endOf_5 : decode cX0_endOf 5 = .ok (.iload_n 1, 1) := by decide +kernel
theorem dX0_endOf_6 : decode cX0_endOf 6 = .ok (.iconst 1, 1) := by decide +kernel
theorem dX0_endOf_7 : decode cX0_endOf 7 = .ok (.iadd, 1) := by decide +kernel
theorem dX0_endOf_8 : decode cX0_endOf 8 = .ok (.invokevirtual 22, 3) := by decide +kernel
theorem dX0_endOf_11 : decode cX0_endOf 11 = .ok (.invokevirtual 26, 3) := by decide +kernel
theorem dX0_endOf_14 : decode cX0_endOf 14 = .ok (.iconst 1, 1) := by decide +kernel
theorem dX0_endOf_15 : decode cX0_endOf 15 = .ok (.isub, 1) := by decide +kernel
theorem dX0_endOf_16 : decode cX0_endOf 16 = .ok (.ireturn, 1) := by decide +kernel
theorem dX0_lengthOf_0 : decode cX0_lengthOf 0 = .ok (.aload_n 0, 1) := by decide +kernel
theorem dX0_lengthOf_1 : decode cX0_lengthOf 1 = .ok (.iload_n 1, 1) := by decide +kernel
theorem dX0_lengthOf_2 : decode cX0_lengthOf 2 = .ok (.invokevirtual 31, 3) := by decide +kernel
theorem dX0_lengthOf_5 : decode cX0_lengthOf 5 = .ok (.aload_n 0, 1) := by decide +kernel
theorem dX0_lengthOf_6 : decode cX0_lengthOf 6 = .ok (.iload_n 1, 1) := by decide +kernel
theorem dX0_lengthOf_7 : decode cX0_lengthOf 7 = .ok (.invokevirtual 34, 3) := by decide +kernel
theorem dX0_lengthOf_10 : decode cX0_lengthOf 10 = .ok (.isub, 1) := by decide +kernel
theorem dX0_lengthOf_11 : decode cX0_lengthOf 11 = .ok (.ireturn, 1) := by decide +kernel
theorem dX0_characters_0 : decode cX0_characters 0 = .ok (.aload_n 0, 1) := by decide +kernel
theorem dX0_characters_1 : decode cX0_characters 1 = .ok (.getfield 9, 3) := by decide +kernel
theorem dX0_characters_4 : decode cX0_characters 4 = .ok (.invokevirtual 35, 3) := by decide +kernel
theorem dX0_characters_7 : decode cX0_characters 7 = .ok (.aload_n 0, 1) := by decide +kernel
theorem dX0_characters_8 : decode cX0_characters 8 = .ok (.invokevirtual 39, 3) := by decide +kernel
theorem dX0_characters_11 : decode cX0_characters 11 = .ok (.iconst 1, 1) := by decide +kernel
theorem dX0_characters_12 : decode cX0_characters 12 = .ok (.isub, 1) := by decide +kernel
theorem dX0_characters_13 : decode cX0_characters 13 = .ok (.isub, 1) := by decide +kernel
theorem dX0_characters_14 : decode cX0_characters 14 = .ok (.ireturn, 1) := by decide +kernel
theorem dX0_charactersBefore_0 : decode cX0_charactersBefore 0 = .ok (.iload_n 1, 1) := by decide +kernel
theorem dX0_charactersBefore_1 : decode cX0_charactersBefore 1 = .ok (.aload_n 0, 1) := by decide +kernel
theorem dX0_charactersBefore_2 : decode cX0_charactersBefore 2 = .ok (.iload_n 1, 1) := by decide +kernel
theorem dX0_charactersBefore_3 : decode cX0_charactersBefore 3 = .ok (.invokevirtual 42, 3) := by decide +kernel
theorem dX0_charactersBefore_6 : decode cX0_charactersBefore 6 = .ok (.isub, 1) := by decide +kernel
theorem dX0_charactersBefore_7 : decode cX0_charactersBefore 7 = .ok (.ireturn, 1) := by decide +kernel
theorem dX0_paragraphAt_0 : decode cX0_paragraphAt 0 = .ok (.aload_n 0, 1) := by decide +kernel
theorem dX0_paragraphAt_1 : decode cX0_paragraphAt 1 = .ok (.invokevirtual 39, 3) := by decide +kernel
theorem dX0_paragraphAt_4 : decode cX0_paragraphAt 4 = .ok (.iconst 1, 1) := by decide +kernel
theorem dX0_paragraphAt_5 : decode cX0_paragraphAt 5 = .ok (.isub, 1) := by decide +kernel
theorem dX0_paragraphAt_6 : decode cX0_paragraphAt 6 = .ok (.istore_n 2, 1) := by decide +kernel
theorem dX0_paragraphAt_7 : decode cX0_paragraphAt 7 = .ok (.iload_n 2, 1) := by decide +kernel
theorem dX0_paragraphAt_8 : decode cX0_paragraphAt 8 = .ok (.ifCond .le 18, 3) := by decide +kernel
theorem dX0_paragraphAt_11 : decode cX0_paragraphAt 11 = .ok (.aload_n 0, 1) := by decide +kernel
theorem dX0_paragraphAt_12 : decode cX0_paragraphAt 12 = .ok (.iload_n 2, 1) := by decide +kernel
theorem dX0_paragraphAt_13 : decode cX0_paragraphAt 13 = .ok (.invokevirtual 34, 3) := by decide +kernel
theorem dX0_paragraphAt_16 : decode cX0_paragraphAt 16 = .ok (.iload_n 1, 1) := by decide +kernel
theorem dX0_paragraphAt_17 : decode cX0_paragraphAt 17 = .ok (.if_icmp .le 9, 3) := by decide +kernel
theorem dX0_paragraphAt_20 : decode cX0_paragraphAt 20 = .ok (.iinc 2 (-1), 3) := by decide +kernel
theorem dX0_paragraphAt_23 : decode cX0_paragraphAt 23 = .ok (.goto (-16), 3) := by decide +kernel
theorem dX0_paragraphAt_26 : decode cX0_paragraphAt 26 = .ok (.iload_n 2, 1) := by decide +kernel
theorem dX0_paragraphAt_27 : decode cX0_paragraphAt 27 = .ok (.ireturn, 1) := by decide +kernel
theorem dX0_positionOf_0 : decode cX0_positionOf 0 = .ok (.aload_n 0, 1) := by decide +kernel
theorem dX0_positionOf_1 : decode cX0_positionOf 1 = .ok (.iload_n 1, 1) := by decide +kernel
theorem dX0_positionOf_2 : decode cX0_positionOf 2 = .ok (.invokevirtual 42, 3) := by decide +kernel
theorem dX0_positionOf_5 : decode cX0_positionOf 5 = .ok (.istore_n 2, 1) := by decide +kernel
theorem dX0_positionOf_6 : decode cX0_positionOf 6 = .ok (.sipush 1000, 3) := by decide +kernel
theorem dX0_positionOf_9 : decode cX0_positionOf 9 = .ok (.iload_n 2, 1) := by decide +kernel
theorem dX0_positionOf_10 : decode cX0_positionOf 10 = .ok (.imul, 1) := by decide +kernel
theorem dX0_positionOf_11 : decode cX0_positionOf 11 = .ok (.iload_n 1, 1) := by decide +kernel
theorem dX0_positionOf_12 : decode cX0_positionOf 12 = .ok (.iadd, 1) := by decide +kernel
theorem dX0_positionOf_13 : decode cX0_positionOf 13 = .ok (.aload_n 0, 1) := by decide +kernel
theorem dX0_positionOf_14 : decode cX0_positionOf 14 = .ok (.iload_n 2, 1) := by decide +kernel
theorem dX0_positionOf_15 : decode cX0_positionOf 15 = .ok (.invokevirtual 34, 3) := by decide +kernel
theorem dX0_positionOf_18 : decode cX0_positionOf 18 = .ok (.isub, 1) := by decide +kernel
theorem dX0_positionOf_19 : decode cX0_positionOf 19 = .ok (.ireturn, 1) := by decide +kernel
theorem dX0_withInserted_0 : decode cX0_withInserted 0 = .ok (.aload_n 0, 1) := by decide +kernel
theorem dX0_withInserted_1 : decode cX0_withInserted 1 = .ok (.iload_n 1, 1) := by decide +kernel
theorem dX0_withInserted_2 : decode cX0_withInserted 2 = .ok (.aload_n 0, 1) := by decide +kernel
theorem dX0_withInserted_3 : decode cX0_withInserted 3 = .ok (.getfield 9, 3) := by decide +kernel
theorem dX0_withInserted_6 : decode cX0_withInserted 6 = .ok (.iload_n 2, 1) := by decide +kernel
theorem dX0_withInserted_7 : decode cX0_withInserted 7 = .ok (.iload_n 2, 1) := by decide +kernel
theorem dX0_withInserted_8 : decode cX0_withInserted 8 = .ok (.aload_n 3, 1) := by decide +kernel
theorem dX0_withInserted_9 : decode cX0_withInserted 9 = .ok (.invokevirtual 45, 3) := by decide +kernel
theorem dX0_withInserted_12 : decode cX0_withInserted 12 = .ok (.invokevirtual 49, 3) := by decide +kernel
theorem dX0_withInserted_15 : decode cX0_withInserted 15 = .ok (.areturn, 1) := by decide +kernel
theorem dX0_withDeleted_0 : decode cX0_withDeleted 0 = .ok (.aload_n 0, 1) := by decide +kernel
theorem dX0_withDeleted_1 : decode cX0_withDeleted 1 = .ok (.iload_n 1, 1) := by decide +kernel
theorem dX0_withDeleted_2 : decode cX0_withDeleted 2 = .ok (.aload_n 0, 1) := by decide +kernel
theorem dX0_withDeleted_3 : decode cX0_withDeleted 3 = .ok (.getfield 9, 3) := by decide +kernel
theorem dX0_withDeleted_6 : decode cX0_withDeleted 6 = .ok (.iload_n 2, 1) := by decide +kernel
theorem dX0_withDeleted_7 : decode cX0_withDeleted 7 = .ok (.iload_n 3, 1) := by decide +kernel
theorem dX0_withDeleted_8 : decode cX0_withDeleted 8 = .ok (.iconst 0, 1) := by decide +kernel
theorem dX0_withDeleted_9 : decode cX0_withDeleted 9 = .ok (.newarray .char, 2) := by decide +kernel
theorem dX0_withDeleted_11 : decode cX0_withDeleted 11 = .ok (.invokevirtual 45, 3) := by decide +kernel
theorem dX0_withDeleted_14 : decode cX0_withDeleted 14 = .ok (.invokevirtual 49, 3) := by decide +kernel
theorem dX0_withDeleted_17 : decode cX0_withDeleted 17 = .ok (.areturn, 1) := by decide +kernel
theorem dX0_withWords_0 : decode cX0_withWords 0 = .ok (.aload_n 2, 1) := by decide +kernel
theorem dX0_withWords_1 : decode cX0_withWords 1 = .ok (.invokevirtual 53, 3) := by decide +kernel
theorem dX0_withWords_4 : decode cX0_withWords 4 = .ok (.aload_n 0, 1) := by decide +kernel
theorem dX0_withWords_5 : decode cX0_withWords 5 = .ok (.getfield 9, 3) := by decide +kernel
theorem dX0_withWords_8 : decode cX0_withWords 8 = .ok (.invokevirtual 53, 3) := by decide +kernel
theorem dX0_withWords_11 : decode cX0_withWords 11 = .ok (.isub, 1) := by decide +kernel
theorem dX0_withWords_12 : decode cX0_withWords 12 = .ok (.istore_n 3, 1) := by decide +kernel
theorem dX0_withWords_13 : decode cX0_withWords 13 = .ok (.aload_n 0, 1) := by decide +kernel
theorem dX0_withWords_14 : decode cX0_withWords 14 = .ok (.getfield 19, 3) := by decide +kernel
theorem dX0_withWords_17 : decode cX0_withWords 17 = .ok (.invokevirtual 56, 3) := by decide +kernel
theorem dX0_withWords_20 : decode cX0_withWords 20 = .ok (.checkcast 57, 3) := by decide +kernel
theorem dX0_withWords_23 : decode cX0_withWords 23 = .ok (.astore 4, 2) := by decide +kernel
theorem dX0_withWords_25 : decode cX0_withWords 25 = .ok (.iload_n 1, 1) := by decide +kernel
theorem dX0_withWords_26 : decode cX0_withWords 26 = .ok (.iconst 1, 1) := by decide +kernel
theorem dX0_withWords_27 : decode cX0_withWords 27 = .ok (.iadd, 1) := by decide +kernel
theorem dX0_withWords_28 : decode cX0_withWords 28 = .ok (.istore 5, 2) := by decide +kernel
theorem dX0_withWords_30 : decode cX0_withWords 30 = .ok (.iload 5, 2) := by decide +kernel
theorem dX0_withWords_32 : decode cX0_withWords 32 = .ok (.aload 4, 2) := by decide +kernel
theorem dX0_withWords_34 : decode cX0_withWords 34 = .ok (.arraylength, 1) := by decide +kernel
theorem dX0_withWords_35 : decode cX0_withWords 35 = .ok (.if_icmp .ge 23, 3) := by decide +kernel
theorem dX0_withWords_38 : decode cX0_withWords 38 = .ok (.iload 5, 2) := by decide +kernel
theorem dX0_withWords_40 : decode cX0_withWords 40 = .ok (.ifCond .le 12, 3) := by decide +kernel
theorem dX0_withWords_43 : decode cX0_withWords 43 = .ok (.aload 4, 2) := by decide +kernel
theorem dX0_withWords_45 : decode cX0_withWords 45 = .ok (.iload 5, 2) := by decide +kernel
theorem dX0_withWords_47 : decode cX0_withWords 47 = .ok (.dup2, 1) := by decide +kernel
theorem dX0_withWords_48 : decode cX0_withWords 48 = .ok (.iaload, 1) := by decide +kernel
theorem dX0_withWords_49 : decode cX0_withWords 49 = .ok (.iload_n 3, 1) := by decide +kernel
theorem dX0_withWords_50 : decode cX0_withWords 50 = .ok (.iadd, 1) := by decide +kernel
theorem dX0_withWords_51 : decode cX0_withWords 51 = .ok (.iastore, 1) := by decide +kernel
theorem dX0_withWords_52 : decode cX0_withWords 52 = .ok (.iinc 5 1, 3) := by decide +kernel
theorem dX0_withWords_55 : decode cX0_withWords 55 = .ok (.goto (-25), 3) := by decide +kernel
theorem dX0_withWords_58 : decode cX0_withWords 58 = .ok (.new 10, 3) := by decide +kernel
theorem dX0_withWords_61 : decode cX0_withWords 61 = .ok (.dup, 1) := by decide +kernel
theorem dX0_withWords_62 : decode cX0_withWords 62 = .ok (.aload_n 2, 1) := by decide +kernel
theorem dX0_withWords_63 : decode cX0_withWords 63 = .ok (.aload_n 0, 1) := by decide +kernel
theorem dX0_withWords_64 : decode cX0_withWords 64 = .ok (.getfield 15, 3) := by decide +kernel
theorem dX0_withWords_67 : decode cX0_withWords 67 = .ok (.aload 4, 2) := by decide +kernel
theorem dX0_withWords_69 : decode cX0_withWords 69 = .ok (.invokespecial 61, 3) := by decide +kernel
theorem dX0_withWords_72 : decode cX0_withWords 72 = .ok (.areturn, 1) := by decide +kernel
theorem dX0_withSplit_0 : decode cX0_withSplit 0 = .ok (.aload_n 0, 1) := by decide +kernel
theorem dX0_withSplit_1 : decode cX0_withSplit 1 = .ok (.getfield 15, 3) := by decide +kernel
theorem dX0_withSplit_4 : decode cX0_withSplit 4 = .ok (.arraylength, 1) := by decide +kernel
theorem dX0_withSplit_5 : decode cX0_withSplit 5 = .ok (.iconst 1, 1) := by decide +kernel
theorem dX0_withSplit_6 : decode cX0_withSplit 6 = .ok (.iadd, 1) := by decide +kernel
theorem dX0_withSplit_7 : decode cX0_withSplit 7 = .ok (.newarray .int, 2) := by decide +kernel
theorem dX0_withSplit_9 : decode cX0_withSplit 9 = .ok (.astore_n 3, 1) := by decide +kernel
theorem dX0_withSplit_10 : decode cX0_withSplit 10 = .ok (.aload_n 0, 1) := by decide +kernel
theorem dX0_withSplit_11 : decode cX0_withSplit 11 = .ok (.getfield 15, 3) := by decide +kernel
theorem dX0_withSplit_14 : decode cX0_withSplit 14 = .ok (.arraylength, 1) := by decide +kernel
theorem dX0_withSplit_15 : decode cX0_withSplit 15 = .ok (.iconst 2, 1) := by decide +kernel
theorem dX0_withSplit_16 : decode cX0_withSplit 16 = .ok (.iadd, 1) := by decide +kernel
theorem dX0_withSplit_17 : decode cX0_withSplit 17 = .ok (.newarray .int, 2) := by decide +kernel
theorem dX0_withSplit_19 : decode cX0_withSplit 19 = .ok (.astore 4, 2) := by decide +kernel
theorem dX0_withSplit_21 : decode cX0_withSplit 21 = .ok (.iconst 0, 1) := by decide +kernel
theorem dX0_withSplit_22 : decode cX0_withSplit 22 = .ok (.istore 5, 2) := by decide +kernel
theorem dX0_withSplit_24 : decode cX0_withSplit 24 = .ok (.iload 5, 2) := by decide +kernel
theorem dX0_withSplit_26 : decode cX0_withSplit 26 = .ok (.aload_n 3, 1) := by decide +kernel
theorem dX0_withSplit_27 : decode cX0_withSplit 27 = .ok (.arraylength, 1) := by decide +kernel
theorem dX0_withSplit_28 : decode cX0_withSplit 28 = .ok (.if_icmp .ge 92, 3) := by decide +kernel
theorem dX0_withSplit_31 : decode cX0_withSplit 31 = .ok (.iload 5, 2) := by decide +kernel
theorem dX0_withSplit_33 : decode cX0_withSplit 33 = .ok (.iload_n 1, 1) := by decide +kernel
theorem dX0_withSplit_34 : decode cX0_withSplit 34 = .ok (.if_icmp .gt 8, 3) := by decide +kernel
theorem dX0_withSplit_37 : decode cX0_withSplit 37 = .ok (.iload 5, 2) := by decide +kernel
theorem dX0_withSplit_39 : decode cX0_withSplit 39 = .ok (.goto 7, 3) := by decide +kernel
theorem dX0_withSplit_42 : decode cX0_withSplit 42 = .ok (.iload 5, 2) := by decide +kernel
theorem dX0_withSplit_44 : decode cX0_withSplit 44 = .ok (.iconst 1, 1) := by decide +kernel
theorem dX0_withSplit_45 : decode cX0_withSplit 45 = .ok (.isub, 1) := by decide +kernel
theorem dX0_withSplit_46 : decode cX0_withSplit 46 = .ok (.istore 6, 2) := by decide +kernel
theorem dX0_withSplit_48 : decode cX0_withSplit 48 = .ok (.aload_n 3, 1) := by decide +kernel
theorem dX0_withSplit_49 : decode cX0_withSplit 49 = .ok (.iload 5, 2) := by decide +kernel
theorem dX0_withSplit_51 : decode cX0_withSplit 51 = .ok (.aload_n 0, 1) := by decide +kernel
theorem dX0_withSplit_52 : decode cX0_withSplit 52 = .ok (.iload 6, 2) := by decide +kernel
theorem dX0_withSplit_54 : decode cX0_withSplit 54 = .ok (.invokevirtual 64, 3) := by decide +kernel
theorem dX0_withSplit_57 : decode cX0_withSplit 57 = .ok (.iastore, 1) := by decide +kernel
theorem dX0_withSplit_58 : decode cX0_withSplit 58 = .ok (.aload 4, 2) := by decide +kernel
theorem dX0_withSplit_60 : decode cX0_withSplit 60 = .ok (.iload 5, 2) := by decide +kernel
theorem dX0_withSplit_62 : decode cX0_withSplit 62 = .ok (.aload_n 0, 1) := by decide +kernel
theorem dX0_withSplit_63 : decode cX0_withSplit 63 = .ok (.iload 6, 2) := by decide +kernel
theorem dX0_withSplit_65 : decode cX0_withSplit 65 = .ok (.invokevirtual 22, 3) := by decide +kernel
theorem dX0_withSplit_68 : decode cX0_withSplit 68 = .ok (.iastore, 1) := by decide +kernel
theorem dX0_withSplit_69 : decode cX0_withSplit 69 = .ok (.iload 5, 2) := by decide +kernel
theorem dX0_withSplit_71 : decode cX0_withSplit 71 = .ok (.iload_n 1, 1) := by decide +kernel
theorem dX0_withSplit_72 : decode cX0_withSplit 72 = .ok (.iconst 1, 1) := by decide +kernel
theorem dX0_withSplit_73 : decode cX0_withSplit 73 = .ok (.iadd, 1) := by decide +kernel
theorem dX0_withSplit_74 : decode cX0_withSplit 74 = .ok (.if_icmp .ne 40, 3) := by decide +kernel
theorem dX0_withSplit_77 : decode cX0_withSplit 77 = .ok (.aload_n 3, 1) := by decide +kernel
theorem dX0_withSplit_78 : decode cX0_withSplit 78 = .ok (.iload 5, 2) := by decide +kernel
theorem dX0_withSplit_80 : decode cX0_withSplit 80 = .ok (.aload_n 0, 1) := by decide +kernel
theorem dX0_withSplit_81 : decode cX0_withSplit 81 = .ok (.iload 6, 2) := by decide +kernel
theorem dX0_withSplit_83 : decode cX0_withSplit 83 = .ok (.invokevirtual 64, 3) := by decide +kernel
theorem dX0_withSplit_86 : decode cX0_withSplit 86 = .ok (.iconst 1, 1) := by decide +kernel
theorem dX0_withSplit_87 : decode cX0_withSplit 87 = .ok (.if_icmp .ne 7, 3) := by decide +kernel
theorem dX0_withSplit_90 : decode cX0_withSplit 90 = .ok (.iconst 0, 1) := by decide +kernel
theorem dX0_withSplit_91 : decode cX0_withSplit 91 = .ok (.goto 9, 3) := by decide +kernel
theorem dX0_withSplit_94 : decode cX0_withSplit 94 = .ok (.aload_n 0, 1) := by decide +kernel
theorem dX0_withSplit_95 : decode cX0_withSplit 95 = .ok (.iload 6, 2) := by decide +kernel
theorem dX0_withSplit_97 : decode cX0_withSplit 97 = .ok (.invokevirtual 64, 3) := by decide +kernel
theorem dX0_withSplit_100 : decode cX0_withSplit 100 = .ok (.iastore, 1) := by decide +kernel
theorem dX0_withSplit_101 : decode cX0_withSplit 101 = .ok (.aload 4, 2) := by decide +kernel
theorem dX0_withSplit_103 : decode cX0_withSplit 103 = .ok (.iload 5, 2) := by decide +kernel
theorem dX0_withSplit_105 : decode cX0_withSplit 105 = .ok (.aload_n 0, 1) := by decide +kernel
theorem dX0_withSplit_106 : decode cX0_withSplit 106 = .ok (.iload 6, 2) := by decide +kernel
theorem dX0_withSplit_108 : decode cX0_withSplit 108 = .ok (.invokevirtual 22, 3) := by decide +kernel
theorem dX0_withSplit_111 : decode cX0_withSplit 111 = .ok (.iload_n 2, 1) := by decide +kernel
theorem dX0_withSplit_112 : decode cX0_withSplit 112 = .ok (.iadd, 1) := by decide +kernel
theorem dX0_withSplit_113 : decode cX0_withSplit 113 = .ok (.iastore, 1) := by decide +kernel
theorem dX0_withSplit_114 : decode cX0_withSplit 114 = .ok (.iinc 5 1, 3) := by decide +kernel
theorem dX0_withSplit_117 : decode cX0_withSplit 117 = .ok (.goto (-93), 3) := by decide +kernel
theorem dX0_withSplit_120 : decode cX0_withSplit 120 = .ok (.aload 4, 2) := by decide +kernel
theorem dX0_withSplit_122 : decode cX0_withSplit 122 = .ok (.aload_n 3, 1) := by decide +kernel
theorem dX0_withSplit_123 : decode cX0_withSplit 123 = .ok (.arraylength, 1) := by decide +kernel
theorem dX0_withSplit_124 : decode cX0_withSplit 124 = .ok (.aload_n 0, 1) := by decide +kernel
theorem dX0_withSplit_125 : decode cX0_withSplit 125 = .ok (.getfield 9, 3) := by decide +kernel
theorem dX0_withSplit_128 : decode cX0_withSplit 128 = .ok (.invokevirtual 53, 3) := by decide +kernel
theorem dX0_withSplit_131 : decode cX0_withSplit 131 = .ok (.iastore, 1) := by decide +kernel
theorem dX0_withSplit_132 : decode cX0_withSplit 132 = .ok (.new 10, 3) := by decide +kernel
theorem dX0_withSplit_135 : decode cX0_withSplit 135 = .ok (.dup, 1) := by decide +kernel
theorem dX0_withSplit_136 : decode cX0_withSplit 136 = .ok (.aload_n 0, 1) := by decide +kernel
theorem dX0_withSplit_137 : decode cX0_withSplit 137 = .ok (.getfield 9, 3) := by decide +kernel
theorem dX0_withSplit_140 : decode cX0_withSplit 140 = .ok (.aload_n 3, 1) := by decide +kernel
theorem dX0_withSplit_141 : decode cX0_withSplit 141 = .ok (.aload 4, 2) := by decide +kernel
theorem dX0_withSplit_143 : decode cX0_withSplit 143 = .ok (.invokespecial 61, 3) := by decide +kernel
theorem dX0_withSplit_146 : decode cX0_withSplit 146 = .ok (.areturn, 1) := by decide +kernel
theorem dX0_withJoined_0 : decode cX0_withJoined 0 = .ok (.aload_n 0, 1) := by decide +kernel
theorem dX0_withJoined_1 : decode cX0_withJoined 1 = .ok (.getfield 15, 3) := by decide +kernel
theorem dX0_withJoined_4 : decode cX0_withJoined 4 = .ok (.arraylength, 1) := by decide +kernel
theorem dX0_withJoined_5 : decode cX0_withJoined 5 = .ok (.iconst 2, 1) := by decide +kernel
theorem dX0_withJoined_6 : decode cX0_withJoined 6 = .ok (.if_icmp .ge 5, 3) := by decide +kernel
theorem dX0_withJoined_9 : decode cX0_withJoined 9 = .ok (.aload_n 0, 1) := by decide +kernel
theorem dX0_withJoined_10 : decode cX0_withJoined 10 = .ok (.areturn, 1) := by decide +kernel
theorem dX0_withJoined_11 : decode cX0_withJoined 11 = .ok (.aload_n 0, 1) := by decide +kernel
theorem dX0_withJoined_12 : decode cX0_withJoined 12 = .ok (.getfield 15, 3) := by decide +kernel
theorem dX0_withJoined_15 : decode cX0_withJoined 15 = .ok (.arraylength, 1) := by decide +kernel
theorem dX0_withJoined_16 : decode cX0_withJoined 16 = .ok (.iconst 1, 1) := by decide +kernel
theorem dX0_withJoined_17 : decode cX0_withJoined 17 = .ok (.isub, 1) := by decide +kernel
theorem dX0_withJoined_18 : decode cX0_withJoined 18 = .ok (.newarray .int, 2) := by decide +kernel
theorem dX0_withJoined_20 : decode cX0_withJoined 20 = .ok (.astore_n 2, 1) := by decide +kernel
theorem dX0_withJoined_21 : decode cX0_withJoined 21 = .ok (.aload_n 0, 1) := by decide +kernel
theorem dX0_withJoined_22 : decode cX0_withJoined 22 = .ok (.getfield 15, 3) := by decide +kernel
theorem dX0_withJoined_25 : decode cX0_withJoined 25 = .ok (.arraylength, 1) := by decide +kernel
theorem dX0_withJoined_26 : decode cX0_withJoined 26 = .ok (.newarray .int, 2) := by decide +kernel
theorem dX0_withJoined_28 : decode cX0_withJoined 28 = .ok (.astore_n 3, 1) := by decide +kernel
theorem dX0_withJoined_29 : decode cX0_withJoined 29 = .ok (.iconst 0, 1) := by decide +kernel
theorem dX0_withJoined_30 : decode cX0_withJoined 30 = .ok (.istore 4, 2) := by decide +kernel
theorem dX0_withJoined_32 : decode cX0_withJoined 32 = .ok (.iload 4, 2) := by decide +kernel
theorem dX0_withJoined_34 : decode cX0_withJoined 34 = .ok (.aload_n 2, 1) := by decide +kernel
theorem dX0_withJoined_35 : decode cX0_withJoined 35 = .ok (.arraylength, 1) := by decide +kernel
theorem dX0_withJoined_36 : decode cX0_withJoined 36 = .ok (.if_icmp .ge 46, 3) := by decide +kernel
theorem dX0_withJoined_39 : decode cX0_withJoined 39 = .ok (.iload 4, 2) := by decide +kernel
theorem dX0_withJoined_41 : decode cX0_withJoined 41 = .ok (.iload_n 1, 1) := by decide +kernel
theorem dX0_withJoined_42 : decode cX0_withJoined 42 = .ok (.if_icmp .gt 8, 3) := by decide +kernel
theorem dX0_withJoined_45 : decode cX0_withJoined 45 = .ok (.iload 4, 2) := by decide +kernel
theorem dX0_withJoined_47 : decode cX0_withJoined 47 = .ok (.goto 7, 3) := by decide +kernel
theorem dX0_withJoined_50 : decode cX0_withJoined 50 = .ok (.iload 4, 2) := by decide +kernel
theorem dX0_withJoined_52 : decode cX0_withJoined 52 = .ok (.iconst 1, 1) := by decide +kernel
theorem dX0_withJoined_53 : decode cX0_withJoined 53 = .ok (.iadd, 1) := by decide +kernel
theorem dX0_withJoined_54 : decode cX0_withJoined 54 = .ok (.istore 5, 2) := by decide +kernel
theorem dX0_withJoined_56 : decode cX0_withJoined 56 = .ok (.aload_n 2, 1) := by decide +kernel
theorem dX0_withJoined_57 : decode cX0_withJoined 57 = .ok (.iload 4, 2) := by decide +kernel
theorem dX0_withJoined_59 : decode cX0_withJoined 59 = .ok (.aload_n 0, 1) := by decide +kernel
theorem dX0_withJoined_60 : decode cX0_withJoined 60 = .ok (.iload 5, 2) := by decide +kernel
theorem dX0_withJoined_62 : decode cX0_withJoined 62 = .ok (.invokevirtual 64, 3) := by decide +kernel
theorem dX0_withJoined_65 : decode cX0_withJoined 65 = .ok (.iastore, 1) := by decide +kernel
theorem dX0_withJoined_66 : decode cX0_withJoined 66 = .ok (.aload_n 3, 1) := by decide +kernel
theorem dX0_withJoined_67 : decode cX0_withJoined 67 = .ok (.iload 4, 2) := by decide +kernel
theorem dX0_withJoined_69 : decode cX0_withJoined 69 = .ok (.aload_n 0, 1) := by decide +kernel
theorem dX0_withJoined_70 : decode cX0_withJoined 70 = .ok (.iload 5, 2) := by decide +kernel
theorem dX0_withJoined_72 : decode cX0_withJoined 72 = .ok (.invokevirtual 22, 3) := by decide +kernel
theorem dX0_withJoined_75 : decode cX0_withJoined 75 = .ok (.iastore, 1) := by decide +kernel
theorem dX0_withJoined_76 : decode cX0_withJoined 76 = .ok (.iinc 4 1, 3) := by decide +kernel
theorem dX0_withJoined_79 : decode cX0_withJoined 79 = .ok (.goto (-47), 3) := by decide +kernel
theorem dX0_withJoined_82 : decode cX0_withJoined 82 = .ok (.aload_n 3, 1) := by decide +kernel
theorem dX0_withJoined_83 : decode cX0_withJoined 83 = .ok (.aload_n 2, 1) := by decide +kernel
theorem dX0_withJoined_84 : decode cX0_withJoined 84 = .ok (.arraylength, 1) := by decide +kernel
theorem dX0_withJoined_85 : decode cX0_withJoined 85 = .ok (.aload_n 0, 1) := by decide +kernel
theorem dX0_withJoined_86 : decode cX0_withJoined 86 = .ok (.getfield 9, 3) := by decide +kernel
theorem dX0_withJoined_89 : decode cX0_withJoined 89 = .ok (.invokevirtual 53, 3) := by decide +kernel
theorem dX0_withJoined_92 : decode cX0_withJoined 92 = .ok (.iastore, 1) := by decide +kernel
theorem dX0_withJoined_93 : decode cX0_withJoined 93 = .ok (.new 10, 3) := by decide +kernel
theorem dX0_withJoined_96 : decode cX0_withJoined 96 = .ok (.dup, 1) := by decide +kernel
theorem dX0_withJoined_97 : decode cX0_withJoined 97 = .ok (.aload_n 0, 1) := by decide +kernel
theorem dX0_withJoined_98 : decode cX0_withJoined 98 = .ok (.getfield 9, 3) := by decide +kernel
theorem dX0_withJoined_101 : decode cX0_withJoined 101 = .ok (.aload_n 2, 1) := by decide +kernel
theorem dX0_withJoined_102 : decode cX0_withJoined 102 = .ok (.aload_n 3, 1) := by decide +kernel
theorem dX0_withJoined_103 : decode cX0_withJoined 103 = .ok (.invokespecial 61, 3) := by decide +kernel
theorem dX0_withJoined_106 : decode cX0_withJoined 106 = .ok (.areturn, 1) := by decide +kernel
theorem dX1_init_0 : decode cX1_init 0 = .ok (.aload_n 0, 1) := by decide +kernel
theorem dX1_init_1 : decode cX1_init 1 = .ok (.invokespecial 3, 3) := by decide +kernel
theorem dX1_init_4 : decode cX1_init 4 = .ok (.aload_n 0, 1) := by decide +kernel
theorem dX1_init_5 : decode cX1_init 5 = .ok (.iconst 4, 1) := by decide +kernel
theorem dX1_init_6 : decode cX1_init 6 = .ok (.anewarray 9, 3) := by decide +kernel
theorem dX1_init_9 : decode cX1_init 9 = .ok (.putfield 11, 3) := by decide +kernel
theorem dX1_init_12 : decode cX1_init 12 = .ok (.aload_n 0, 1) := by decide +kernel
theorem dX1_init_13 : decode cX1_init 13 = .ok (.iconst 4, 1) := by decide +kernel
theorem dX1_init_14 : decode cX1_init 14 = .ok (.anewarray 17, 3) := by decide +kernel
theorem dX1_init_17 : decode cX1_init 17 = .ok (.putfield 19, 3) := by decide +kernel
theorem dX1_init_20 : decode cX1_init 20 = .ok (.iconst 0, 1) := by decide +kernel
theorem dX1_init_21 : decode cX1_init 21 = .ok (.istore_n 1, 1) := by decide +kernel
theorem dX1_init_22 : decode cX1_init 22 = .ok (.iload_n 1, 1) := by decide +kernel
theorem dX1_init_23 : decode cX1_init 23 = .ok (.iconst 4, 1) := by decide +kernel
theorem dX1_init_24 : decode cX1_init 24 = .ok (.if_icmp .ge 22, 3) := by decide +kernel
theorem dX1_init_27 : decode cX1_init 27 = .ok (.aload_n 0, 1) := by decide +kernel
theorem dX1_init_28 : decode cX1_init 28 = .ok (.getfield 19, 3) := by decide +kernel
theorem dX1_init_31 : decode cX1_init 31 = .ok (.iload_n 1, 1) := by decide +kernel
theorem dX1_init_32 : decode cX1_init 32 = .ok (.new 17, 3) := by decide +kernel
theorem dX1_init_35 : decode cX1_init 35 = .ok (.dup, 1) := by decide +kernel
theorem dX1_init_36 : decode cX1_init 36 = .ok (.invokespecial 23, 3) := by decide +kernel
theorem dX1_init_39 : decode cX1_init 39 = .ok (.aastore, 1) := by decide +kernel
theorem dX1_init_40 : decode cX1_init 40 = .ok (.iinc 1 1, 3) := by decide +kernel
theorem dX1_init_43 : decode cX1_init 43 = .ok (.goto (-21), 3) := by decide +kernel
theorem dX1_init_46 : decode cX1_init 46 = .ok (.return_, 1) := by decide +kernel
theorem dX1_edits_0 : decode cX1_edits 0 = .ok (.aload_n 0, 1) := by decide +kernel
theorem dX1_edits_1 : decode cX1_edits 1 = .ok (.getfield 24, 3) := by decide +kernel
theorem dX1_edits_4 : decode cX1_edits 4 = .ok (.ireturn, 1) := by decide +kernel
theorem dX1_forget_0 : decode cX1_forget 0 = .ok (.aload_n 0, 1) := by decide +kernel
theorem dX1_forget_1 : decode cX1_forget 1 = .ok (.iconst 0, 1) := by decide +kernel
theorem dX1_forget_2 : decode cX1_forget 2 = .ok (.putfield 24, 3) := by decide +kernel
theorem dX1_forget_5 : decode cX1_forget 5 = .ok (.return_, 1) := by decide +kernel
theorem dX1_keep_0 : decode cX1_keep 0 = .ok (.aload_n 0, 1) := by decide +kernel
theorem dX1_keep_1 : decode cX1_keep 1 = .ok (.getfield 24, 3) := by decide +kernel
theorem dX1_keep_4 : decode cX1_keep 4 = .ok (.iconst 4, 1) := by decide +kernel
theorem dX1_keep_5 : decode cX1_keep 5 = .ok (.if_icmp .lt 7, 3) := by decide +kernel
theorem dX1_keep_8 : decode cX1_keep 8 = .ok (.aload_n 0, 1) := by decide +kernel
theorem dX1_keep_9 : decode cX1_keep 9 = .ok (.invokevirtual 28, 3) := by decide +kernel
theorem dX1_keep_12 : decode cX1_keep 12 = .ok (.aload_n 0, 1) := by decide +kernel
theorem dX1_keep_13 : decode cX1_keep 13 = .ok (.getfield 24, 3) := by decide +kernel
theorem dX1_keep_16 : decode cX1_keep 16 = .ok (.ifCond .lt 15, 3) := by decide +kernel
theorem dX1_keep_19 : decode cX1_keep 19 = .ok (.aload_n 0, 1) := by decide +kernel
theorem dX1_keep_20 : decode cX1_keep 20 = .ok (.getfield 19, 3) := by decide +kernel
theorem dX1_keep_23 : decode cX1_keep 23 = .ok (.aload_n 0, 1) := by decide +kernel
theorem dX1_keep_24 : decode cX1_keep 24 = .ok (.getfield 24, 3) := by decide +kernel
theorem dX1_keep_27 : decode cX1_keep 27 = .ok (.aaload, 1) := by decide +kernel
theorem dX1_keep_28 : decode cX1_keep 28 = .ok (.goto 4, 3) := by decide +kernel
theorem dX1_keep_31 : decode cX1_keep 31 = .ok (.aconst_null, 1) := by decide +kernel
theorem dX1_keep_32 : decode cX1_keep 32 = .ok (.astore_n 3, 1) := by decide +kernel
theorem dX1_keep_33 : decode cX1_keep 33 = .ok (.aload_n 3, 1) := by decide +kernel
theorem dX1_keep_34 : decode cX1_keep 34 = .ok (.ifnull 28, 3) := by decide +kernel
theorem dX1_keep_37 : decode cX1_keep 37 = .ok (.aload_n 3, 1) := by decide +kernel
theorem dX1_keep_38 : decode cX1_keep 38 = .ok (.aload_n 2, 1) := by decide +kernel
theorem dX1_keep_39 : decode cX1_keep 39 = .ok (.invokevirtual 31, 3) := by decide +kernel
theorem dX1_keep_42 : decode cX1_keep 42 = .ok (.aload_n 0, 1) := by decide +kernel
theorem dX1_keep_43 : decode cX1_keep 43 = .ok (.getfield 11, 3) := by decide +kernel
theorem dX1_keep_46 : decode cX1_keep 46 = .ok (.aload_n 0, 1) := by decide +kernel
theorem dX1_keep_47 : decode cX1_keep 47 = .ok (.getfield 24, 3) := by decide +kernel
theorem dX1_keep_50 : decode cX1_keep 50 = .ok (.aload_n 1, 1) := by decide +kernel
theorem dX1_keep_51 : decode cX1_keep 51 = .ok (.aastore, 1) := by decide +kernel
theorem dX1_keep_52 : decode cX1_keep 52 = .ok (.aload_n 0, 1) := by decide +kernel
theorem dX1_keep_53 : decode cX1_keep 53 = .ok (.dup, 1) := by decide +kernel
theorem dX1_keep_54 : decode cX1_keep 54 = .ok (.getfield 24, 3) := by decide +kernel
theorem dX1_keep_57 : decode cX1_keep 57 = .ok (.iconst 1, 1) := by decide +kernel
theorem dX1_keep_58 : decode cX1_keep 58 = .ok (.iadd, 1) := by decide +kernel
theorem dX1_keep_59 : decode cX1_keep 59 = .ok (.putfield 24, 3) := by decide +kernel
theorem dX1_keep_62 : decode cX1_keep 62 = .ok (.return_, 1) := by decide +kernel
theorem dX1_forgetOldest_0 : decode cX1_forgetOldest 0 = .ok (.aload_n 0, 1) := by decide +kernel
theorem dX1_forgetOldest_1 : decode cX1_forgetOldest 1 = .ok (.getfield 19, 3) := by decide +kernel
theorem dX1_forgetOldest_4 : decode cX1_forgetOldest 4 = .ok (.iconst 0, 1) := by decide +kernel
theorem dX1_forgetOldest_5 : decode cX1_forgetOldest 5 = .ok (.aaload, 1) := by decide +kernel
theorem dX1_forgetOldest_6 : decode cX1_forgetOldest 6 = .ok (.astore_n 1, 1) := by decide +kernel
theorem dX1_forgetOldest_7 : decode cX1_forgetOldest 7 = .ok (.iconst 1, 1) := by decide +kernel
theorem dX1_forgetOldest_8 : decode cX1_forgetOldest 8 = .ok (.istore_n 2, 1) := by decide +kernel
theorem dX1_forgetOldest_9 : decode cX1_forgetOldest 9 = .ok (.iload_n 2, 1) := by decide +kernel
theorem dX1_forgetOldest_10 : decode cX1_forgetOldest 10 = .ok (.iconst 4, 1) := by decide +kernel
theorem dX1_forgetOldest_11 : decode cX1_forgetOldest 11 = .ok (.if_icmp .ge 37, 3) := by decide +kernel
theorem dX1_forgetOldest_14 : decode cX1_forgetOldest 14 = .ok (.aload_n 0, 1) := by decide +kernel
theorem dX1_forgetOldest_15 : decode cX1_forgetOldest 15 = .ok (.getfield 11, 3) := by decide +kernel
theorem dX1_forgetOldest_18 : decode cX1_forgetOldest 18 = .ok (.iload_n 2, 1) := by decide +kernel
theorem dX1_forgetOldest_19 : decode cX1_forgetOldest 19 = .ok (.iconst 1, 1) := by decide +kernel
theorem dX1_forgetOldest_20 : decode cX1_forgetOldest 20 = .ok (.isub, 1) := by decide +kernel
theorem dX1_forgetOldest_21 : decode cX1_forgetOldest 21 = .ok (.aload_n 0, 1) := by decide +kernel
theorem dX1_forgetOldest_22 : decode cX1_forgetOldest 22 = .ok (.getfield 11, 3) := by decide +kernel
theorem dX1_forgetOldest_25 : decode cX1_forgetOldest 25 = .ok (.iload_n 2, 1) := by decide +kernel
theorem dX1_forgetOldest_26 : decode cX1_forgetOldest 26 = .ok (.aaload, 1) := by decide +kernel
theorem dX1_forgetOldest_27 : decode cX1_forgetOldest 27 = .ok (.aastore, 1) := by decide +kernel
theorem dX1_forgetOldest_28 : decode cX1_forgetOldest 28 = .ok (.aload_n 0, 1) := by decide +kernel
theorem dX1_forgetOldest_29 : decode cX1_forgetOldest 29 = .ok (.getfield 19, 3) := by decide +kernel
theorem dX1_forgetOldest_32 : decode cX1_forgetOldest 32 = .ok (.iload_n 2, 1) := by decide +kernel
theorem dX1_forgetOldest_33 : decode cX1_forgetOldest 33 = .ok (.iconst 1, 1) := by decide +kernel
theorem dX1_forgetOldest_34 : decode cX1_forgetOldest 34 = .ok (.isub, 1) := by decide +kernel
theorem dX1_forgetOldest_35 : decode cX1_forgetOldest 35 = .ok (.aload_n 0, 1) := by decide +kernel
theorem dX1_forgetOldest_36 : decode cX1_forgetOldest 36 = .ok (.getfield 19, 3) := by decide +kernel
theorem dX1_forgetOldest_39 : decode cX1_forgetOldest 39 = .ok (.iload_n 2, 1) := by decide +kernel
theorem dX1_forgetOldest_40 : decode cX1_forgetOldest 40 = .ok (.aaload, 1) := by decide +kernel
theorem dX1_forgetOldest_41 : decode cX1_forgetOldest 41 = .ok (.aastore, 1) := by decide +kernel
theorem dX1_forgetOldest_42 : decode cX1_forgetOldest 42 = .ok (.iinc 2 1, 3) := by decide +kernel
theorem dX1_forgetOldest_45 : decode cX1_forgetOldest 45 = .ok (.goto (-36), 3) := by decide +kernel
theorem dX1_forgetOldest_48 : decode cX1_forgetOldest 48 = .ok (.aload_n 0, 1) := by decide +kernel
theorem dX1_forgetOldest_49 : decode cX1_forgetOldest 49 = .ok (.getfield 19, 3) := by decide +kernel
theorem dX1_forgetOldest_52 : decode cX1_forgetOldest 52 = .ok (.iconst 3, 1) := by decide +kernel
theorem dX1_forgetOldest_53 : decode cX1_forgetOldest 53 = .ok (.aload_n 1, 1) := by decide +kernel
theorem dX1_forgetOldest_54 : decode cX1_forgetOldest 54 = .ok (.aastore, 1) := by decide +kernel
theorem dX1_forgetOldest_55 : decode cX1_forgetOldest 55 = .ok (.aload_n 0, 1) := by decide +kernel
theorem dX1_forgetOldest_56 : decode cX1_forgetOldest 56 = .ok (.iconst 3, 1) := by decide +kernel
theorem dX1_forgetOldest_57 : decode cX1_forgetOldest 57 = .ok (.putfield 24, 3) := by decide +kernel
theorem dX1_forgetOldest_60 : decode cX1_forgetOldest 60 = .ok (.return_, 1) := by decide +kernel
theorem dX1_latestBook_0 : decode cX1_latestBook 0 = .ok (.aload_n 0, 1) := by decide +kernel
theorem dX1_latestBook_1 : decode cX1_latestBook 1 = .ok (.getfield 24, 3) := by decide +kernel
theorem dX1_latestBook_4 : decode cX1_latestBook 4 = .ok (.ifCond .le 25, 3) := by decide +kernel
theorem dX1_latestBook_7 : decode cX1_latestBook 7 = .ok (.aload_n 0, 1) := by decide +kernel
theorem dX1_latestBook_8 : decode cX1_latestBook 8 = .ok (.getfield 24, 3) := by decide +kernel
theorem dX1_latestBook_11 : decode cX1_latestBook 11 = .ok (.iconst 4, 1) := by decide +kernel
theorem dX1_latestBook_12 : decode cX1_latestBook 12 = .ok (.if_icmp .gt 17, 3) := by decide +kernel
theorem dX1_latestBook_15 : decode cX1_latestBook 15 = .ok (.aload_n 0, 1) := by decide +kernel
theorem dX1_latestBook_16 : decode cX1_latestBook 16 = .ok (.getfield 11, 3) := by decide +kernel
theorem dX1_latestBook_19 : decode cX1_latestBook 19 = .ok (.aload_n 0, 1) := by decide +kernel
theorem dX1_latestBook_20 : decode cX1_latestBook 20 = .ok (.getfield 24, 3) := by decide +kernel
theorem dX1_latestBook_23 : decode cX1_latestBook 23 = .ok (.iconst 1, 1) := by decide +kernel
theorem dX1_latestBook_24 : decode cX1_latestBook 24 = .ok (.isub, 1) := by decide +kernel
theorem dX1_latestBook_25 : decode cX1_latestBook 25 = .ok (.aaload, 1) := by decide +kernel
theorem dX1_latestBook_26 : decode cX1_latestBook 26 = .ok (.goto 4, 3) := by decide +kernel
theorem dX1_latestBook_29 : decode cX1_latestBook 29 = .ok (.aconst_null, 1) := by decide +kernel
theorem dX1_latestBook_30 : decode cX1_latestBook 30 = .ok (.areturn, 1) := by decide +kernel
theorem dX1_bringBack_0 : decode cX1_bringBack 0 = .ok (.aload_n 0, 1) := by decide +kernel
theorem dX1_bringBack_1 : decode cX1_bringBack 1 = .ok (.getfield 24, 3) := by decide +kernel
theorem dX1_bringBack_4 : decode cX1_bringBack 4 = .ok (.ifCond .le 25, 3) := by decide +kernel
theorem dX1_bringBack_7 : decode cX1_bringBack 7 = .ok (.aload_n 0, 1) := by decide +kernel
theorem dX1_bringBack_8 : decode cX1_bringBack 8 = .ok (.getfield 24, 3) := by decide +kernel
theorem dX1_bringBack_11 : decode cX1_bringBack 11 = .ok (.iconst 4, 1) := by decide +kernel
theorem dX1_bringBack_12 : decode cX1_bringBack 12 = .ok (.if_icmp .gt 17, 3) := by decide +kernel
theorem dX1_bringBack_15 : decode cX1_bringBack 15 = .ok (.aload_n 0, 1) := by decide +kernel
theorem dX1_bringBack_16 : decode cX1_bringBack 16 = .ok (.getfield 19, 3) := by decide +kernel
theorem dX1_bringBack_19 : decode cX1_bringBack 19 = .ok (.aload_n 0, 1) := by decide +kernel
theorem dX1_bringBack_20 : decode cX1_bringBack 20 = .ok (.getfield 24, 3) := by decide +kernel
theorem dX1_bringBack_23 : decode cX1_bringBack 23 = .ok (.iconst 1, 1) := by decide +kernel
theorem dX1_bringBack_24 : decode cX1_bringBack 24 = .ok (.isub, 1) := by decide +kernel
theorem dX1_bringBack_25 : decode cX1_bringBack 25 = .ok (.aaload, 1) := by decide +kernel
theorem dX1_bringBack_26 : decode cX1_bringBack 26 = .ok (.goto 4, 3) := by decide +kernel
theorem dX1_bringBack_29 : decode cX1_bringBack 29 = .ok (.aconst_null, 1) := by decide +kernel
theorem dX1_bringBack_30 : decode cX1_bringBack 30 = .ok (.astore_n 2, 1) := by decide +kernel
theorem dX1_bringBack_31 : decode cX1_bringBack 31 = .ok (.aload_n 2, 1) := by decide +kernel
theorem dX1_bringBack_32 : decode cX1_bringBack 32 = .ok (.ifnull 18, 3) := by decide +kernel
theorem dX1_bringBack_35 : decode cX1_bringBack 35 = .ok (.aload_n 1, 1) := by decide +kernel
theorem dX1_bringBack_36 : decode cX1_bringBack 36 = .ok (.aload_n 2, 1) := by decide +kernel
theorem dX1_bringBack_37 : decode cX1_bringBack 37 = .ok (.invokevirtual 31, 3) := by decide +kernel
theorem dX1_bringBack_40 : decode cX1_bringBack 40 = .ok (.aload_n 0, 1) := by decide +kernel
theorem dX1_bringBack_41 : decode cX1_bringBack 41 = .ok (.dup, 1) := by decide +kernel
theorem dX1_bringBack_42 : decode cX1_bringBack 42 = .ok (.getfield 24, 3) := by decide +kernel
theorem dX1_bringBack_45 : decode cX1_bringBack 45 = .ok (.iconst 1, 1) := by decide +kernel
theorem dX1_bringBack_46 : decode cX1_bringBack 46 = .ok (.isub, 1) := by decide +kernel
theorem dX1_bringBack_47 : decode cX1_bringBack 47 = .ok (.putfield 24, 3) := by decide +kernel
theorem dX1_bringBack_50 : decode cX1_bringBack 50 = .ok (.return_, 1) := by decide +kernel
theorem dX2_init_0 : decode cX2_init 0 = .ok (.aload_n 0, 1) := by decide +kernel
theorem dX2_init_1 : decode cX2_init 1 = .ok (.invokespecial 3, 3) := by decide +kernel
theorem dX2_init_4 : decode cX2_init 4 = .ok (.aload_n 0, 1) := by decide +kernel
theorem dX2_init_5 : decode cX2_init 5 = .ok (.bipush 100, 2) := by decide +kernel
theorem dX2_init_7 : decode cX2_init 7 = .ok (.newarray .char, 2) := by decide +kernel
theorem dX2_init_9 : decode cX2_init 9 = .ok (.putfield 9, 3) := by decide +kernel
theorem dX2_init_12 : decode cX2_init 12 = .ok (.aload_n 0, 1) := by decide +kernel
theorem dX2_init_13 : decode cX2_init 13 = .ok (.new 15, 3) := by decide +kernel
theorem dX2_init_16 : decode cX2_init 16 = .ok (.dup, 1) := by decide +kernel
theorem dX2_init_17 : decode cX2_init 17 = .ok (.invokespecial 17, 3) := by decide +kernel
theorem dX2_init_20 : decode cX2_init 20 = .ok (.putfield 18, 3) := by decide +kernel
theorem dX2_init_23 : decode cX2_init 23 = .ok (.return_, 1) := by decide +kernel
theorem dX2_length_0 : decode cX2_length 0 = .ok (.aload_n 0, 1) := by decide +kernel
theorem dX2_length_1 : decode cX2_length 1 = .ok (.getfield 22, 3) := by decide +kernel
theorem dX2_length_4 : decode cX2_length 4 = .ok (.ireturn, 1) := by decide +kernel
theorem dX2_isFull_0 : decode cX2_isFull 0 = .ok (.aload_n 0, 1) := by decide +kernel
theorem dX2_isFull_1 : decode cX2_isFull 1 = .ok (.getfield 22, 3) := by decide +kernel
theorem dX2_isFull_4 : decode cX2_isFull 4 = .ok (.aload_n 0, 1) := by decide +kernel
theorem dX2_isFull_5 : decode cX2_isFull 5 = .ok (.getfield 9, 3) := by decide +kernel
theorem dX2_isFull_8 : decode cX2_isFull 8 = .ok (.arraylength, 1) := by decide +kernel
theorem dX2_isFull_9 : decode cX2_isFull 9 = .ok (.if_icmp .lt 7, 3) := by decide +kernel
theorem dX2_isFull_12 : decode cX2_isFull 12 = .ok (.iconst 1, 1) := by decide +kernel
theorem dX2_isFull_13 : decode cX2_isFull 13 = .ok (.goto 4, 3) := by decide +kernel
theorem dX2_isFull_16 : decode cX2_isFull 16 = .ok (.iconst 0, 1) := by decide +kernel
theorem dX2_isFull_17 : decode cX2_isFull 17 = .ok (.ireturn, 1) := by decide +kernel
theorem dX2_put_0 : decode cX2_put 0 = .ok (.aload_n 0, 1) := by decide +kernel
theorem dX2_put_1 : decode cX2_put 1 = .ok (.getfield 22, 3) := by decide +kernel
theorem dX2_put_4 : decode cX2_put 4 = .ok (.aload_n 0, 1) := by decide +kernel
theorem dX2_put_5 : decode cX2_put 5 = .ok (.getfield 9, 3) := by decide +kernel
theorem dX2_put_8 : decode cX2_put 8 = .ok (.arraylength, 1) := by decide +kernel
theorem dX2_put_9 : decode cX2_put 9 = .ok (.if_icmp .ge 23, 3) := by decide +kernel
theorem dX2_put_12 : decode cX2_put 12 = .ok (.aload_n 0, 1) := by decide +kernel
theorem dX2_put_13 : decode cX2_put 13 = .ok (.getfield 9, 3) := by decide +kernel
theorem dX2_put_16 : decode cX2_put 16 = .ok (.aload_n 0, 1) := by decide +kernel
theorem dX2_put_17 : decode cX2_put 17 = .ok (.getfield 22, 3) := by decide +kernel
theorem dX2_put_20 : decode cX2_put 20 = .ok (.iload_n 1, 1) := by decide +kernel
theorem dX2_put_21 : decode cX2_put 21 = .ok (.castore, 1) := by decide +kernel
theorem dX2_put_22 : decode cX2_put 22 = .ok (.aload_n 0, 1) := by decide +kernel
theorem dX2_put_23 : decode cX2_put 23 = .ok (.dup, 1) := by decide +kernel
theorem dX2_put_24 : decode cX2_put 24 = .ok (.getfield 22, 3) := by decide +kernel
theorem dX2_put_27 : decode cX2_put 27 = .ok (.iconst 1, 1) := by decide +kernel
theorem dX2_put_28 : decode cX2_put 28 = .ok (.iadd, 1) := by decide +kernel
theorem dX2_put_29 : decode cX2_put 29 = .ok (.putfield 22, 3) := by decide +kernel
theorem dX2_put_32 : decode cX2_put 32 = .ok (.return_, 1) := by decide +kernel
theorem dX2_empty_0 : decode cX2_empty 0 = .ok (.aload_n 0, 1) := by decide +kernel
theorem dX2_empty_1 : decode cX2_empty 1 = .ok (.iconst 0, 1) := by decide +kernel
theorem dX2_empty_2 : decode cX2_empty 2 = .ok (.putfield 22, 3) := by decide +kernel
theorem dX2_empty_5 : decode cX2_empty 5 = .ok (.return_, 1) := by decide +kernel
theorem dX2_signAt_0 : decode cX2_signAt 0 = .ok (.iload_n 1, 1) := by decide +kernel
theorem dX2_signAt_1 : decode cX2_signAt 1 = .ok (.ifCond .lt 20, 3) := by decide +kernel
theorem dX2_signAt_4 : decode cX2_signAt 4 = .ok (.iload_n 1, 1) := by decide +kernel
theorem dX2_signAt_5 : decode cX2_signAt 5 = .ok (.aload_n 0, 1) := by decide +kernel
theorem dX2_signAt_6 : decode cX2_signAt 6 = .ok (.getfield 22, 3) := by decide +kernel
theorem dX2_signAt_9 : decode cX2_signAt 9 = .ok (.if_icmp .ge 12, 3) := by decide +kernel
theorem dX2_signAt_12 : decode cX2_signAt 12 = .ok (.aload_n 0, 1) := by decide +kernel
theorem dX2_signAt_13 : decode cX2_signAt 13 = .ok (.getfield 9, 3) := by decide +kernel
theorem dX2_signAt_16 : decode cX2_signAt 16 = .ok (.iload_n 1, 1) := by decide +kernel
theorem dX2_signAt_17 : decode cX2_signAt 17 = .ok (.caload, 1) := by decide +kernel
theorem dX2_signAt_18 : decode cX2_signAt 18 = .ok (.goto 5, 3) := by decide +kernel
theorem dX2_signAt_21 : decode cX2_signAt 21 = .ok (.bipush 32, 2) := by decide +kernel
theorem dX2_signAt_23 : decode cX2_signAt 23 = .ok (.ireturn, 1) := by decide +kernel
theorem dX2_firstFault_0 : decode cX2_firstFault 0 = .ok (.aload_n 0, 1) := by decide +kernel
theorem dX2_firstFault_1 : decode cX2_firstFault 1 = .ok (.getfield 18, 3) := by decide +kernel
theorem dX2_firstFault_4 : decode cX2_firstFault 4 = .ok (.iload_n 1, 1) := by decide +kernel
theorem dX2_firstFault_5 : decode cX2_firstFault 5 = .ok (.invokevirtual 26, 3) := by decide +kernel
theorem dX2_firstFault_8 : decode cX2_firstFault 8 = .ok (.iconst 0, 1) := by decide +kernel
theorem dX2_firstFault_9 : decode cX2_firstFault 9 = .ok (.istore_n 2, 1) := by decide +kernel
theorem dX2_firstFault_10 : decode cX2_firstFault 10 = .ok (.iload_n 2, 1) := by decide +kernel
theorem dX2_firstFault_11 : decode cX2_firstFault 11 = .ok (.aload_n 0, 1) := by decide +kernel
theorem dX2_firstFault_12 : decode cX2_firstFault 12 = .ok (.getfield 22, 3) := by decide +kernel
theorem dX2_firstFault_15 : decode cX2_firstFault 15 = .ok (.if_icmp .ge 26, 3) := by decide +kernel
theorem dX2_firstFault_18 : decode cX2_firstFault 18 = .ok (.aload_n 0, 1) := by decide +kernel
theorem dX2_firstFault_19 : decode cX2_firstFault 19 = .ok (.getfield 18, 3) := by decide +kernel
theorem dX2_firstFault_22 : decode cX2_firstFault 22 = .ok (.aload_n 0, 1) := by decide +kernel
theorem dX2_firstFault_23 : decode cX2_firstFault 23 = .ok (.iload_n 2, 1) := by decide +kernel
theorem dX2_firstFault_24 : decode cX2_firstFault 24 = .ok (.invokevirtual 30, 3) := by decide +kernel
theorem dX2_firstFault_27 : decode cX2_firstFault 27 = .ok (.invokevirtual 34, 3) := by decide +kernel
theorem dX2_firstFault_30 : decode cX2_firstFault 30 = .ok (.ifCond .ne 5, 3) := by decide +kernel
theorem dX2_firstFault_33 : decode cX2_firstFault 33 = .ok (.iload_n 2, 1) := by decide +kernel
theorem dX2_firstFault_34 : decode cX2_firstFault 34 = .ok (.ireturn, 1) := by decide +kernel
theorem dX2_firstFault_35 : decode cX2_firstFault 35 = .ok (.iinc 2 1, 3) := by decide +kernel
theorem dX2_firstFault_38 : decode cX2_firstFault 38 = .ok (.goto (-28), 3) := by decide +kernel
theorem dX2_firstFault_41 : decode cX2_firstFault 41 = .ok (.aload_n 0, 1) := by decide +kernel
theorem dX2_firstFault_42 : decode cX2_firstFault 42 = .ok (.getfield 22, 3) := by decide +kernel
theorem dX2_firstFault_45 : decode cX2_firstFault 45 = .ok (.ireturn, 1) := by decide +kernel
theorem dX2_isWhole_0 : decode cX2_isWhole 0 = .ok (.aload_n 0, 1) := by decide +kernel
theorem dX2_isWhole_1 : decode cX2_isWhole 1 = .ok (.iload_n 1, 1) := by decide +kernel
theorem dX2_isWhole_2 : decode cX2_isWhole 2 = .ok (.invokevirtual 38, 3) := by decide +kernel
theorem dX2_isWhole_5 : decode cX2_isWhole 5 = .ok (.aload_n 0, 1) := by decide +kernel
theorem dX2_isWhole_6 : decode cX2_isWhole 6 = .ok (.getfield 22, 3) := by decide +kernel
theorem dX2_isWhole_9 : decode cX2_isWhole 9 = .ok (.if_icmp .ne 17, 3) := by decide +kernel
theorem dX2_isWhole_12 : decode cX2_isWhole 12 = .ok (.aload_n 0, 1) := by decide +kernel
theorem dX2_isWhole_13 : decode cX2_isWhole 13 = .ok (.getfield 18, 3) := by decide +kernel
theorem dX2_isWhole_16 : decode cX2_isWhole 16 = .ok (.invokevirtual 42, 3) := by decide +kernel
theorem dX2_isWhole_19 : decode cX2_isWhole 19 = .ok (.ifCond .eq 7, 3) := by decide +kernel
theorem dX2_isWhole_22 : decode cX2_isWhole 22 = .ok (.iconst 1, 1) := by decide +kernel
theorem dX2_isWhole_23 : decode cX2_isWhole 23 = .ok (.goto 4, 3) := by decide +kernel
theorem dX2_isWhole_26 : decode cX2_isWhole 26 = .ok (.iconst 0, 1) := by decide +kernel
theorem dX2_isWhole_27 : decode cX2_isWhole 27 = .ok (.ireturn, 1) := by decide +kernel
theorem dX2_wordsOfList_0 : decode cX2_wordsOfList 0 = .ok (.aload_n 0, 1) := by decide +kernel
theorem dX2_wordsOfList_1 : decode cX2_wordsOfList 1 = .ok (.bipush 32, 2) := by decide +kernel
theorem dX2_wordsOfList_3 : decode cX2_wordsOfList 3 = .ok (.invokevirtual 46, 3) := by decide +kernel
theorem dX2_wordsOfList_6 : decode cX2_wordsOfList 6 = .ok (.iconst 1, 1) := by decide +kernel
theorem dX2_wordsOfList_7 : decode cX2_wordsOfList 7 = .ok (.iadd, 1) := by decide +kernel
theorem dX2_wordsOfList_8 : decode cX2_wordsOfList 8 = .ok (.ireturn, 1) := by decide +kernel
theorem dX2_timesOf_0 : decode cX2_timesOf 0 = .ok (.iconst 0, 1) := by decide +kernel
theorem dX2_timesOf_1 : decode cX2_timesOf 1 = .ok (.istore_n 2, 1) := by decide +kernel
theorem dX2_timesOf_2 : decode cX2_timesOf 2 = .ok (.iconst 0, 1) := by decide +kernel
theorem dX2_timesOf_3 : decode cX2_timesOf 3 = .ok (.istore_n 3, 1) := by decide +kernel
theorem dX2_timesOf_4 : decode cX2_timesOf 4 = .ok (.iload_n 3, 1) := by decide +kernel
theorem dX2_timesOf_5 : decode cX2_timesOf 5 = .ok (.aload_n 0, 1) := by decide +kernel
theorem dX2_timesOf_6 : decode cX2_timesOf 6 = .ok (.getfield 22, 3) := by decide +kernel
theorem dX2_timesOf_9 : decode cX2_timesOf 9 = .ok (.if_icmp .ge 26, 3) := by decide +kernel
theorem dX2_timesOf_12 : decode cX2_timesOf 12 = .ok (.iload_n 2, 1) := by decide +kernel
theorem dX2_timesOf_13 : decode cX2_timesOf 13 = .ok (.aload_n 0, 1) := by decide +kernel
theorem dX2_timesOf_14 : decode cX2_timesOf 14 = .ok (.iload_n 3, 1) := by decide +kernel
theorem dX2_timesOf_15 : decode cX2_timesOf 15 = .ok (.invokevirtual 30, 3) := by decide +kernel
theorem dX2_timesOf_18 : decode cX2_timesOf 18 = .ok (.iload_n 1, 1) := by decide +kernel
theorem dX2_timesOf_19 : decode cX2_timesOf 19 = .ok (.if_icmp .ne 7, 3) := by decide +kernel
theorem dX2_timesOf_22 : decode cX2_timesOf 22 = .ok (.iconst 1, 1) := by decide +kernel
theorem dX2_timesOf_23 : decode cX2_timesOf 23 = .ok (.goto 4, 3) := by decide +kernel
theorem dX2_timesOf_26 : decode cX2_timesOf 26 = .ok (.iconst 0, 1) := by decide +kernel
theorem dX2_timesOf_27 : decode cX2_timesOf 27 = .ok (.iadd, 1) := by decide +kernel
theorem dX2_timesOf_28 : decode cX2_timesOf 28 = .ok (.istore_n 2, 1) := by decide +kernel
theorem dX2_timesOf_29 : decode cX2_timesOf 29 = .ok (.iinc 3 1, 3) := by decide +kernel
theorem dX2_timesOf_32 : decode cX2_timesOf 32 = .ok (.goto (-28), 3) := by decide +kernel
theorem dX2_timesOf_35 : decode cX2_timesOf 35 = .ok (.iload_n 2, 1) := by decide +kernel
theorem dX2_timesOf_36 : decode cX2_timesOf 36 = .ok (.ireturn, 1) := by decide +kernel
theorem dX2_beginsWith_0 : decode cX2_beginsWith 0 = .ok (.aload_n 1, 1) := by decide +kernel
theorem dX2_beginsWith_1 : decode cX2_beginsWith 1 = .ok (.iload_n 2, 1) := by decide +kernel
theorem dX2_beginsWith_2 : decode cX2_beginsWith 2 = .ok (.invokevirtual 50, 3) := by decide +kernel
theorem dX2_beginsWith_5 : decode cX2_beginsWith 5 = .ok (.istore_n 3, 1) := by decide +kernel
theorem dX2_beginsWith_6 : decode cX2_beginsWith 6 = .ok (.aload_n 1, 1) := by decide +kernel
theorem dX2_beginsWith_7 : decode cX2_beginsWith 7 = .ok (.iload_n 2, 1) := by decide +kernel
theorem dX2_beginsWith_8 : decode cX2_beginsWith 8 = .ok (.invokevirtual 56, 3) := by decide +kernel
theorem dX2_beginsWith_11 : decode cX2_beginsWith 11 = .ok (.iload_n 3, 1) := by decide +kernel
theorem dX2_beginsWith_12 : decode cX2_beginsWith 12 = .ok (.isub, 1) := by decide +kernel
theorem dX2_beginsWith_13 : decode cX2_beginsWith 13 = .ok (.istore 4, 2) := by decide +kernel
theorem dX2_beginsWith_15 : decode cX2_beginsWith 15 = .ok (.iload 4, 2) := by decide +kernel
theorem dX2_beginsWith_17 : decode cX2_beginsWith 17 = .ok (.aload_n 0, 1) := by decide +kernel
theorem dX2_beginsWith_18 : decode cX2_beginsWith 18 = .ok (.getfield 22, 3) := by decide +kernel
theorem dX2_beginsWith_21 : decode cX2_beginsWith 21 = .ok (.if_icmp .le 5, 3) := by decide +kernel
theorem dX2_beginsWith_24 : decode cX2_beginsWith 24 = .ok (.iconst 0, 1) := by decide +kernel
theorem dX2_beginsWith_25 : decode cX2_beginsWith 25 = .ok (.ireturn, 1) := by decide +kernel
theorem dX2_beginsWith_26 : decode cX2_beginsWith 26 = .ok (.iconst 0, 1) := by decide +kernel
theorem dX2_beginsWith_27 : decode cX2_beginsWith 27 = .ok (.istore 5, 2) := by decide +kernel
theorem dX2_beginsWith_29 : decode cX2_beginsWith 29 = .ok (.iload 5, 2) := by decide +kernel
theorem dX2_beginsWith_31 : decode cX2_beginsWith 31 = .ok (.iload 4, 2) := by decide +kernel
theorem dX2_beginsWith_33 : decode cX2_beginsWith 33 = .ok (.if_icmp .ge 28, 3) := by decide +kernel
theorem dX2_beginsWith_36 : decode cX2_beginsWith 36 = .ok (.aload_n 1, 1) := by decide +kernel
theorem dX2_beginsWith_37 : decode cX2_beginsWith 37 = .ok (.iload_n 3, 1) := by decide +kernel
theorem dX2_beginsWith_38 : decode cX2_beginsWith 38 = .ok (.iload 5, 2) := by decide +kernel
theorem dX2_beginsWith_40 : decode cX2_beginsWith 40 = .ok (.iadd, 1) := by decide +kernel
theorem dX2_beginsWith_41 : decode cX2_beginsWith 41 = .ok (.invokevirtual 59, 3) := by decide +kernel
theorem dX2_beginsWith_44 : decode cX2_beginsWith 44 = .ok (.aload_n 0, 1) := by decide +kernel
theorem dX2_beginsWith_45 : decode cX2_beginsWith 45 = .ok (.iload 5, 2) := by decide +kernel
theorem dX2_beginsWith_47 : decode cX2_beginsWith 47 = .ok (.invokevirtual 30, 3) := by decide +kernel
theorem dX2_beginsWith_50 : decode cX2_beginsWith 50 = .ok (.if_icmp .eq 5, 3) := by decide +kernel
theorem dX2_beginsWith_53 : decode cX2_beginsWith 53 = .ok (.iconst 0, 1) := by decide +kernel
theorem dX2_beginsWith_54 : decode cX2_beginsWith 54 = .ok (.ireturn, 1) := by decide +kernel
theorem dX2_beginsWith_55 : decode cX2_beginsWith 55 = .ok (.iinc 5 1, 3) := by decide +kernel
theorem dX2_beginsWith_58 : decode cX2_beginsWith 58 = .ok (.goto (-29), 3) := by decide +kernel
theorem dX2_beginsWith_61 : decode cX2_beginsWith 61 = .ok (.aload_n 0, 1) := by decide +kernel
theorem dX2_beginsWith_62 : decode cX2_beginsWith 62 = .ok (.iload 4, 2) := by decide +kernel
theorem dX2_beginsWith_64 : decode cX2_beginsWith 64 = .ok (.invokevirtual 30, 3) := by decide +kernel
theorem dX2_beginsWith_67 : decode cX2_beginsWith 67 = .ok (.bipush 32, 2) := by decide +kernel
theorem dX2_beginsWith_69 : decode cX2_beginsWith 69 = .ok (.if_icmp .ne 7, 3) := by decide +kernel
theorem dX2_beginsWith_72 : decode cX2_beginsWith 72 = .ok (.iconst 1, 1) := by decide +kernel
theorem dX2_beginsWith_73 : decode cX2_beginsWith 73 = .ok (.goto 4, 3) := by decide +kernel
theorem dX2_beginsWith_76 : decode cX2_beginsWith 76 = .ok (.iconst 0, 1) := by decide +kernel
theorem dX2_beginsWith_77 : decode cX2_beginsWith 77 = .ok (.ireturn, 1) := by decide +kernel
theorem dX2_padded_0 : decode cX2_padded 0 = .ok (.iload_n 1, 1) := by decide +kernel
theorem dX2_padded_1 : decode cX2_padded 1 = .ok (.aload_n 0, 1) := by decide +kernel
theorem dX2_padded_2 : decode cX2_padded 2 = .ok (.getfield 22, 3) := by decide +kernel
theorem dX2_padded_5 : decode cX2_padded 5 = .ok (.iadd, 1) := by decide +kernel
theorem dX2_padded_6 : decode cX2_padded 6 = .ok (.iload_n 2, 1) := by decide +kernel
theorem dX2_padded_7 : decode cX2_padded 7 = .ok (.iadd, 1) := by decide +kernel
theorem dX2_padded_8 : decode cX2_padded 8 = .ok (.newarray .char, 2) := by decide +kernel
theorem dX2_padded_10 : decode cX2_padded 10 = .ok (.astore_n 3, 1) := by decide +kernel
theorem dX2_padded_11 : decode cX2_padded 11 = .ok (.iconst 0, 1) := by decide +kernel
theorem dX2_padded_12 : decode cX2_padded 12 = .ok (.istore 4, 2) := by decide +kernel
theorem dX2_padded_14 : decode cX2_padded 14 = .ok (.iload 4, 2) := by decide +kernel
theorem dX2_padded_16 : decode cX2_padded 16 = .ok (.aload_n 3, 1) := by decide +kernel
theorem dX2_padded_17 : decode cX2_padded 17 = .ok (.arraylength, 1) := by decide +kernel
theorem dX2_padded_18 : decode cX2_padded 18 = .ok (.if_icmp .ge 21, 3) := by decide +kernel
theorem dX2_padded_21 : decode cX2_padded 21 = .ok (.aload_n 3, 1) := by decide +kernel
theorem dX2_padded_22 : decode cX2_padded 22 = .ok (.iload 4, 2) := by decide +kernel
theorem dX2_padded_24 : decode cX2_padded 24 = .ok (.aload_n 0, 1) := by decide +kernel
theorem dX2_padded_25 : decode cX2_padded 25 = .ok (.iload 4, 2) := by decide +kernel
theorem dX2_padded_27 : decode cX2_padded 27 = .ok (.iload_n 1, 1) := by decide +kernel
theorem dX2_padded_28 : decode cX2_padded 28 = .ok (.isub, 1) := by decide +kernel
theorem dX2_padded_29 : decode cX2_padded 29 = .ok (.invokevirtual 30, 3) := by decide +kernel
theorem dX2_padded_32 : decode cX2_padded 32 = .ok (.castore, 1) := by decide +kernel
theorem dX2_padded_33 : decode cX2_padded 33 = .ok (.iinc 4 1, 3) := by decide +kernel
theorem dX2_padded_36 : decode cX2_padded 36 = .ok (.goto (-22), 3) := by decide +kernel
theorem dX2_padded_39 : decode cX2_padded 39 = .ok (.aload_n 3, 1) := by decide +kernel
theorem dX2_padded_40 : decode cX2_padded 40 = .ok (.areturn, 1) := by decide +kernel
theorem dX2_toNote_0 : decode cX2_toNote 0 = .ok (.aload_n 0, 1) := by decide +kernel
theorem dX2_toNote_1 : decode cX2_toNote 1 = .ok (.iconst 2, 1) := by decide +kernel
theorem dX2_toNote_2 : decode cX2_toNote 2 = .ok (.iconst 0, 1) := by decide +kernel
theorem dX2_toNote_3 : decode cX2_toNote 3 = .ok (.invokevirtual 61, 3) := by decide +kernel
theorem dX2_toNote_6 : decode cX2_toNote 6 = .ok (.astore_n 2, 1) := by decide +kernel
theorem dX2_toNote_7 : decode cX2_toNote 7 = .ok (.aload_n 2, 1) := by decide +kernel
theorem dX2_toNote_8 : decode cX2_toNote 8 = .ok (.iconst 0, 1) := by decide +kernel
theorem dX2_toNote_9 : decode cX2_toNote 9 = .ok (.bipush 48, 2) := by decide +kernel
theorem dX2_toNote_11 : decode cX2_toNote 11 = .ok (.iload_n 1, 1) := by decide +kernel
theorem dX2_toNote_12 : decode cX2_toNote 12 = .ok (.iadd, 1) := by decide +kernel
theorem dX2_toNote_13 : decode cX2_toNote 13 = .ok (.i2c, 1) := by decide +kernel
theorem dX2_toNote_14 : decode cX2_toNote 14 = .ok (.castore, 1) := by decide +kernel
theorem dX2_toNote_15 : decode cX2_toNote 15 = .ok (.new 51, 3) := by decide +kernel
theorem dX2_toNote_18 : decode cX2_toNote 18 = .ok (.dup, 1) := by decide +kernel
theorem dX2_toNote_19 : decode cX2_toNote 19 = .ok (.aload_n 2, 1) := by decide +kernel
theorem dX2_toNote_20 : decode cX2_toNote 20 = .ok (.invokespecial 65, 3) := by decide +kernel
theorem dX2_toNote_23 : decode cX2_toNote 23 = .ok (.areturn, 1) := by decide +kernel
theorem dX2_toBook_0 : decode cX2_toBook 0 = .ok (.aload_n 0, 1) := by decide +kernel
theorem dX2_toBook_1 : decode cX2_toBook 1 = .ok (.bipush 124, 2) := by decide +kernel
theorem dX2_toBook_3 : decode cX2_toBook 3 = .ok (.invokevirtual 46, 3) := by decide +kernel
theorem dX2_toBook_6 : decode cX2_toBook 6 = .ok (.iconst 1, 1) := by decide +kernel
theorem dX2_toBook_7 : decode cX2_toBook 7 = .ok (.iadd, 1) := by decide +kernel
theorem dX2_toBook_8 : decode cX2_toBook 8 = .ok (.newarray .int, 2) := by decide +kernel
theorem dX2_toBook_10 : decode cX2_toBook 10 = .ok (.astore_n 1, 1) := by decide +kernel
theorem dX2_toBook_11 : decode cX2_toBook 11 = .ok (.aload_n 1, 1) := by decide +kernel
theorem dX2_toBook_12 : decode cX2_toBook 12 = .ok (.arraylength, 1) := by decide +kernel
theorem dX2_toBook_13 : decode cX2_toBook 13 = .ok (.iconst 1, 1) := by decide +kernel
theorem dX2_toBook_14 : decode cX2_toBook 14 = .ok (.iadd, 1) := by decide +kernel
theorem dX2_toBook_15 : decode cX2_toBook 15 = .ok (.newarray .int, 2) := by decide +kernel
theorem dX2_toBook_17 : decode cX2_toBook 17 = .ok (.astore_n 2, 1) := by decide +kernel
theorem dX2_toBook_18 : decode cX2_toBook 18 = .ok (.aload_n 0, 1) := by decide +kernel
theorem dX2_toBook_19 : decode cX2_toBook 19 = .ok (.getfield 22, 3) := by decide +kernel
theorem dX2_toBook_22 : decode cX2_toBook 22 = .ok (.aload_n 0, 1) := by decide +kernel
theorem dX2_toBook_23 : decode cX2_toBook 23 = .ok (.bipush 35, 2) := by decide +kernel
theorem dX2_toBook_25 : decode cX2_toBook 25 = .ok (.invokevirtual 46, 3) := by decide +kernel
theorem dX2_toBook_28 : decode cX2_toBook 28 = .ok (.isub, 1) := by decide +kernel
theorem dX2_toBook_29 : decode cX2_toBook 29 = .ok (.aload_n 0, 1) := by decide +kernel
theorem dX2_toBook_30 : decode cX2_toBook 30 = .ok (.bipush 62, 2) := by decide +kernel
theorem dX2_toBook_32 : decode cX2_toBook 32 = .ok (.invokevirtual 46, 3) := by decide +kernel
theorem dX2_toBook_35 : decode cX2_toBook 35 = .ok (.isub, 1) := by decide +kernel
theorem dX2_toBook_36 : decode cX2_toBook 36 = .ok (.newarray .char, 2) := by decide +kernel
theorem dX2_toBook_38 : decode cX2_toBook 38 = .ok (.astore_n 3, 1) := by decide +kernel
theorem dX2_toBook_39 : decode cX2_toBook 39 = .ok (.iconst 0, 1) := by decide +kernel
theorem dX2_toBook_40 : decode cX2_toBook 40 = .ok (.istore 4, 2) := by decide +kernel
theorem dX2_toBook_42 : decode cX2_toBook 42 = .ok (.iconst 0, 1) := by decide +kernel
theorem dX2_toBook_43 : decode cX2_toBook 43 = .ok (.istore 5, 2) := by decide +kernel
theorem dX2_toBook_45 : decode cX2_toBook 45 = .ok (.iconst 0, 1) := by decide +kernel
theorem dX2_toBook_46 : decode cX2_toBook 46 = .ok (.istore 6, 2) := by decide +kernel
theorem dX2_toBook_48 : decode cX2_toBook 48 = .ok (.iconst 0, 1) := by decide +kernel
theorem dX2_toBook_49 : decode cX2_toBook 49 = .ok (.istore 7, 2) := by decide +kernel
theorem dX2_toBook_51 : decode cX2_toBook 51 = .ok (.iload 7, 2) := by decide +kernel
theorem dX2_toBook_53 : decode cX2_toBook 53 = .ok (.aload_n 0, 1) := by decide +kernel
theorem dX2_toBook_54 : decode cX2_toBook 54 = .ok (.getfield 22, 3) := by decide +kernel
theorem dX2_toBook_57 : decode cX2_toBook 57 = .ok (.if_icmp .ge 120, 3) := by decide +kernel
theorem dX2_toBook_60 : decode cX2_toBook 60 = .ok (.iload 4, 2) := by decide +kernel
theorem dX2_toBook_62 : decode cX2_toBook 62 = .ok (.aload_n 1, 1) := by decide +kernel
theorem dX2_toBook_63 : decode cX2_toBook 63 = .ok (.arraylength, 1) := by decide +kernel
theorem dX2_toBook_64 : decode cX2_toBook 64 = .ok (.if_icmp .ge 113, 3) := by decide +kernel
theorem dX2_toBook_67 : decode cX2_toBook 67 = .ok (.aload_n 0, 1) := by decide +kernel
theorem dX2_toBook_68 : decode cX2_toBook 68 = .ok (.iload 7, 2) := by decide +kernel
theorem dX2_toBook_70 : decode cX2_toBook 70 = .ok (.invokevirtual 30, 3) := by decide +kernel
theorem dX2_toBook_73 : decode cX2_toBook 73 = .ok (.istore 8, 2) := by decide +kernel
theorem dX2_toBook_75 : decode cX2_toBook 75 = .ok (.iload 8, 2) := by decide +kernel
theorem dX2_toBook_77 : decode cX2_toBook 77 = .ok (.bipush 35, 2) := by decide +kernel
theorem dX2_toBook_79 : decode cX2_toBook 79 = .ok (.if_icmp .eq 10, 3) := by decide +kernel
theorem dX2_toBook_82 : decode cX2_toBook 82 = .ok (.iload 8, 2) := by decide +kernel
theorem dX2_toBook_84 : decode cX2_toBook 84 = .ok (.bipush 62, 2) := by decide +kernel
theorem dX2_toBook_86 : decode cX2_toBook 86 = .ok (.if_icmp .ne 22, 3) := by decide +kernel
theorem dX2_toBook_89 : decode cX2_toBook 89 = .ok (.aload_n 1, 1) := by decide +kernel
theorem dX2_toBook_90 : decode cX2_toBook 90 = .ok (.iload 4, 2) := by decide +kernel
theorem dX2_toBook_92 : decode cX2_toBook 92 = .ok (.iload 8, 2) := by decide +kernel
theorem dX2_toBook_94 : decode cX2_toBook 94 = .ok (.bipush 35, 2) := by decide +kernel
theorem dX2_toBook_96 : decode cX2_toBook 96 = .ok (.if_icmp .ne 7, 3) := by decide +kernel
theorem dX2_toBook_99 : decode cX2_toBook 99 = .ok (.iconst 1, 1) := by decide +kernel
theorem dX2_toBook_100 : decode cX2_toBook 100 = .ok (.goto 4, 3) := by decide +kernel
theorem dX2_toBook_103 : decode cX2_toBook 103 = .ok (.iconst 2, 1) := by decide +kernel
theorem dX2_toBook_104 : decode cX2_toBook 104 = .ok (.iastore, 1) := by decide +kernel
theorem dX2_toBook_105 : decode cX2_toBook 105 = .ok (.goto 50, 3) := by decide +kernel
theorem dX2_toBook_108 : decode cX2_toBook 108 = .ok (.iload 6, 2) := by decide +kernel
theorem dX2_toBook_110 : decode cX2_toBook 110 = .ok (.aload_n 3, 1) := by decide +kernel
theorem dX2_toBook_111 : decode cX2_toBook 111 = .ok (.arraylength, 1) := by decide +kernel
theorem dX2_toBook_112 : decode cX2_toBook 112 = .ok (.if_icmp .ge 43, 3) := by decide +kernel
theorem dX2_toBook_115 : decode cX2_toBook 115 = .ok (.aload_n 3, 1) := by decide +kernel
theorem dX2_toBook_116 : decode cX2_toBook 116 = .ok (.iload 6, 2) := by decide +kernel
theorem dX2_toBook_118 : decode cX2_toBook 118 = .ok (.iload 8, 2) := by decide +kernel
theorem dX2_toBook_120 : decode cX2_toBook 120 = .ok (.bipush 124, 2) := by decide +kernel
theorem dX2_toBook_122 : decode cX2_toBook 122 = .ok (.if_icmp .ne 8, 3) := by decide +kernel
theorem dX2_toBook_125 : decode cX2_toBook 125 = .ok (.bipush 32, 2) := by decide +kernel
theorem dX2_toBook_127 : decode cX2_toBook 127 = .ok (.goto 5, 3) := by decide +kernel
theorem dX2_toBook_130 : decode cX2_toBook 130 = .ok (.iload 8, 2) := by decide +kernel
theorem dX2_toBook_132 : decode cX2_toBook 132 = .ok (.castore, 1) := by decide +kernel
theorem dX2_toBook_133 : decode cX2_toBook 133 = .ok (.iload 5, 2) := by decide +kernel
theorem dX2_toBook_135 : decode cX2_toBook 135 = .ok (.aload_n 3, 1) := by decide +kernel
theorem dX2_toBook_136 : decode cX2_toBook 136 = .ok (.iload 6, 2) := by decide +kernel
theorem dX2_toBook_138 : decode cX2_toBook 138 = .ok (.caload, 1) := by decide +kernel
theorem dX2_toBook_139 : decode cX2_toBook 139 = .ok (.bipush 32, 2) := by decide +kernel
theorem dX2_toBook_141 : decode cX2_toBook 141 = .ok (.if_icmp .ne 7, 3) := by decide +kernel
theorem dX2_toBook_144 : decode cX2_toBook 144 = .ok (.iconst 1, 1) := by decide +kernel
theorem dX2_toBook_145 : decode cX2_toBook 145 = .ok (.goto 4, 3) := by decide +kernel
theorem dX2_toBook_148 : decode cX2_toBook 148 = .ok (.iconst 0, 1) := by decide +kernel
theorem dX2_toBook_149 : decode cX2_toBook 149 = .ok (.iadd, 1) := by decide +kernel
theorem dX2_toBook_150 : decode cX2_toBook 150 = .ok (.istore 5, 2) := by decide +kernel
theorem dX2_toBook_152 : decode cX2_toBook 152 = .ok (.iinc 6 1, 3) := by decide +kernel
theorem dX2_toBook_155 : decode cX2_toBook 155 = .ok (.iload 8, 2) := by decide +kernel
theorem dX2_toBook_157 : decode cX2_toBook 157 = .ok (.bipush 124, 2) := by decide +kernel
theorem dX2_toBook_159 : decode cX2_toBook 159 = .ok (.if_icmp .ne 12, 3) := by decide +kernel
theorem dX2_toBook_162 : decode cX2_toBook 162 = .ok (.iinc 4 1, 3) := by decide +kernel
theorem dX2_toBook_165 : decode cX2_toBook 165 = .ok (.aload_n 2, 1) := by decide +kernel
theorem dX2_toBook_166 : decode cX2_toBook 166 = .ok (.iload 4, 2) := by decide +kernel
theorem dX2_toBook_168 : decode cX2_toBook 168 = .ok (.iload 5, 2) := by decide +kernel
theorem dX2_toBook_170 : decode cX2_toBook 170 = .ok (.iastore, 1) := by decide +kernel
theorem dX2_toBook_171 : decode cX2_toBook 171 = .ok (.iinc 7 1, 3) := by decide +kernel
theorem dX2_toBook_174 : decode cX2_toBook 174 = .ok (.goto (-123), 3) := by decide +kernel
theorem dX2_toBook_177 : decode cX2_toBook 177 = .ok (.aload_n 2, 1) := by decide +kernel
theorem dX2_toBook_178 : decode cX2_toBook 178 = .ok (.aload_n 1, 1) := by decide +kernel
theorem dX2_toBook_179 : decode cX2_toBook 179 = .ok (.arraylength, 1) := by decide +kernel
theorem dX2_toBook_180 : decode cX2_toBook 180 = .ok (.iload 5, 2) := by decide +kernel
theorem dX2_toBook_182 : decode cX2_toBook 182 = .ok (.iconst 1, 1) := by decide +kernel
theorem dX2_toBook_183 : decode cX2_toBook 183 = .ok (.iadd, 1) := by decide +kernel
theorem dX2_toBook_184 : decode cX2_toBook 184 = .ok (.iastore, 1) := by decide +kernel
theorem dX2_toBook_185 : decode cX2_toBook 185 = .ok (.new 68, 3) := by decide +kernel
theorem dX2_toBook_188 : decode cX2_toBook 188 = .ok (.dup, 1) := by decide +kernel
theorem dX2_toBook_189 : decode cX2_toBook 189 = .ok (.new 51, 3) := by decide +kernel
theorem dX2_toBook_192 : decode cX2_toBook 192 = .ok (.dup, 1) := by decide +kernel
theorem dX2_toBook_193 : decode cX2_toBook 193 = .ok (.aload_n 3, 1) := by decide +kernel
theorem dX2_toBook_194 : decode cX2_toBook 194 = .ok (.invokespecial 65, 3) := by decide +kernel
theorem dX2_toBook_197 : decode cX2_toBook 197 = .ok (.aload_n 1, 1) := by decide +kernel
theorem dX2_toBook_198 : decode cX2_toBook 198 = .ok (.aload_n 2, 1) := by decide +kernel
theorem dX2_toBook_199 : decode cX2_toBook 199 = .ok (.invokespecial 70, 3) := by decide +kernel
theorem dX2_toBook_202 : decode cX2_toBook 202 = .ok (.areturn, 1) := by decide +kernel
theorem dX3_init_0 : decode cX3_init 0 = .ok (.aload_n 0, 1) := by decide +kernel
theorem dX3_init_1 : decode cX3_init 1 = .ok (.invokespecial 3, 3) := by decide +kernel
theorem dX3_init_4 : decode cX3_init 4 = .ok (.aload_n 0, 1) := by decide +kernel
theorem dX3_init_5 : decode cX3_init 5 = .ok (.bipush 10, 2) := by decide +kernel
theorem dX3_init_7 : decode cX3_init 7 = .ok (.newarray .int, 2) := by decide +kernel
theorem dX3_init_9 : decode cX3_init 9 = .ok (.putfield 9, 3) := by decide +kernel
theorem dX3_init_12 : decode cX3_init 12 = .ok (.aload_n 0, 1) := by decide +kernel
theorem dX3_init_13 : decode cX3_init 13 = .ok (.sipush 241, 3) := by decide +kernel
theorem dX3_init_16 : decode cX3_init 16 = .ok (.newarray .int, 2) := by decide +kernel
theorem dX3_init_18 : decode cX3_init 18 = .ok (.putfield 15, 3) := by decide +kernel
theorem dX3_init_21 : decode cX3_init 21 = .ok (.aload_n 0, 1) := by decide +kernel
theorem dX3_init_22 : decode cX3_init 22 = .ok (.sipush 240, 3) := by decide +kernel
theorem dX3_init_25 : decode cX3_init 25 = .ok (.newarray .int, 2) := by decide +kernel
theorem dX3_init_27 : decode cX3_init 27 = .ok (.putfield 18, 3) := by decide +kernel
theorem dX3_init_30 : decode cX3_init 30 = .ok (.aload_n 0, 1) := by decide +kernel
theorem dX3_init_31 : decode cX3_init 31 = .ok (.sipush 240, 3) := by decide +kernel
theorem dX3_init_34 : decode cX3_init 34 = .ok (.newarray .int, 2) := by decide +kernel
theorem dX3_init_36 : decode cX3_init 36 = .ok (.putfield 21, 3) := by decide +kernel
theorem dX3_init_39 : decode cX3_init 39 = .ok (.aload_n 0, 1) := by decide +kernel
theorem dX3_init_40 : decode cX3_init 40 = .ok (.sipush 240, 3) := by decide +kernel
theorem dX3_init_43 : decode cX3_init 43 = .ok (.newarray .int, 2) := by decide +kernel
theorem dX3_init_45 : decode cX3_init 45 = .ok (.putfield 24, 3) := by decide +kernel
theorem dX3_init_48 : decode cX3_init 48 = .ok (.aload_n 0, 1) := by decide +kernel
theorem dX3_init_49 : decode cX3_init 49 = .ok (.sipush 240, 3) := by decide +kernel
theorem dX3_init_52 : decode cX3_init 52 = .ok (.newarray .boolean, 2) := by decide +kernel
theorem dX3_init_54 : decode cX3_init 54 = .ok (.putfield 27, 3) := by decide +kernel
theorem dX3_init_57 : decode cX3_init 57 = .ok (.aload_n 0, 1) := by decide +kernel
theorem dX3_init_58 : decode cX3_init 58 = .ok (.sipush 240, 3) := by decide +kernel
theorem dX3_init_61 : decode cX3_init 61 = .ok (.newarray .int, 2) := by decide +kernel
theorem dX3_init_63 : decode cX3_init 63 = .ok (.putfield 31, 3) := by decide +kernel
theorem dX3_init_66 : decode cX3_init 66 = .ok (.aload_n 0, 1) := by decide +kernel
theorem dX3_init_67 : decode cX3_init 67 = .ok (.sipush 240, 3) := by decide +kernel
theorem dX3_init_70 : decode cX3_init 70 = .ok (.newarray .int, 2) := by decide +kernel
theorem dX3_init_72 : decode cX3_init 72 = .ok (.putfield 34, 3) := by decide +kernel
theorem dX3_init_75 : decode cX3_init 75 = .ok (.aload_n 0, 1) := by decide +kernel
theorem dX3_init_76 : decode cX3_init 76 = .ok (.sipush 241, 3) := by decide +kernel
theorem dX3_init_79 : decode cX3_init 79 = .ok (.newarray .int, 2) := by decide +kernel
theorem dX3_init_81 : decode cX3_init 81 = .ok (.putfield 37, 3) := by decide +kernel
theorem dX3_init_84 : decode cX3_init 84 = .ok (.aload_n 0, 1) := by decide +kernel
theorem dX3_init_85 : decode cX3_init 85 = .ok (.aload_n 1, 1) := by decide +kernel
theorem dX3_init_86 : decode cX3_init 86 = .ok (.putfield 40, 3) := by decide +kernel
theorem dX3_init_89 : decode cX3_init 89 = .ok (.aload_n 0, 1) := by decide +kernel
theorem dX3_init_90 : decode cX3_init 90 = .ok (.aload_n 2, 1) := by decide +kernel
theorem dX3_init_91 : decode cX3_init 91 = .ok (.putfield 44, 3) := by decide +kernel
theorem dX3_init_94 : decode cX3_init 94 = .ok (.aload_n 0, 1) := by decide +kernel
theorem dX3_init_95 : decode cX3_init 95 = .ok (.aload_n 3, 1) := by decide +kernel
theorem dX3_init_96 : decode cX3_init 96 = .ok (.putfield 48, 3) := by decide +kernel
theorem dX3_init_99 : decode cX3_init 99 = .ok (.return_, 1) := by decide +kernel
theorem dX3_lay_0 : decode cX3_lay 0 = .ok (.aload_n 0, 1) := by decide +kernel
theorem dX3_lay_1 : decode cX3_lay 1 = .ok (.aload_n 1, 1) := by decide +kernel
theorem dX3_lay_2 : decode cX3_lay 2 = .ok (.putfield 40, 3) := by decide +kernel
theorem dX3_lay_5 : decode cX3_lay 5 = .ok (.aload_n 0, 1) := by decide +kernel
theorem dX3_lay_6 : decode cX3_lay 6 = .ok (.iload_n 2, 1) := by decide +kernel
theorem dX3_lay_7 : decode cX3_lay 7 = .ok (.putfield 51, 3) := by decide +kernel
theorem dX3_lay_10 : decode cX3_lay 10 = .ok (.aload_n 0, 1) := by decide +kernel
theorem dX3_lay_11 : decode cX3_lay 11 = .ok (.iload_n 3, 1) := by decide +kernel
theorem dX3_lay_12 : decode cX3_lay 12 = .ok (.putfield 55, 3) := by decide +kernel
theorem dX3_lay_15 : decode cX3_lay 15 = .ok (.aload_n 0, 1) := by decide +kernel
theorem dX3_lay_16 : decode cX3_lay 16 = .ok (.invokevirtual 58, 3) := by decide +kernel
theorem dX3_lay_19 : decode cX3_lay 19 = .ok (.aload_n 0, 1) := by decide +kernel
theorem dX3_lay_20 : decode cX3_lay 20 = .ok (.invokevirtual 61, 3) := by decide +kernel
theorem dX3_lay_23 : decode cX3_lay 23 = .ok (.aload_n 0, 1) := by decide +kernel
theorem dX3_lay_24 : decode cX3_lay 24 = .ok (.invokevirtual 64, 3) := by decide +kernel
theorem dX3_lay_27 : decode cX3_lay 27 = .ok (.aload_n 0, 1) := by decide +kernel
theorem dX3_lay_28 : decode cX3_lay 28 = .ok (.invokevirtual 67, 3) := by decide +kernel
theorem dX3_lay_31 : decode cX3_lay 31 = .ok (.return_, 1) := by decide +kernel
theorem dX3_measureNotes_0 : decode cX3_measureNotes 0 = .ok (.iconst 0, 1) := by decide +kernel
theorem dX3_measureNotes_1 : decode cX3_measureNotes 1 = .ok (.istore_n 1, 1) := by decide +kernel
theorem dX3_measureNotes_2 : decode cX3_measureNotes 2 = .ok (.iload_n 1, 1) := by decide +kernel
theorem dX3_measureNotes_3 : decode cX3_measureNotes 3 = .ok (.bipush 10, 2) := by decide +kernel
theorem dX3_measureNotes_5 : decode cX3_measureNotes 5 = .ok (.if_icmp .ge 37, 3) := by decide +kernel
theorem dX3_measureNotes_8 : decode cX3_measureNotes 8 = .ok (.aload_n 0, 1) := by decide +kernel
theorem dX3_measureNotes_9 : decode cX3_measureNotes 9 = .ok (.iload_n 1, 1) := by decide +kernel
theorem dX3_measureNotes_10 : decode cX3_measureNotes 10 = .ok (.invokevirtual 70, 3) := by decide +kernel
theorem dX3_measureNotes_13 : decode cX3_measureNotes 13 = .ok (.astore_n 2, 1) := by decide +kernel
theorem dX3_measureNotes_14 : decode cX3_measureNotes 14 = .ok (.aload_n 0, 1) := by decide +kernel
theorem dX3_measureNotes_15 : decode cX3_measureNotes 15 = .ok (.getfield 9, 3) := by decide +kernel
theorem dX3_measureNotes_18 : decode cX3_measureNotes 18 = .ok (.iload_n 1, 1) := by decide +kernel
theorem dX3_measureNotes_19 : decode cX3_measureNotes 19 = .ok (.aload_n 2, 1) := by decide +kernel
theorem dX3_measureNotes_20 : decode cX3_measureNotes 20 = .ok (.ifnonnull 7, 3) := by decide +kernel
theorem dX3_measureNotes_23 : decode cX3_measureNotes 23 = .ok (.iconst 0, 1) := by decide +kernel
theorem dX3_measureNotes_24 : decode cX3_measureNotes 24 = .ok (.goto 11, 3) := by decide +kernel
theorem dX3_measureNotes_27 : decode cX3_measureNotes 27 = .ok (.aload_n 2, 1) := by decide +kernel
theorem dX3_measureNotes_28 : decode cX3_measureNotes 28 = .ok (.aload_n 0, 1) := by decide +kernel
theorem dX3_measureNotes_29 : decode cX3_measureNotes 29 = .ok (.getfield 51, 3) := by decide +kernel
theorem dX3_measureNotes_32 : decode cX3_measureNotes 32 = .ok (.invokevirtual 74, 3) := by decide +kernel
theorem dX3_measureNotes_35 : decode cX3_measureNotes 35 = .ok (.iastore, 1) := by decide +kernel
theorem dX3_measureNotes_36 : decode cX3_measureNotes 36 = .ok (.iinc 1 1, 3) := by decide +kernel
theorem dX3_measureNotes_39 : decode cX3_measureNotes 39 = .ok (.goto (-37), 3) := by decide +kernel
theorem dX3_measureNotes_42 : decode cX3_measureNotes 42 = .ok (.return_, 1) := by decide +kernel
theorem dX3_breakLines_0 : decode cX3_breakLines 0 = .ok (.aload_n 0, 1) := by decide +kernel
theorem dX3_breakLines_1 : decode cX3_breakLines 1 = .ok (.getfield 40, 3) := by decide +kernel
theorem dX3_breakLines_4 : decode cX3_breakLines 4 = .ok (.invokevirtual 80, 3) := by decide +kernel
theorem dX3_breakLines_7 : decode cX3_breakLines 7 = .ok (.astore_n 1, 1) := by decide +kernel
theorem dX3_breakLines_8 : decode cX3_breakLines 8 = .ok (.aload_n 0, 1) := by decide +kernel
theorem dX3_breakLines_9 : decode cX3_breakLines 9 = .ok (.iconst 0, 1) := by decide +kernel
theorem dX3_breakLines_10 : decode cX3_breakLines 10 = .ok (.putfield 86, 3) := by decide +kernel
theorem dX3_breakLines_13 : decode cX3_breakLines 13 = .ok (.iconst 0, 1) := by decide +kernel
theorem dX3_breakLines_14 : decode cX3_breakLines 14 = .ok (.istore_n 2, 1) := by decide +kernel
theorem dX3_breakLines_15 : decode cX3_breakLines 15 = .ok (.iload_n 2, 1) := by decide +kernel
theorem dX3_breakLines_16 : decode cX3_breakLines 16 = .ok (.aload_n 0, 1) := by decide +kernel
theorem dX3_breakLines_17 : decode cX3_breakLines 17 = .ok (.getfield 40, 3) := by decide +kernel
theorem dX3_breakLines_20 : decode cX3_breakLines 20 = .ok (.invokevirtual 89, 3) := by decide +kernel
theorem dX3_breakLines_23 : decode cX3_breakLines 23 = .ok (.if_icmp .ge 139, 3) := by decide +kernel
theorem dX3_breakLines_26 : decode cX3_breakLines 26 = .ok (.aload_n 0, 1) := by decide +kernel
theorem dX3_breakLines_27 : decode cX3_breakLines 27 = .ok (.getfield 40, 3) := by decide +kernel
theorem dX3_breakLines_30 : decode cX3_breakLines 30 = .ok (.iload_n 2, 1) := by decide +kernel
theorem dX3_breakLines_31 : decode cX3_breakLines 31 = .ok (.invokevirtual 93, 3) := by decide +kernel
theorem dX3_breakLines_34 : decode cX3_breakLines 34 = .ok (.istore_n 3, 1) := by decide +kernel
theorem dX3_breakLines_35 : decode cX3_breakLines 35 = .ok (.aload_n 0, 1) := by decide +kernel
theorem dX3_breakLines_36 : decode cX3_breakLines 36 = .ok (.getfield 40, 3) := by decide +kernel
theorem dX3_breakLines_39 : decode cX3_breakLines 39 = .ok (.iload_n 2, 1) := by decide +kernel
theorem dX3_breakLines_40 : decode cX3_breakLines 40 = .ok (.iconst 1, 1) := by decide +kernel
theorem dX3_breakLines_41 : decode cX3_breakLines 41 = .ok (.iadd, 1) := by decide +kernel
theorem dX3_breakLines_42 : decode cX3_breakLines 42 = .ok (.invokevirtual 93, 3) := by decide +kernel
theorem dX3_breakLines_45 : decode cX3_breakLines 45 = .ok (.istore 4, 2) := by decide +kernel
theorem dX3_breakLines_47 : decode cX3_breakLines 47 = .ok (.aload_n 0, 1) := by decide +kernel
theorem dX3_breakLines_48 : decode cX3_breakLines 48 = .ok (.iload_n 2, 1) := by decide +kernel
theorem dX3_breakLines_49 : decode cX3_breakLines 49 = .ok (.invokevirtual 96, 3) := by decide +kernel
theorem dX3_breakLines_52 : decode cX3_breakLines 52 = .ok (.istore 5, 2) := by decide +kernel
theorem dX3_breakLines_54 : decode cX3_breakLines 54 = .ok (.iload_n 3, 1) := by decide +kernel
theorem dX3_breakLines_55 : decode cX3_breakLines 55 = .ok (.iload 4, 2) := by decide +kernel
theorem dX3_breakLines_57 : decode cX3_breakLines 57 = .ok (.if_icmp .ge 99, 3) := by decide +kernel
theorem dX3_breakLines_60 : decode cX3_breakLines 60 = .ok (.aload_n 0, 1) := by decide +kernel
theorem dX3_breakLines_61 : decode cX3_breakLines 61 = .ok (.getfield 86, 3) := by decide +kernel
theorem dX3_breakLines_64 : decode cX3_breakLines 64 = .ok (.sipush 240, 3) := by decide +kernel
theorem dX3_breakLines_67 : decode cX3_breakLines 67 = .ok (.if_icmp .ge 89, 3) := by decide +kernel
theorem dX3_breakLines_70 : decode cX3_breakLines 70 = .ok (.aload_n 1, 1) := by decide +kernel
theorem dX3_breakLines_71 : decode cX3_breakLines 71 = .ok (.iload_n 3, 1) := by decide +kernel
theorem dX3_breakLines_72 : decode cX3_breakLines 72 = .ok (.iload 4, 2) := by decide +kernel
theorem dX3_breakLines_74 : decode cX3_breakLines 74 = .ok (.aload_n 0, 1) := by decide +kernel
theorem dX3_breakLines_75 : decode cX3_breakLines 75 = .ok (.getfield 51, 3) := by decide +kernel
theorem dX3_breakLines_78 : decode cX3_breakLines 78 = .ok (.iload 5, 2) := by decide +kernel
theorem dX3_breakLines_80 : decode cX3_breakLines 80 = .ok (.isub, 1) := by decide +kernel
theorem dX3_breakLines_81 : decode cX3_breakLines 81 = .ok (.invokevirtual 99, 3) := by decide +kernel
theorem dX3_breakLines_84 : decode cX3_breakLines 84 = .ok (.istore 6, 2) := by decide +kernel
theorem dX3_breakLines_86 : decode cX3_breakLines 86 = .ok (.aload_n 0, 1) := by decide +kernel
theorem dX3_breakLines_87 : decode cX3_breakLines 87 = .ok (.getfield 18, 3) := by decide +kernel
theorem dX3_breakLines_90 : decode cX3_breakLines 90 = .ok (.aload_n 0, 1) := by decide +kernel
theorem dX3_breakLines_91 : decode cX3_breakLines 91 = .ok (.getfield 86, 3) := by decide +kernel
theorem dX3_breakLines_94 : decode cX3_breakLines 94 = .ok (.iload_n 2, 1) := by decide +kernel
theorem dX3_breakLines_95 : decode cX3_breakLines 95 = .ok (.iastore, 1) := by decide +kernel
theorem dX3_breakLines_96 : decode cX3_breakLines 96 = .ok (.aload_n 0, 1) := by decide +kernel
theorem dX3_breakLines_97 : decode cX3_breakLines 97 = .ok (.getfield 21, 3) := by decide +kernel
theorem dX3_breakLines_100 : decode cX3_breakLines 100 = .ok (.aload_n 0, 1) := by decide +kernel
theorem dX3_breakLines_101 : decode cX3_breakLines 101 = .ok (.getfield 86, 3) := by decide +kernel
theorem dX3_breakLines_104 : decode cX3_breakLines 104 = .ok (.iload 5, 2) := by decide +kernel
theorem dX3_breakLines_106 : decode cX3_breakLines 106 = .ok (.iastore, 1) := by decide +kernel
theorem dX3_breakLines_107 : decode cX3_breakLines 107 = .ok (.aload_n 0, 1) := by decide +kernel
theorem dX3_breakLines_108 : decode cX3_breakLines 108 = .ok (.getfield 15, 3) := by decide +kernel
theorem dX3_breakLines_111 : decode cX3_breakLines 111 = .ok (.aload_n 0, 1) := by decide +kernel
theorem dX3_breakLines_112 : decode cX3_breakLines 112 = .ok (.getfield 86, 3) := by decide +kernel
theorem dX3_breakLines_115 : decode cX3_breakLines 115 = .ok (.iload_n 3, 1) := by decide +kernel
theorem dX3_breakLines_116 : decode cX3_breakLines 116 = .ok (.iastore, 1) := by decide +kernel
theorem dX3_breakLines_117 : decode cX3_breakLines 117 = .ok (.aload_n 0, 1) := by decide +kernel
theorem dX3_breakLines_118 : decode cX3_breakLines 118 = .ok (.getfield 31, 3) := by decide +kernel
theorem dX3_breakLines_121 : decode cX3_breakLines 121 = .ok (.aload_n 0, 1) := by decide +kernel
theorem dX3_breakLines_122 : decode cX3_breakLines 122 = .ok (.getfield 86, 3) := by decide +kernel
theorem dX3_breakLines_125 : decode cX3_breakLines 125 = .ok (.aload_n 0, 1) := by decide +kernel
theorem dX3_breakLines_126 : decode cX3_breakLines 126 = .ok (.iload_n 3, 1) := by decide +kernel
theorem dX3_breakLines_127 : decode cX3_breakLines 127 = .ok (.iload 6, 2) := by decide +kernel
theorem dX3_breakLines_129 : decode cX3_breakLines 129 = .ok (.invokevirtual 103, 3) := by decide +kernel
theorem dX3_breakLines_132 : decode cX3_breakLines 132 = .ok (.iastore, 1) := by decide +kernel
theorem dX3_breakLines_133 : decode cX3_breakLines 133 = .ok (.aload_n 0, 1) := by decide +kernel
theorem dX3_breakLines_134 : decode cX3_breakLines 134 = .ok (.dup, 1) := by decide +kernel
theorem dX3_breakLines_135 : decode cX3_breakLines 135 = .ok (.getfield 86, 3) := by decide +kernel
theorem dX3_breakLines_138 : decode cX3_breakLines 138 = .ok (.iconst 1, 1) := by decide +kernel
theorem dX3_breakLines_139 : decode cX3_breakLines 139 = .ok (.iadd, 1) := by decide +kernel
theorem dX3_breakLines_140 : decode cX3_breakLines 140 = .ok (.putfield 86, 3) := by decide +kernel
theorem dX3_breakLines_143 : decode cX3_breakLines 143 = .ok (.iload 6, 2) := by decide +kernel
theorem dX3_breakLines_145 : decode cX3_breakLines 145 = .ok (.istore_n 3, 1) := by decide +kernel
theorem dX3_breakLines_146 : decode cX3_breakLines 146 = .ok (.aload_n 0, 1) := by decide +kernel
theorem dX3_breakLines_147 : decode cX3_breakLines 147 = .ok (.iload_n 2, 1) := by decide +kernel
theorem dX3_breakLines_148 : decode cX3_breakLines 148 = .ok (.invokevirtual 107, 3) := by decide +kernel
theorem dX3_breakLines_151 : decode cX3_breakLines 151 = .ok (.istore 5, 2) := by decide +kernel
theorem dX3_breakLines_153 : decode cX3_breakLines 153 = .ok (.goto (-99), 3) := by decide +kernel
theorem dX3_breakLines_156 : decode cX3_breakLines 156 = .ok (.iinc 2 1, 3) := by decide +kernel
theorem dX3_breakLines_159 : decode cX3_breakLines 159 = .ok (.goto (-144), 3) := by decide +kernel
theorem dX3_breakLines_162 : decode cX3_breakLines 162 = .ok (.aload_n 0, 1) := by decide +kernel
theorem dX3_breakLines_163 : decode cX3_breakLines 163 = .ok (.getfield 15, 3) := by decide +kernel
theorem dX3_breakLines_166 : decode cX3_breakLines 166 = .ok (.aload_n 0, 1) := by decide +kernel
theorem dX3_breakLines_167 : decode cX3_breakLines 167 = .ok (.getfield 86, 3) := by decide +kernel
theorem dX3_breakLines_170 : decode cX3_breakLines 170 = .ok (.aload_n 1, 1) := by decide +kernel
theorem dX3_breakLines_171 : decode cX3_breakLines 171 = .ok (.invokevirtual 110, 3) := by decide +kernel
theorem dX3_breakLines_174 : decode cX3_breakLines 174 = .ok (.iastore, 1) := by decide +kernel
theorem dX3_breakLines_175 : decode cX3_breakLines 175 = .ok (.return_, 1) := by decide +kernel
theorem dX3_referencesOf_0 : decode cX3_referencesOf 0 = .ok (.iconst 0, 1) := by decide +kernel
theorem dX3_referencesOf_1 : decode cX3_referencesOf 1 = .ok (.istore_n 3, 1) := by decide +kernel
theorem dX3_referencesOf_2 : decode cX3_referencesOf 2 = .ok (.iload_n 1, 1) := by decide +kernel
theorem dX3_referencesOf_3 : decode cX3_referencesOf 3 = .ok (.istore 4, 2) := by decide +kernel
theorem dX3_referencesOf_5 : decode cX3_referencesOf 5 = .ok (.iload 4, 2) := by decide +kernel
theorem dX3_referencesOf_7 : decode cX3_referencesOf 7 = .ok (.iload_n 2, 1) := by decide +kernel
theorem dX3_referencesOf_8 : decode cX3_referencesOf 8 = .ok (.if_icmp .ge 46, 3) := by decide +kernel
theorem dX3_referencesOf_11 : decode cX3_referencesOf 11 = .ok (.aload_n 0, 1) := by decide +kernel
theorem dX3_referencesOf_12 : decode cX3_referencesOf 12 = .ok (.getfield 40, 3) := by decide +kernel
theorem dX3_referencesOf_15 : decode cX3_referencesOf 15 = .ok (.invokevirtual 80, 3) := by decide +kernel
theorem dX3_referencesOf_18 : decode cX3_referencesOf 18 = .ok (.iload 4, 2) := by decide +kernel
theorem dX3_referencesOf_20 : decode cX3_referencesOf 20 = .ok (.invokevirtual 113, 3) := by decide +kernel
theorem dX3_referencesOf_23 : decode cX3_referencesOf 23 = .ok (.istore 5, 2) := by decide +kernel
theorem dX3_referencesOf_25 : decode cX3_referencesOf 25 = .ok (.iload_n 3, 1) := by decide +kernel
theorem dX3_referencesOf_26 : decode cX3_referencesOf 26 = .ok (.iload 5, 2) := by decide +kernel
theorem dX3_referencesOf_28 : decode cX3_referencesOf 28 = .ok (.ifCond .lt 17, 3) := by decide +kernel
theorem dX3_referencesOf_31 : decode cX3_referencesOf 31 = .ok (.iload 5, 2) := by decide +kernel
theorem dX3_referencesOf_33 : decode cX3_referencesOf 33 = .ok (.bipush 10, 2) := by decide +kernel
theorem dX3_referencesOf_35 : decode cX3_referencesOf 35 = .ok (.if_icmp .ge 10, 3) := by decide +kernel
theorem dX3_referencesOf_38 : decode cX3_referencesOf 38 = .ok (.iconst 1, 1) := by decide +kernel
theorem dX3_referencesOf_39 : decode cX3_referencesOf 39 = .ok (.iload 5, 2) := by decide +kernel
theorem dX3_referencesOf_41 : decode cX3_referencesOf 41 = .ok (.ishl, 1) := by decide +kernel
theorem dX3_referencesOf_42 : decode cX3_referencesOf 42 = .ok (.goto 4, 3) := by decide +kernel
theorem dX3_referencesOf_45 : decode cX3_referencesOf 45 = .ok (.iconst 0, 1) := by decide +kernel
theorem dX3_referencesOf_46 : decode cX3_referencesOf 46 = .ok (.ior, 1) := by decide +kernel
theorem dX3_referencesOf_47 : decode cX3_referencesOf 47 = .ok (.istore_n 3, 1) := by decide +kernel
theorem dX3_referencesOf_48 : decode cX3_referencesOf 48 = .ok (.iinc 4 1, 3) := by decide +kernel
theorem dX3_referencesOf_51 : decode cX3_referencesOf 51 = .ok (.goto (-46), 3) := by decide +kernel
theorem dX3_referencesOf_54 : decode cX3_referencesOf 54 = .ok (.iload_n 3, 1) := by decide +kernel
theorem dX3_referencesOf_55 : decode cX3_referencesOf 55 = .ok (.ireturn, 1) := by decide +kernel
theorem dX3_measureLines_0 : decode cX3_measureLines 0 = .ok (.iconst 0, 1) := by decide +kernel
theorem dX3_measureLines_1 : decode cX3_measureLines 1 = .ok (.istore_n 1, 1) := by decide +kernel
theorem dX3_measureLines_2 : decode cX3_measureLines 2 = .ok (.iload_n 1, 1) := by decide +kernel
theorem dX3_measureLines_3 : decode cX3_measureLines 3 = .ok (.aload_n 0, 1) := by decide +kernel
theorem dX3_measureLines_4 : decode cX3_measureLines 4 = .ok (.getfield 86, 3) := by decide +kernel
theorem dX3_measureLines_7 : decode cX3_measureLines 7 = .ok (.if_icmp .ge 55, 3) := by decide +kernel
theorem dX3_measureLines_10 : decode cX3_measureLines 10 = .ok (.iload_n 1, 1) := by decide +kernel
theorem dX3_measureLines_11 : decode cX3_measureLines 11 = .ok (.sipush 240, 3) := by decide +kernel
theorem dX3_measureLines_14 : decode cX3_measureLines 14 = .ok (.if_icmp .ge 48, 3) := by decide +kernel
theorem dX3_measureLines_17 : decode cX3_measureLines 17 = .ok (.aload_n 0, 1) := by decide +kernel
theorem dX3_measureLines_18 : decode cX3_measureLines 18 = .ok (.getfield 24, 3) := by decide +kernel
theorem dX3_measureLines_21 : decode cX3_measureLines 21 = .ok (.iload_n 1, 1) := by decide +kernel
theorem dX3_measureLines_22 : decode cX3_measureLines 22 = .ok (.aload_n 0, 1) := by decide +kernel
theorem dX3_measureLines_23 : decode cX3_measureLines 23 = .ok (.iload_n 1, 1) := by decide +kernel
theorem dX3_measureLines_24 : decode cX3_measureLines 24 = .ok (.invokevirtual 116, 3) := by decide +kernel
theorem dX3_measureLines_27 : decode cX3_measureLines 27 = .ok (.ifCond .eq 16, 3) := by decide +kernel
theorem dX3_measureLines_30 : decode cX3_measureLines 30 = .ok (.aload_n 0, 1) := by decide +kernel
theorem dX3_measureLines_31 : decode cX3_measureLines 31 = .ok (.aload_n 0, 1) := by decide +kernel
theorem dX3_measureLines_32 : decode cX3_measureLines 32 = .ok (.getfield 18, 3) := by decide +kernel
theorem dX3_measureLines_35 : decode cX3_measureLines 35 = .ok (.iload_n 1, 1) := by decide +kernel
theorem dX3_measureLines_36 : decode cX3_measureLines 36 = .ok (.iaload, 1) := by decide +kernel
theorem dX3_measureLines_37 : decode cX3_measureLines 37 = .ok (.invokevirtual 120, 3) := by decide +kernel
theorem dX3_measureLines_40 : decode cX3_measureLines 40 = .ok (.goto 4, 3) := by decide +kernel
theorem dX3_measureLines_43 : decode cX3_measureLines 43 = .ok (.iconst 0, 1) := by decide +kernel
theorem dX3_measureLines_44 : decode cX3_measureLines 44 = .ok (.iastore, 1) := by decide +kernel
theorem dX3_measureLines_45 : decode cX3_measureLines 45 = .ok (.aload_n 0, 1) := by decide +kernel
theorem dX3_measureLines_46 : decode cX3_measureLines 46 = .ok (.getfield 27, 3) := by decide +kernel
theorem dX3_measureLines_49 : decode cX3_measureLines 49 = .ok (.iload_n 1, 1) := by decide +kernel
theorem dX3_measureLines_50 : decode cX3_measureLines 50 = .ok (.aload_n 0, 1) := by decide +kernel
theorem dX3_measureLines_51 : decode cX3_measureLines 51 = .ok (.iload_n 1, 1) := by decide +kernel
theorem dX3_measureLines_52 : decode cX3_measureLines 52 = .ok (.invokevirtual 123, 3) := by decide +kernel
theorem dX3_measureLines_55 : decode cX3_measureLines 55 = .ok (.bastore, 1) := by decide +kernel
theorem dX3_measureLines_56 : decode cX3_measureLines 56 = .ok (.iinc 1 1, 3) := by decide +kernel
theorem dX3_measureLines_59 : decode cX3_measureLines 59 = .ok (.goto (-57), 3) := by decide +kernel
theorem dX3_measureLines_62 : decode cX3_measureLines 62 = .ok (.return_, 1) := by decide +kernel
theorem dX3_gapOf_0 : decode cX3_gapOf 0 = .ok (.aload_n 0, 1) := by decide +kernel
theorem dX3_gapOf_1 : decode cX3_gapOf 1 = .ok (.iconst 2, 1) := by decide +kernel
theorem dX3_gapOf_2 : decode cX3_gapOf 2 = .ok (.invokevirtual 126, 3) := by decide +kernel
theorem dX3_gapOf_5 : decode cX3_gapOf 5 = .ok (.aload_n 0, 1) := by decide +kernel
theorem dX3_gapOf_6 : decode cX3_gapOf 6 = .ok (.getfield 40, 3) := by decide +kernel
theorem dX3_gapOf_9 : decode cX3_gapOf 9 = .ok (.iload_n 1, 1) := by decide +kernel
theorem dX3_gapOf_10 : decode cX3_gapOf 10 = .ok (.invokevirtual 129, 3) := by decide +kernel
theorem dX3_gapOf_13 : decode cX3_gapOf 13 = .ok (.iconst 1, 1) := by decide +kernel
theorem dX3_gapOf_14 : decode cX3_gapOf 14 = .ok (.if_icmp .ne 7, 3) := by decide +kernel
theorem dX3_gapOf_17 : decode cX3_gapOf 17 = .ok (.iconst 1, 1) := by decide +kernel
theorem dX3_gapOf_18 : decode cX3_gapOf 18 = .ok (.goto 4, 3) := by decide +kernel
theorem dX3_gapOf_21 : decode cX3_gapOf 21 = .ok (.iconst 0, 1) := by decide +kernel
theorem dX3_gapOf_22 : decode cX3_gapOf 22 = .ok (.iadd, 1) := by decide +kernel
theorem dX3_gapOf_23 : decode cX3_gapOf 23 = .ok (.ireturn, 1) := by decide +kernel
theorem dX3_isAllowedBreak_0 : decode cX3_isAllowedBreak 0 = .ok (.aload_n 0, 1) := by decide +kernel
theorem dX3_isAllowedBreak_1 : decode cX3_isAllowedBreak 1 = .ok (.getfield 40, 3) := by decide +kernel
theorem dX3_isAllowedBreak_4 : decode cX3_isAllowedBreak 4 = .ok (.aload_n 0, 1) := by decide +kernel
theorem dX3_isAllowedBreak_5 : decode cX3_isAllowedBreak 5 = .ok (.iload_n 1, 1) := by decide +kernel
theorem dX3_isAllowedBreak_6 : decode cX3_isAllowedBreak 6 = .ok (.iconst 1, 1) := by decide +kernel
theorem dX3_isAllowedBreak_7 : decode cX3_isAllowedBreak 7 = .ok (.isub, 1) := by decide +kernel
theorem dX3_isAllowedBreak_8 : decode cX3_isAllowedBreak 8 = .ok (.invokevirtual 132, 3) := by decide +kernel
theorem dX3_isAllowedBreak_11 : decode cX3_isAllowedBreak 11 = .ok (.invokevirtual 129, 3) := by decide +kernel
theorem dX3_isAllowedBreak_14 : decode cX3_isAllowedBreak 14 = .ok (.iconst 1, 1) := by decide +kernel
theorem dX3_isAllowedBreak_15 : decode cX3_isAllowedBreak 15 = .ok (.if_icmp .ne 5, 3) := by decide +kernel
theorem dX3_isAllowedBreak_18 : decode cX3_isAllowedBreak 18 = .ok (.iconst 0, 1) := by decide +kernel
theorem dX3_isAllowedBreak_19 : decode cX3_isAllowedBreak 19 = .ok (.ireturn, 1) := by decide +kernel
theorem dX3_isAllowedBreak_20 : decode cX3_isAllowedBreak 20 = .ok (.aload_n 0, 1) := by decide +kernel
theorem dX3_isAllowedBreak_21 : decode cX3_isAllowedBreak 21 = .ok (.iload_n 1, 1) := by decide +kernel
theorem dX3_isAllowedBreak_22 : decode cX3_isAllowedBreak 22 = .ok (.invokevirtual 116, 3) := by decide +kernel
theorem dX3_isAllowedBreak_25 : decode cX3_isAllowedBreak 25 = .ok (.ifCond .ne 23, 3) := by decide +kernel
theorem dX3_isAllowedBreak_28 : decode cX3_isAllowedBreak 28 = .ok (.aload_n 0, 1) := by decide +kernel
theorem dX3_isAllowedBreak_29 : decode cX3_isAllowedBreak 29 = .ok (.iload_n 1, 1) := by decide +kernel
theorem dX3_isAllowedBreak_30 : decode cX3_isAllowedBreak 30 = .ok (.iconst 1, 1) := by decide +kernel
theorem dX3_isAllowedBreak_31 : decode cX3_isAllowedBreak 31 = .ok (.isub, 1) := by decide +kernel
theorem dX3_isAllowedBreak_32 : decode cX3_isAllowedBreak 32 = .ok (.invokevirtual 116, 3) := by decide +kernel
theorem dX3_isAllowedBreak_35 : decode cX3_isAllowedBreak 35 = .ok (.ifCond .ne 17, 3) := by decide +kernel
theorem dX3_isAllowedBreak_38 : decode cX3_isAllowedBreak 38 = .ok (.aload_n 0, 1) := by decide +kernel
theorem dX3_isAllowedBreak_39 : decode cX3_isAllowedBreak 39 = .ok (.iload_n 1, 1) := by decide +kernel
theorem dX3_isAllowedBreak_40 : decode cX3_isAllowedBreak 40 = .ok (.iconst 1, 1) := by decide +kernel
theorem dX3_isAllowedBreak_41 : decode cX3_isAllowedBreak 41 = .ok (.iadd, 1) := by decide +kernel
theorem dX3_isAllowedBreak_42 : decode cX3_isAllowedBreak 42 = .ok (.invokevirtual 116, 3) := by decide +kernel
theorem dX3_isAllowedBreak_45 : decode cX3_isAllowedBreak 45 = .ok (.ifCond .ne 7, 3) := by decide +kernel
theorem dX3_isAllowedBreak_48 : decode cX3_isAllowedBreak 48 = .ok (.iconst 1, 1) := by decide +kernel
theorem dX3_isAllowedBreak_49 : decode cX3_isAllowedBreak 49 = .ok (.goto 4, 3) := by decide +kernel
theorem dX3_isAllowedBreak_52 : decode cX3_isAllowedBreak 52 = .ok (.iconst 0, 1) := by decide +kernel
theorem dX3_isAllowedBreak_53 : decode cX3_isAllowedBreak 53 = .ok (.ireturn, 1) := by decide +kernel
theorem dX3_breakPages_0 : decode cX3_breakPages 0 = .ok (.aload_n 0, 1) := by decide +kernel
theorem dX3_breakPages_1 : decode cX3_breakPages 1 = .ok (.iconst 0, 1) := by decide +kernel
theorem dX3_breakPages_2 : decode cX3_breakPages 2 = .ok (.putfield 135, 3) := by decide +kernel
theorem dX3_breakPages_5 : decode cX3_breakPages 5 = .ok (.iconst 0, 1) := by decide +kernel
theorem dX3_breakPages_6 : decode cX3_breakPages 6 = .ok (.istore_n 1, 1) := by decide +kernel
theorem dX3_breakPages_7 : decode cX3_breakPages 7 = .ok (.iload_n 1, 1) := by decide +kernel
theorem dX3_breakPages_8 : decode cX3_breakPages 8 = .ok (.aload_n 0, 1) := by decide +kernel
theorem dX3_breakPages_9 : decode cX3_breakPages 9 = .ok (.getfield 86, 3) := by decide +kernel
theorem dX3_breakPages_12 : decode cX3_breakPages 12 = .ok (.if_icmp .ge 74, 3) := by decide +kernel
theorem dX3_breakPages_15 : decode cX3_breakPages 15 = .ok (.aload_n 0, 1) := by decide +kernel
theorem dX3_breakPages_16 : decode cX3_breakPages 16 = .ok (.getfield 135, 3) := by decide +kernel
theorem dX3_breakPages_19 : decode cX3_breakPages 19 = .ok (.sipush 240, 3) := by decide +kernel
theorem dX3_breakPages_22 : decode cX3_breakPages 22 = .ok (.if_icmp .ge 64, 3) := by decide +kernel
theorem dX3_breakPages_25 : decode cX3_breakPages 25 = .ok (.aload_n 0, 1) := by decide +kernel
theorem dX3_breakPages_26 : decode cX3_breakPages 26 = .ok (.iload_n 1, 1) := by decide +kernel
theorem dX3_breakPages_27 : decode cX3_breakPages 27 = .ok (.invokevirtual 138, 3) := by decide +kernel
theorem dX3_breakPages_30 : decode cX3_breakPages 30 = .ok (.istore_n 2, 1) := by decide +kernel
theorem dX3_breakPages_31 : decode cX3_breakPages 31 = .ok (.aload_n 0, 1) := by decide +kernel
theorem dX3_breakPages_32 : decode cX3_breakPages 32 = .ok (.getfield 37, 3) := by decide +kernel
theorem dX3_breakPages_35 : decode cX3_breakPages 35 = .ok (.aload_n 0, 1) := by decide +kernel
theorem dX3_breakPages_36 : decode cX3_breakPages 36 = .ok (.getfield 135, 3) := by decide +kernel
theorem dX3_breakPages_39 : decode cX3_breakPages 39 = .ok (.iload_n 1, 1) := by decide +kernel
theorem dX3_breakPages_40 : decode cX3_breakPages 40 = .ok (.iastore, 1) := by decide +kernel
theorem dX3_breakPages_41 : decode cX3_breakPages 41 = .ok (.iload_n 1, 1) := by decide +kernel
theorem dX3_breakPages_42 : decode cX3_breakPages 42 = .ok (.istore_n 3, 1) := by decide +kernel
theorem dX3_breakPages_43 : decode cX3_breakPages 43 = .ok (.iload_n 3, 1) := by decide +kernel
theorem dX3_breakPages_44 : decode cX3_breakPages 44 = .ok (.iload_n 2, 1) := by decide +kernel
theorem dX3_breakPages_45 : decode cX3_breakPages 45 = .ok (.if_icmp .ge 26, 3) := by decide +kernel
theorem dX3_breakPages_48 : decode cX3_breakPages 48 = .ok (.iload_n 3, 1) := by decide +kernel
theorem dX3_breakPages_49 : decode cX3_breakPages 49 = .ok (.sipush 240, 3) := by decide +kernel
theorem dX3_breakPages_52 : decode cX3_breakPages 52 = .ok (.if_icmp .ge 19, 3) := by decide +kernel
theorem dX3_breakPages_55 : decode cX3_breakPages 55 = .ok (.aload_n 0, 1) := by decide +kernel
theorem dX3_breakPages_56 : decode cX3_breakPages 56 = .ok (.getfield 34, 3) := by decide +kernel
theorem dX3_breakPages_59 : decode cX3_breakPages 59 = .ok (.iload_n 3, 1) := by decide +kernel
theorem dX3_breakPages_60 : decode cX3_breakPages 60 = .ok (.aload_n 0, 1) := by decide +kernel
theorem dX3_breakPages_61 : decode cX3_breakPages 61 = .ok (.getfield 135, 3) := by decide +kernel
theorem dX3_breakPages_64 : decode cX3_breakPages 64 = .ok (.iastore, 1) := by decide +kernel
theorem dX3_breakPages_65 : decode cX3_breakPages 65 = .ok (.iinc 3 1, 3) := by decide +kernel
theorem dX3_breakPages_68 : decode cX3_breakPages 68 = .ok (.goto (-25), 3) := by decide +kernel
theorem dX3_breakPages_71 : decode cX3_breakPages 71 = .ok (.aload_n 0, 1) := by decide +kernel
theorem dX3_breakPages_72 : decode cX3_breakPages 72 = .ok (.dup, 1) := by decide +kernel
theorem dX3_breakPages_73 : decode cX3_breakPages 73 = .ok (.getfield 135, 3) := by decide +kernel
theorem dX3_breakPages_76 : decode cX3_breakPages 76 = .ok (.iconst 1, 1) := by decide +kernel
theorem dX3_breakPages_77 : decode cX3_breakPages 77 = .ok (.iadd, 1) := by decide +kernel
theorem dX3_breakPages_78 : decode cX3_breakPages 78 = .ok (.putfield 135, 3) := by decide +kernel
theorem dX3_breakPages_81 : decode cX3_breakPages 81 = .ok (.iload_n 2, 1) := by decide +kernel
theorem dX3_breakPages_82 : decode cX3_breakPages 82 = .ok (.istore_n 1, 1) := by decide +kernel
theorem dX3_breakPages_83 : decode cX3_breakPages 83 = .ok (.goto (-76), 3) := by decide +kernel
theorem dX3_breakPages_86 : decode cX3_breakPages 86 = .ok (.aload_n 0, 1) := by decide +kernel
theorem dX3_breakPages_87 : decode cX3_breakPages 87 = .ok (.getfield 37, 3) := by decide +kernel
theorem dX3_breakPages_90 : decode cX3_breakPages 90 = .ok (.aload_n 0, 1) := by decide +kernel
theorem dX3_breakPages_91 : decode cX3_breakPages 91 = .ok (.getfield 135, 3) := by decide +kernel
theorem dX3_breakPages_94 : decode cX3_breakPages 94 = .ok (.aload_n 0, 1) := by decide +kernel
theorem dX3_breakPages_95 : decode cX3_breakPages 95 = .ok (.getfield 86, 3) := by decide +kernel
theorem dX3_breakPages_98 : decode cX3_breakPages 98 = .ok (.iastore, 1) := by decide +kernel
theorem dX3_breakPages_99 : decode cX3_breakPages 99 = .ok (.return_, 1) := by decide +kernel
theorem dX3_styleOf_0 : decode cX3_styleOf 0 = .ok (.iload_n 1, 1) := by decide +kernel
theorem dX3_styleOf_1 : decode cX3_styleOf 1 = .ok (.ifCond .lt 21, 3) := by decide +kernel
theorem dX3_styleOf_4 : decode cX3_styleOf 4 = .ok (.iload_n 1, 1) := by decide +kernel
theorem dX3_styleOf_5 : decode cX3_styleOf 5 = .ok (.aload_n 0, 1) := by decide +kernel
theorem dX3_styleOf_6 : decode cX3_styleOf 6 = .ok (.getfield 48, 3) := by decide +kernel
theorem dX3_styleOf_9 : decode cX3_styleOf 9 = .ok (.arraylength, 1) := by decide +kernel
theorem dX3_styleOf_10 : decode cX3_styleOf 10 = .ok (.if_icmp .ge 12, 3) := by decide +kernel
theorem dX3_styleOf_13 : decode cX3_styleOf 13 = .ok (.aload_n 0, 1) := by decide +kernel
theorem dX3_styleOf_14 : decode cX3_styleOf 14 = .ok (.getfield 48, 3) := by decide +kernel
theorem dX3_styleOf_17 : decode cX3_styleOf 17 = .ok (.iload_n 1, 1) := by decide +kernel
theorem dX3_styleOf_18 : decode cX3_styleOf 18 = .ok (.iaload, 1) := by decide +kernel
theorem dX3_styleOf_19 : decode cX3_styleOf 19 = .ok (.goto 4, 3) := by decide +kernel
theorem dX3_styleOf_22 : decode cX3_styleOf 22 = .ok (.iconst 0, 1) := by decide +kernel
theorem dX3_styleOf_23 : decode cX3_styleOf 23 = .ok (.ireturn, 1) := by decide +kernel
theorem dX3_textOf_0 : decode cX3_textOf 0 = .ok (.iload_n 1, 1) := by decide +kernel
theorem dX3_textOf_1 : decode cX3_textOf 1 = .ok (.ifCond .lt 21, 3) := by decide +kernel
theorem dX3_textOf_4 : decode cX3_textOf 4 = .ok (.iload_n 1, 1) := by decide +kernel
theorem dX3_textOf_5 : decode cX3_textOf 5 = .ok (.aload_n 0, 1) := by decide +kernel
theorem dX3_textOf_6 : decode cX3_textOf 6 = .ok (.getfield 44, 3) := by decide +kernel
theorem dX3_textOf_9 : decode cX3_textOf 9 = .ok (.arraylength, 1) := by decide +kernel
theorem dX3_textOf_10 : decode cX3_textOf 10 = .ok (.if_icmp .ge 12, 3) := by decide +kernel
theorem dX3_textOf_13 : decode cX3_textOf 13 = .ok (.aload_n 0, 1) := by decide +kernel
theorem dX3_textOf_14 : decode cX3_textOf 14 = .ok (.getfield 44, 3) := by decide +kernel
theorem dX3_textOf_17 : decode cX3_textOf 17 = .ok (.iload_n 1, 1) := by decide +kernel
theorem dX3_textOf_18 : decode cX3_textOf 18 = .ok (.aaload, 1) := by decide +kernel
theorem dX3_textOf_19 : decode cX3_textOf 19 = .ok (.goto 4, 3) := by decide +kernel
theorem dX3_textOf_22 : decode cX3_textOf 22 = .ok (.aconst_null, 1) := by decide +kernel
theorem dX3_textOf_23 : decode cX3_textOf 23 = .ok (.areturn, 1) := by decide +kernel
theorem dX3_firstIndentOf_0 : decode cX3_firstIndentOf 0 = .ok (.aload_n 0, 1) := by decide +kernel
theorem dX3_firstIndentOf_1 : decode cX3_firstIndentOf 1 = .ok (.getfield 40, 3) := by decide +kernel
theorem dX3_firstIndentOf_4 : decode cX3_firstIndentOf 4 = .ok (.iload_n 1, 1) := by decide +kernel
theorem dX3_firstIndentOf_5 : decode cX3_firstIndentOf 5 = .ok (.invokevirtual 129, 3) := by decide +kernel
theorem dX3_firstIndentOf_8 : decode cX3_firstIndentOf 8 = .ok (.ifCond .ne 11, 3) := by decide +kernel
theorem dX3_firstIndentOf_11 : decode cX3_firstIndentOf 11 = .ok (.aload_n 0, 1) := by decide +kernel
theorem dX3_firstIndentOf_12 : decode cX3_firstIndentOf 12 = .ok (.iconst 0, 1) := by decide +kernel
theorem dX3_firstIndentOf_13 : decode cX3_firstIndentOf 13 = .ok (.invokevirtual 126, 3) := by decide +kernel
theorem dX3_firstIndentOf_16 : decode cX3_firstIndentOf 16 = .ok (.goto 8, 3) := by decide +kernel
theorem dX3_firstIndentOf_19 : decode cX3_firstIndentOf 19 = .ok (.aload_n 0, 1) := by decide +kernel
theorem dX3_firstIndentOf_20 : decode cX3_firstIndentOf 20 = .ok (.iload_n 1, 1) := by decide +kernel
theorem dX3_firstIndentOf_21 : decode cX3_firstIndentOf 21 = .ok (.invokevirtual 107, 3) := by decide +kernel
theorem dX3_firstIndentOf_24 : decode cX3_firstIndentOf 24 = .ok (.ireturn, 1) := by decide +kernel
theorem dX3_laterIndentOf_0 : decode cX3_laterIndentOf 0 = .ok (.aload_n 0, 1) := by decide +kernel
theorem dX3_laterIndentOf_1 : decode cX3_laterIndentOf 1 = .ok (.getfield 40, 3) := by decide +kernel
theorem dX3_laterIndentOf_4 : decode cX3_laterIndentOf 4 = .ok (.iload_n 1, 1) := by decide +kernel
theorem dX3_laterIndentOf_5 : decode cX3_laterIndentOf 5 = .ok (.invokevirtual 129, 3) := by decide +kernel
theorem dX3_laterIndentOf_8 : decode cX3_laterIndentOf 8 = .ok (.iconst 2, 1) := by decide +kernel
theorem dX3_laterIndentOf_9 : decode cX3_laterIndentOf 9 = .ok (.if_icmp .ne 11, 3) := by decide +kernel
theorem dX3_laterIndentOf_12 : decode cX3_laterIndentOf 12 = .ok (.aload_n 0, 1) := by decide +kernel
theorem dX3_laterIndentOf_13 : decode cX3_laterIndentOf 13 = .ok (.iconst 1, 1) := by decide +kernel
theorem dX3_laterIndentOf_14 : decode cX3_laterIndentOf 14 = .ok (.invokevirtual 126, 3) := by decide +kernel
theorem dX3_laterIndentOf_17 : decode cX3_laterIndentOf 17 = .ok (.goto 4, 3) := by decide +kernel
theorem dX3_laterIndentOf_20 : decode cX3_laterIndentOf 20 = .ok (.iconst 0, 1) := by decide +kernel
theorem dX3_laterIndentOf_21 : decode cX3_laterIndentOf 21 = .ok (.ireturn, 1) := by decide +kernel
theorem dX3_lines_0 : decode cX3_lines 0 = .ok (.aload_n 0, 1) := by decide +kernel
theorem dX3_lines_1 : decode cX3_lines 1 = .ok (.getfield 86, 3) := by decide +kernel
theorem dX3_lines_4 : decode cX3_lines 4 = .ok (.ireturn, 1) := by decide +kernel
theorem dX3_pages_0 : decode cX3_pages 0 = .ok (.aload_n 0, 1) := by decide +kernel
theorem dX3_pages_1 : decode cX3_pages 1 = .ok (.getfield 135, 3) := by decide +kernel
theorem dX3_pages_4 : decode cX3_pages 4 = .ok (.ireturn, 1) := by decide +kernel
theorem dX3_firstWordOfLine_0 : decode cX3_firstWordOfLine 0 = .ok (.iload_n 1, 1) := by decide +kernel
theorem dX3_firstWordOfLine_1 : decode cX3_firstWordOfLine 1 = .ok (.ifCond .lt 20, 3) := by decide +kernel
theorem dX3_firstWordOfLine_4 : decode cX3_firstWordOfLine 4 = .ok (.iload_n 1, 1) := by decide +kernel
theorem dX3_firstWordOfLine_5 : decode cX3_firstWordOfLine 5 = .ok (.aload_n 0, 1) := by decide +kernel
theorem dX3_firstWordOfLine_6 : decode cX3_firstWordOfLine 6 = .ok (.getfield 86, 3) := by decide +kernel
theorem dX3_firstWordOfLine_9 : decode cX3_firstWordOfLine 9 = .ok (.if_icmp .ge 12, 3) := by decide +kernel
theorem dX3_firstWordOfLine_12 : decode cX3_firstWordOfLine 12 = .ok (.aload_n 0, 1) := by decide +kernel
theorem dX3_firstWordOfLine_13 : decode cX3_firstWordOfLine 13 = .ok (.getfield 15, 3) := by decide +kernel
theorem dX3_firstWordOfLine_16 : decode cX3_firstWordOfLine 16 = .ok (.iload_n 1, 1) := by decide +kernel
theorem dX3_firstWordOfLine_17 : decode cX3_firstWordOfLine 17 = .ok (.iaload, 1) := by decide +kernel
theorem dX3_firstWordOfLine_18 : decode cX3_firstWordOfLine 18 = .ok (.goto 13, 3) := by decide +kernel
theorem dX3_firstWordOfLine_21 : decode cX3_firstWordOfLine 21 = .ok (.aload_n 0, 1) := by decide +kernel
theorem dX3_firstWordOfLine_22 : decode cX3_firstWordOfLine 22 = .ok (.getfield 40, 3) := by decide +kernel
theorem dX3_firstWordOfLine_25 : decode cX3_firstWordOfLine 25 = .ok (.invokevirtual 80, 3) := by decide +kernel
theorem dX3_firstWordOfLine_28 : decode cX3_firstWordOfLine 28 = .ok (.invokevirtual 110, 3) := by decide +kernel
theorem dX3_firstWordOfLine_31 : decode cX3_firstWordOfLine 31 = .ok (.ireturn, 1) := by decide +kernel
theorem dX3_paragraphOfLine_0 : decode cX3_paragraphOfLine 0 = .ok (.iload_n 1, 1) := by decide +kernel
theorem dX3_paragraphOfLine_1 : decode cX3_paragraphOfLine 1 = .ok (.ifCond .lt 20, 3) := by decide +kernel
theorem dX3_paragraphOfLine_4 : decode cX3_paragraphOfLine 4 = .ok (.iload_n 1, 1) := by decide +kernel
theorem dX3_paragraphOfLine_5 : decode cX3_paragraphOfLine 5 = .ok (.aload_n 0, 1) := by decide +kernel
theorem dX3_paragraphOfLine_6 : decode cX3_paragraphOfLine 6 = .ok (.getfield 86, 3) := by decide +kernel
theorem dX3_paragraphOfLine_9 : decode cX3_paragraphOfLine 9 = .ok (.if_icmp .ge 12, 3) := by decide +kernel
theorem dX3_paragraphOfLine_12 : decode cX3_paragraphOfLine 12 = .ok (.aload_n 0, 1) := by decide +kernel
theorem dX3_paragraphOfLine_13 : decode cX3_paragraphOfLine 13 = .ok (.getfield 18, 3) := by decide +kernel
theorem dX3_paragraphOfLine_16 : decode cX3_paragraphOfLine 16 = .ok (.iload_n 1, 1) := by decide +kernel
theorem dX3_paragraphOfLine_17 : decode cX3_paragraphOfLine 17 = .ok (.iaload, 1) := by decide +kernel
theorem dX3_paragraphOfLine_18 : decode cX3_paragraphOfLine 18 = .ok (.goto 4, 3) := by decide +kernel
theorem dX3_paragraphOfLine_21 : decode cX3_paragraphOfLine 21 = .ok (.iconst (-1), 1) := by decide +kernel
theorem dX3_paragraphOfLine_22 : decode cX3_paragraphOfLine 22 = .ok (.ireturn, 1) := by decide +kernel
theorem dX3_indentOfLine_0 : decode cX3_indentOfLine 0 = .ok (.iload_n 1, 1) := by decide +kernel
theorem dX3_indentOfLine_1 : decode cX3_indentOfLine 1 = .ok (.ifCond .lt 20, 3) := by decide +kernel
theorem dX3_indentOfLine_4 : decode cX3_indentOfLine 4 = .ok (.iload_n 1, 1) := by decide +kernel
theorem dX3_indentOfLine_5 : decode cX3_indentOfLine 5 = .ok (.aload_n 0, 1) := by decide +kernel
theorem dX3_indentOfLine_6 : decode cX3_indentOfLine 6 = .ok (.getfield 86, 3) := by decide +kernel
theorem dX3_indentOfLine_9 : decode cX3_indentOfLine 9 = .ok (.if_icmp .ge 12, 3) := by decide +kernel
theorem dX3_indentOfLine_12 : decode cX3_indentOfLine 12 = .ok (.aload_n 0, 1) := by decide +kernel
theorem dX3_indentOfLine_13 : decode cX3_indentOfLine 13 = .ok (.getfield 21, 3) := by decide +kernel
theorem dX3_indentOfLine_16 : decode cX3_indentOfLine 16 = .ok (.iload_n 1, 1) := by decide +kernel
theorem dX3_indentOfLine_17 : decode cX3_indentOfLine 17 = .ok (.iaload, 1) := by decide +kernel
theorem dX3_indentOfLine_18 : decode cX3_indentOfLine 18 = .ok (.goto 4, 3) := by decide +kernel
theorem dX3_indentOfLine_21 : decode cX3_indentOfLine 21 = .ok (.iconst 0, 1) := by decide +kernel
theorem dX3_indentOfLine_22 : decode cX3_indentOfLine 22 = .ok (.ireturn, 1) := by decide +kernel
theorem dX3_gapBefore_0 : decode cX3_gapBefore 0 = .ok (.iload_n 1, 1) := by decide +kernel
theorem dX3_gapBefore_1 : decode cX3_gapBefore 1 = .ok (.ifCond .lt 20, 3) := by decide +kernel
theorem dX3_gapBefore_4 : decode cX3_gapBefore 4 = .ok (.iload_n 1, 1) := by decide +kernel
theorem dX3_gapBefore_5 : decode cX3_gapBefore 5 = .ok (.aload_n 0, 1) := by decide +kernel
theorem dX3_gapBefore_6 : decode cX3_gapBefore 6 = .ok (.getfield 86, 3) := by decide +kernel
theorem dX3_gapBefore_9 : decode cX3_gapBefore 9 = .ok (.if_icmp .ge 12, 3) := by decide +kernel
theorem dX3_gapBefore_12 : decode cX3_gapBefore 12 = .ok (.aload_n 0, 1) := by decide +kernel
theorem dX3_gapBefore_13 : decode cX3_gapBefore 13 = .ok (.getfield 24, 3) := by decide +kernel
theorem dX3_gapBefore_16 : decode cX3_gapBefore 16 = .ok (.iload_n 1, 1) := by decide +kernel
theorem dX3_gapBefore_17 : decode cX3_gapBefore 17 = .ok (.iaload, 1) := by decide +kernel
theorem dX3_gapBefore_18 : decode cX3_gapBefore 18 = .ok (.goto 4, 3) := by decide +kernel
theorem dX3_gapBefore_21 : decode cX3_gapBefore 21 = .ok (.iconst 0, 1) := by decide +kernel
theorem dX3_gapBefore_22 : decode cX3_gapBefore 22 = .ok (.ireturn, 1) := by decide +kernel
theorem dX3_mayBreakBefore_0 : decode cX3_mayBreakBefore 0 = .ok (.iload_n 1, 1) := by decide +kernel
theorem dX3_mayBreakBefore_1 : decode cX3_mayBreakBefore 1 = .ok (.ifCond .lt 24, 3) := by decide +kernel
theorem dX3_mayBreakBefore_4 : decode cX3_mayBreakBefore 4 = .ok (.iload_n 1, 1) := by decide +kernel
theorem dX3_mayBreakBefore_5 : decode cX3_mayBreakBefore 5 = .ok (.aload_n 0, 1) := by decide +kernel
theorem dX3_mayBreakBefore_6 : decode cX3_mayBreakBefore 6 = .ok (.getfield 86, 3) := by decide +kernel
theorem dX3_mayBreakBefore_9 : decode cX3_mayBreakBefore 9 = .ok (.if_icmp .ge 16, 3) := by decide +kernel
theorem dX3_mayBreakBefore_12 : decode cX3_mayBreakBefore 12 = .ok (.aload_n 0, 1) := by decide +kernel
theorem dX3_mayBreakBefore_13 : decode cX3_mayBreakBefore 13 = .ok (.getfield 27, 3) := by decide +kernel
theorem dX3_mayBreakBefore_16 : decode cX3_mayBreakBefore 16 = .ok (.iload_n 1, 1) := by decide +kernel
theorem dX3_mayBreakBefore_17 : decode cX3_mayBreakBefore 17 = .ok (.baload, 1) := by decide +kernel
theorem dX3_mayBreakBefore_18 : decode cX3_mayBreakBefore 18 = .ok (.ifCond .eq 7, 3) := by decide +kernel
theorem dX3_mayBreakBefore_21 : decode cX3_mayBreakBefore 21 = .ok (.iconst 1, 1) := by decide +kernel
theorem dX3_mayBreakBefore_22 : decode cX3_mayBreakBefore 22 = .ok (.goto 4, 3) := by decide +kernel
theorem dX3_mayBreakBefore_25 : decode cX3_mayBreakBefore 25 = .ok (.iconst 0, 1) := by decide +kernel
theorem dX3_mayBreakBefore_26 : decode cX3_mayBreakBefore 26 = .ok (.ireturn, 1) := by decide +kernel
theorem dX3_notesOfLine_0 : decode cX3_notesOfLine 0 = .ok (.iload_n 1, 1) := by decide +kernel
theorem dX3_notesOfLine_1 : decode cX3_notesOfLine 1 = .ok (.ifCond .lt 20, 3) := by decide +kernel
theorem dX3_notesOfLine_4 : decode cX3_notesOfLine 4 = .ok (.iload_n 1, 1) := by decide +kernel
theorem dX3_notesOfLine_5 : decode cX3_notesOfLine 5 = .ok (.aload_n 0, 1) := by decide +kernel
theorem dX3_notesOfLine_6 : decode cX3_notesOfLine 6 = .ok (.getfield 86, 3) := by decide +kernel
theorem dX3_notesOfLine_9 : decode cX3_notesOfLine 9 = .ok (.if_icmp .ge 12, 3) := by decide +kernel
theorem dX3_notesOfLine_12 : decode cX3_notesOfLine 12 = .ok (.aload_n 0, 1) := by decide +kernel
theorem dX3_notesOfLine_13 : decode cX3_notesOfLine 13 = .ok (.getfield 31, 3) := by decide +kernel
theorem dX3_notesOfLine_16 : decode cX3_notesOfLine 16 = .ok (.iload_n 1, 1) := by decide +kernel
theorem dX3_notesOfLine_17 : decode cX3_notesOfLine 17 = .ok (.iaload, 1) := by decide +kernel
theorem dX3_notesOfLine_18 : decode cX3_notesOfLine 18 = .ok (.goto 4, 3) := by decide +kernel
theorem dX3_notesOfLine_21 : decode cX3_notesOfLine 21 = .ok (.iconst 0, 1) := by decide +kernel
theorem dX3_notesOfLine_22 : decode cX3_notesOfLine 22 = .ok (.ireturn, 1) := by decide +kernel
theorem dX3_pageOfLine_0 : decode cX3_pageOfLine 0 = .ok (.iload_n 1, 1) := by decide +kernel
theorem dX3_pageOfLine_1 : decode cX3_pageOfLine 1 = .ok (.ifCond .lt 20, 3) := by decide +kernel
theorem dX3_pageOfLine_4 : decode cX3_pageOfLine 4 = .ok (.iload_n 1, 1) := by decide +kernel
theorem dX3_pageOfLine_5 : decode cX3_pageOfLine 5 = .ok (.aload_n 0, 1) := by decide +kernel
theorem dX3_pageOfLine_6 : decode cX3_pageOfLine 6 = .ok (.getfield 86, 3) := by decide +kernel
theorem dX3_pageOfLine_9 : decode cX3_pageOfLine 9 = .ok (.if_icmp .ge 12, 3) := by decide +kernel
theorem dX3_pageOfLine_12 : decode cX3_pageOfLine 12 = .ok (.aload_n 0, 1) := by decide +kernel
theorem dX3_pageOfLine_13 : decode cX3_pageOfLine 13 = .ok (.getfield 34, 3) := by decide +kernel
theorem dX3_pageOfLine_16 : decode cX3_pageOfLine 16 = .ok (.iload_n 1, 1) := by decide +kernel
theorem dX3_pageOfLine_17 : decode cX3_pageOfLine 17 = .ok (.iaload, 1) := by decide +kernel
theorem dX3_pageOfLine_18 : decode cX3_pageOfLine 18 = .ok (.goto 4, 3) := by decide +kernel
theorem dX3_pageOfLine_21 : decode cX3_pageOfLine 21 = .ok (.iconst (-1), 1) := by decide +kernel
theorem dX3_pageOfLine_22 : decode cX3_pageOfLine 22 = .ok (.ireturn, 1) := by decide +kernel
theorem dX3_firstLineOfPage_0 : decode cX3_firstLineOfPage 0 = .ok (.iload_n 1, 1) := by decide +kernel
theorem dX3_firstLineOfPage_1 : decode cX3_firstLineOfPage 1 = .ok (.ifCond .lt 20, 3) := by decide +kernel
theorem dX3_firstLineOfPage_4 : decode cX3_firstLineOfPage 4 = .ok (.iload_n 1, 1) := by decide +kernel
theorem dX3_firstLineOfPage_5 : decode cX3_firstLineOfPage 5 = .ok (.aload_n 0, 1) := by decide +kernel
theorem dX3_firstLineOfPage_6 : decode cX3_firstLineOfPage 6 = .ok (.getfield 135, 3) := by decide +kernel
theorem dX3_firstLineOfPage_9 : decode cX3_firstLineOfPage 9 = .ok (.if_icmp .ge 12, 3) := by decide +kernel
theorem dX3_firstLineOfPage_12 : decode cX3_firstLineOfPage 12 = .ok (.aload_n 0, 1) := by decide +kernel
theorem dX3_firstLineOfPage_13 : decode cX3_firstLineOfPage 13 = .ok (.getfield 37, 3) := by decide +kernel
theorem dX3_firstLineOfPage_16 : decode cX3_firstLineOfPage 16 = .ok (.iload_n 1, 1) := by decide +kernel
theorem dX3_firstLineOfPage_17 : decode cX3_firstLineOfPage 17 = .ok (.iaload, 1) := by decide +kernel
theorem dX3_firstLineOfPage_18 : decode cX3_firstLineOfPage 18 = .ok (.goto 7, 3) := by decide +kernel
theorem dX3_firstLineOfPage_21 : decode cX3_firstLineOfPage 21 = .ok (.aload_n 0, 1) := by decide +kernel
theorem dX3_firstLineOfPage_22 : decode cX3_firstLineOfPage 22 = .ok (.getfield 86, 3) := by decide +kernel
theorem dX3_firstLineOfPage_25 : decode cX3_firstLineOfPage 25 = .ok (.ireturn, 1) := by decide +kernel
theorem dX3_beginsParagraph_0 : decode cX3_beginsParagraph 0 = .ok (.aload_n 0, 1) := by decide +kernel
theorem dX3_beginsParagraph_1 : decode cX3_beginsParagraph 1 = .ok (.iload_n 1, 1) := by decide +kernel
theorem dX3_beginsParagraph_2 : decode cX3_beginsParagraph 2 = .ok (.invokevirtual 132, 3) := by decide +kernel
theorem dX3_beginsParagraph_5 : decode cX3_beginsParagraph 5 = .ok (.aload_n 0, 1) := by decide +kernel
theorem dX3_beginsParagraph_6 : decode cX3_beginsParagraph 6 = .ok (.iload_n 1, 1) := by decide +kernel
theorem dX3_beginsParagraph_7 : decode cX3_beginsParagraph 7 = .ok (.iconst 1, 1) := by decide +kernel
theorem dX3_beginsParagraph_8 : decode cX3_beginsParagraph 8 = .ok (.isub, 1) := by decide +kernel
theorem dX3_beginsParagraph_9 : decode cX3_beginsParagraph 9 = .ok (.invokevirtual 132, 3) := by decide +kernel
theorem dX3_beginsParagraph_12 : decode cX3_beginsParagraph 12 = .ok (.if_icmp .eq 7, 3) := by decide +kernel
theorem dX3_beginsParagraph_15 : decode cX3_beginsParagraph 15 = .ok (.iconst 1, 1) := by decide +kernel
theorem dX3_beginsParagraph_16 : decode cX3_beginsParagraph 16 = .ok (.goto 4, 3) := by decide +kernel
theorem dX3_beginsParagraph_19 : decode cX3_beginsParagraph 19 = .ok (.iconst 0, 1) := by decide +kernel
theorem dX3_beginsParagraph_20 : decode cX3_beginsParagraph 20 = .ok (.ireturn, 1) := by decide +kernel
theorem dX3_linesOfParagraph_0 : decode cX3_linesOfParagraph 0 = .ok (.iconst 0, 1) := by decide +kernel
theorem dX3_linesOfParagraph_1 : decode cX3_linesOfParagraph 1 = .ok (.istore_n 2, 1) := by decide +kernel
theorem dX3_linesOfParagraph_2 : decode cX3_linesOfParagraph 2 = .ok (.iconst 0, 1) := by decide +kernel
theorem dX3_linesOfParagraph_3 : decode cX3_linesOfParagraph 3 = .ok (.istore_n 3, 1) := by decide +kernel
theorem dX3_linesOfParagraph_4 : decode cX3_linesOfParagraph 4 = .ok (.iload_n 3, 1) := by decide +kernel
theorem dX3_linesOfParagraph_5 : decode cX3_linesOfParagraph 5 = .ok (.aload_n 0, 1) := by decide +kernel
theorem dX3_linesOfParagraph_6 : decode cX3_linesOfParagraph 6 = .ok (.getfield 86, 3) := by decide +kernel
theorem dX3_linesOfParagraph_9 : decode cX3_linesOfParagraph 9 = .ok (.if_icmp .ge 26, 3) := by decide +kernel
theorem dX3_linesOfParagraph_12 : decode cX3_linesOfParagraph 12 = .ok (.iload_n 2, 1) := by decide +kernel
theorem dX3_linesOfParagraph_13 : decode cX3_linesOfParagraph 13 = .ok (.aload_n 0, 1) := by decide +kernel
theorem dX3_linesOfParagraph_14 : decode cX3_linesOfParagraph 14 = .ok (.iload_n 3, 1) := by decide +kernel
theorem dX3_linesOfParagraph_15 : decode cX3_linesOfParagraph 15 = .ok (.invokevirtual 132, 3) := by decide +kernel
theorem dX3_linesOfParagraph_18 : decode cX3_linesOfParagraph 18 = .ok (.iload_n 1, 1) := by decide +kernel
theorem dX3_linesOfParagraph_19 : decode cX3_linesOfParagraph 19 = .ok (.if_icmp .ne 7, 3) := by decide +kernel
theorem dX3_linesOfParagraph_22 : decode cX3_linesOfParagraph 22 = .ok (.iconst 1, 1) := by decide +kernel
theorem dX3_linesOfParagraph_23 : decode cX3_linesOfParagraph 23 = .ok (.goto 4, 3) := by decide +kernel
theorem dX3_linesOfParagraph_26 : decode cX3_linesOfParagraph 26 = .ok (.iconst 0, 1) := by decide +kernel
theorem dX3_linesOfParagraph_27 : decode cX3_linesOfParagraph 27 = .ok (.iadd, 1) := by decide +kernel
theorem dX3_linesOfParagraph_28 : decode cX3_linesOfParagraph 28 = .ok (.istore_n 2, 1) := by decide +kernel
theorem dX3_linesOfParagraph_29 : decode cX3_linesOfParagraph 29 = .ok (.iinc 3 1, 3) := by decide +kernel
theorem dX3_linesOfParagraph_32 : decode cX3_linesOfParagraph 32 = .ok (.goto (-28), 3) := by decide +kernel
theorem dX3_linesOfParagraph_35 : decode cX3_linesOfParagraph 35 = .ok (.iload_n 2, 1) := by decide +kernel
theorem dX3_linesOfParagraph_36 : decode cX3_linesOfParagraph 36 = .ok (.ireturn, 1) := by decide +kernel
theorem dX3_columnsOfLine_0 : decode cX3_columnsOfLine 0 = .ok (.aload_n 0, 1) := by decide +kernel
theorem dX3_columnsOfLine_1 : decode cX3_columnsOfLine 1 = .ok (.getfield 40, 3) := by decide +kernel
theorem dX3_columnsOfLine_4 : decode cX3_columnsOfLine 4 = .ok (.invokevirtual 80, 3) := by decide +kernel
theorem dX3_columnsOfLine_7 : decode cX3_columnsOfLine 7 = .ok (.astore_n 2, 1) := by decide +kernel
theorem dX3_columnsOfLine_8 : decode cX3_columnsOfLine 8 = .ok (.aload_n 0, 1) := by decide +kernel
theorem dX3_columnsOfLine_9 : decode cX3_columnsOfLine 9 = .ok (.iload_n 1, 1) := by decide +kernel
theorem dX3_columnsOfLine_10 : decode cX3_columnsOfLine 10 = .ok (.invokevirtual 141, 3) := by decide +kernel
theorem dX3_columnsOfLine_13 : decode cX3_columnsOfLine 13 = .ok (.istore_n 3, 1) := by decide +kernel
theorem dX3_columnsOfLine_14 : decode cX3_columnsOfLine 14 = .ok (.aload_n 0, 1) := by decide +kernel
theorem dX3_columnsOfLine_15 : decode cX3_columnsOfLine 15 = .ok (.iload_n 1, 1) := by decide +kernel
theorem dX3_columnsOfLine_16 : decode cX3_columnsOfLine 16 = .ok (.iconst 1, 1) := by decide +kernel
theorem dX3_columnsOfLine_17 : decode cX3_columnsOfLine 17 = .ok (.iadd, 1) := by decide +kernel
theorem dX3_columnsOfLine_18 : decode cX3_columnsOfLine 18 = .ok (.invokevirtual 141, 3) := by decide +kernel
theorem dX3_columnsOfLine_21 : decode cX3_columnsOfLine 21 = .ok (.iconst 1, 1) := by decide +kernel
theorem dX3_columnsOfLine_22 : decode cX3_columnsOfLine 22 = .ok (.isub, 1) := by decide +kernel
theorem dX3_columnsOfLine_23 : decode cX3_columnsOfLine 23 = .ok (.istore 4, 2) := by decide +kernel
theorem dX3_columnsOfLine_25 : decode cX3_columnsOfLine 25 = .ok (.aload_n 0, 1) := by decide +kernel
theorem dX3_columnsOfLine_26 : decode cX3_columnsOfLine 26 = .ok (.iload_n 1, 1) := by decide +kernel
theorem dX3_columnsOfLine_27 : decode cX3_columnsOfLine 27 = .ok (.invokevirtual 144, 3) := by decide +kernel
theorem dX3_columnsOfLine_30 : decode cX3_columnsOfLine 30 = .ok (.aload_n 2, 1) := by decide +kernel
theorem dX3_columnsOfLine_31 : decode cX3_columnsOfLine 31 = .ok (.iload 4, 2) := by decide +kernel
theorem dX3_columnsOfLine_33 : decode cX3_columnsOfLine 33 = .ok (.invokevirtual 147, 3) := by decide +kernel
theorem dX3_columnsOfLine_36 : decode cX3_columnsOfLine 36 = .ok (.iadd, 1) := by decide +kernel
theorem dX3_columnsOfLine_37 : decode cX3_columnsOfLine 37 = .ok (.aload_n 2, 1) := by decide +kernel
theorem dX3_columnsOfLine_38 : decode cX3_columnsOfLine 38 = .ok (.iload_n 3, 1) := by decide +kernel
theorem dX3_columnsOfLine_39 : decode cX3_columnsOfLine 39 = .ok (.invokevirtual 150, 3) := by decide +kernel
theorem dX3_columnsOfLine_42 : decode cX3_columnsOfLine 42 = .ok (.isub, 1) := by decide +kernel
theorem dX3_columnsOfLine_43 : decode cX3_columnsOfLine 43 = .ok (.ireturn, 1) := by decide +kernel
theorem dX3_rowsOfNotes_0 : decode cX3_rowsOfNotes 0 = .ok (.iload_n 1, 1) := by decide +kernel
theorem dX3_rowsOfNotes_1 : decode cX3_rowsOfNotes 1 = .ok (.ifCond .eq 11, 3) := by decide +kernel
theorem dX3_rowsOfNotes_4 : decode cX3_rowsOfNotes 4 = .ok (.aload_n 0, 1) := by decide +kernel
theorem dX3_rowsOfNotes_5 : decode cX3_rowsOfNotes 5 = .ok (.iconst 4, 1) := by decide +kernel
theorem dX3_rowsOfNotes_6 : decode cX3_rowsOfNotes 6 = .ok (.invokevirtual 126, 3) := by decide +kernel
theorem dX3_rowsOfNotes_9 : decode cX3_rowsOfNotes 9 = .ok (.ifCond .ne 5, 3) := by decide +kernel
theorem dX3_rowsOfNotes_12 : decode cX3_rowsOfNotes 12 = .ok (.iconst 0, 1) := by decide +kernel
theorem dX3_rowsOfNotes_13 : decode cX3_rowsOfNotes 13 = .ok (.ireturn, 1) := by decide +kernel
theorem dX3_rowsOfNotes_14 : decode cX3_rowsOfNotes 14 = .ok (.iconst 0, 1) := by decide +kernel
theorem dX3_rowsOfNotes_15 : decode cX3_rowsOfNotes 15 = .ok (.istore_n 2, 1) := by decide +kernel
theorem dX3_rowsOfNotes_16 : decode cX3_rowsOfNotes 16 = .ok (.iconst 0, 1) := by decide +kernel
theorem dX3_rowsOfNotes_17 : decode cX3_rowsOfNotes 17 = .ok (.istore_n 3, 1) := by decide +kernel
theorem dX3_rowsOfNotes_18 : decode cX3_rowsOfNotes 18 = .ok (.iload_n 3, 1) := by decide +kernel
theorem dX3_rowsOfNotes_19 : decode cX3_rowsOfNotes 19 = .ok (.bipush 10, 2) := by decide +kernel
theorem dX3_rowsOfNotes_21 : decode cX3_rowsOfNotes 21 = .ok (.if_icmp .ge 31, 3) := by decide +kernel
theorem dX3_rowsOfNotes_24 : decode cX3_rowsOfNotes 24 = .ok (.iload_n 2, 1) := by decide +kernel
theorem dX3_rowsOfNotes_25 : decode cX3_rowsOfNotes 25 = .ok (.iload_n 1, 1) := by decide +kernel
theorem dX3_rowsOfNotes_26 : decode cX3_rowsOfNotes 26 = .ok (.iload_n 3, 1) := by decide +kernel
theorem dX3_rowsOfNotes_27 : decode cX3_rowsOfNotes 27 = .ok (.ishr, 1) := by decide +kernel
theorem dX3_rowsOfNotes_28 : decode cX3_rowsOfNotes 28 = .ok (.iconst 1, 1) := by decide +kernel
theorem dX3_rowsOfNotes_29 : decode cX3_rowsOfNotes 29 = .ok (.iand, 1) := by decide +kernel
theorem dX3_rowsOfNotes_30 : decode cX3_rowsOfNotes 30 = .ok (.iconst 1, 1) := by decide +kernel
theorem dX3_rowsOfNotes_31 : decode cX3_rowsOfNotes 31 = .ok (.if_icmp .ne 12, 3) := by decide +kernel
theorem dX3_rowsOfNotes_34 : decode cX3_rowsOfNotes 34 = .ok (.aload_n 0, 1) := by decide +kernel
theorem dX3_rowsOfNotes_35 : decode cX3_rowsOfNotes 35 = .ok (.getfield 9, 3) := by decide +kernel
theorem dX3_rowsOfNotes_38 : decode cX3_rowsOfNotes 38 = .ok (.iload_n 3, 1) := by decide +kernel
theorem dX3_rowsOfNotes_39 : decode cX3_rowsOfNotes 39 = .ok (.iaload, 1) := by decide +kernel
theorem dX3_rowsOfNotes_40 : decode cX3_rowsOfNotes 40 = .ok (.goto 4, 3) := by decide +kernel
theorem dX3_rowsOfNotes_43 : decode cX3_rowsOfNotes 43 = .ok (.iconst 0, 1) := by decide +kernel
theorem dX3_rowsOfNotes_44 : decode cX3_rowsOfNotes 44 = .ok (.iadd, 1) := by decide +kernel
theorem dX3_rowsOfNotes_45 : decode cX3_rowsOfNotes 45 = .ok (.istore_n 2, 1) := by decide +kernel
theorem dX3_rowsOfNotes_46 : decode cX3_rowsOfNotes 46 = .ok (.iinc 3 1, 3) := by decide +kernel
theorem dX3_rowsOfNotes_49 : decode cX3_rowsOfNotes 49 = .ok (.goto (-31), 3) := by decide +kernel
theorem dX3_rowsOfNotes_52 : decode cX3_rowsOfNotes 52 = .ok (.iload_n 2, 1) := by decide +kernel
theorem dX3_rowsOfNotes_53 : decode cX3_rowsOfNotes 53 = .ok (.ifCond .le 9, 3) := by decide +kernel
theorem dX3_rowsOfNotes_56 : decode cX3_rowsOfNotes 56 = .ok (.iload_n 2, 1) := by decide +kernel
theorem dX3_rowsOfNotes_57 : decode cX3_rowsOfNotes 57 = .ok (.iconst 1, 1) := by decide +kernel
theorem dX3_rowsOfNotes_58 : decode cX3_rowsOfNotes 58 = .ok (.iadd, 1) := by decide +kernel
theorem dX3_rowsOfNotes_59 : decode cX3_rowsOfNotes 59 = .ok (.goto 4, 3) := by decide +kernel
theorem dX3_rowsOfNotes_62 : decode cX3_rowsOfNotes 62 = .ok (.iconst 0, 1) := by decide +kernel
theorem dX3_rowsOfNotes_63 : decode cX3_rowsOfNotes 63 = .ok (.ireturn, 1) := by decide +kernel
theorem dX3_breakFrom_0 : decode cX3_breakFrom 0 = .ok (.iload_n 1, 1) := by decide +kernel
theorem dX3_breakFrom_1 : decode cX3_breakFrom 1 = .ok (.iconst 1, 1) := by decide +kernel
theorem dX3_breakFrom_2 : decode cX3_breakFrom 2 = .ok (.iadd, 1) := by decide +kernel
theorem dX3_breakFrom_3 : decode cX3_breakFrom 3 = .ok (.istore_n 2, 1) := by decide +kernel
theorem dX3_breakFrom_4 : decode cX3_breakFrom 4 = .ok (.iconst 1, 1) := by decide +kernel
theorem dX3_breakFrom_5 : decode cX3_breakFrom 5 = .ok (.istore_n 3, 1) := by decide +kernel
theorem dX3_breakFrom_6 : decode cX3_breakFrom 6 = .ok (.aload_n 0, 1) := by decide +kernel
theorem dX3_breakFrom_7 : decode cX3_breakFrom 7 = .ok (.iload_n 1, 1) := by decide +kernel
theorem dX3_breakFrom_8 : decode cX3_breakFrom 8 = .ok (.invokevirtual 153, 3) := by decide +kernel
theorem dX3_breakFrom_11 : decode cX3_breakFrom 11 = .ok (.istore 4, 2) := by decide +kernel
theorem dX3_breakFrom_13 : decode cX3_breakFrom 13 = .ok (.iload_n 1, 1) := by decide +kernel
theorem dX3_breakFrom_14 : decode cX3_breakFrom 14 = .ok (.iconst 1, 1) := by decide +kernel
theorem dX3_breakFrom_15 : decode cX3_breakFrom 15 = .ok (.iadd, 1) := by decide +kernel
theorem dX3_breakFrom_16 : decode cX3_breakFrom 16 = .ok (.istore 5, 2) := by decide +kernel
theorem dX3_breakFrom_18 : decode cX3_breakFrom 18 = .ok (.iload 5, 2) := by decide +kernel
theorem dX3_breakFrom_20 : decode cX3_breakFrom 20 = .ok (.aload_n 0, 1) := by decide +kernel
theorem dX3_breakFrom_21 : decode cX3_breakFrom 21 = .ok (.getfield 86, 3) := by decide +kernel
theorem dX3_breakFrom_24 : decode cX3_breakFrom 24 = .ok (.if_icmp .ge 54, 3) := by decide +kernel
theorem dX3_breakFrom_27 : decode cX3_breakFrom 27 = .ok (.iload_n 3, 1) := by decide +kernel
theorem dX3_breakFrom_28 : decode cX3_breakFrom 28 = .ok (.aload_n 0, 1) := by decide +kernel
theorem dX3_breakFrom_29 : decode cX3_breakFrom 29 = .ok (.iload 5, 2) := by decide +kernel
theorem dX3_breakFrom_31 : decode cX3_breakFrom 31 = .ok (.invokevirtual 156, 3) := by decide +kernel
theorem dX3_breakFrom_34 : decode cX3_breakFrom 34 = .ok (.iconst 1, 1) := by decide +kernel
theorem dX3_breakFrom_35 : decode cX3_breakFrom 35 = .ok (.iadd, 1) := by decide +kernel
theorem dX3_breakFrom_36 : decode cX3_breakFrom 36 = .ok (.iadd, 1) := by decide +kernel
theorem dX3_breakFrom_37 : decode cX3_breakFrom 37 = .ok (.istore_n 3, 1) := by decide +kernel
theorem dX3_breakFrom_38 : decode cX3_breakFrom 38 = .ok (.iload 4, 2) := by decide +kernel
theorem dX3_breakFrom_40 : decode cX3_breakFrom 40 = .ok (.aload_n 0, 1) := by decide +kernel
theorem dX3_breakFrom_41 : decode cX3_breakFrom 41 = .ok (.iload 5, 2) := by decide +kernel
theorem dX3_breakFrom_43 : decode cX3_breakFrom 43 = .ok (.invokevirtual 153, 3) := by decide +kernel
theorem dX3_breakFrom_46 : decode cX3_breakFrom 46 = .ok (.ior, 1) := by decide +kernel
theorem dX3_breakFrom_47 : decode cX3_breakFrom 47 = .ok (.istore 4, 2) := by decide +kernel
theorem dX3_breakFrom_49 : decode cX3_breakFrom 49 = .ok (.iload_n 3, 1) := by decide +kernel
theorem dX3_breakFrom_50 : decode cX3_breakFrom 50 = .ok (.aload_n 0, 1) := by decide +kernel
theorem dX3_breakFrom_51 : decode cX3_breakFrom 51 = .ok (.iload 4, 2) := by decide +kernel
theorem dX3_breakFrom_53 : decode cX3_breakFrom 53 = .ok (.invokevirtual 159, 3) := by decide +kernel
theorem dX3_breakFrom_56 : decode cX3_breakFrom 56 = .ok (.iadd, 1) := by decide +kernel
theorem dX3_breakFrom_57 : decode cX3_breakFrom 57 = .ok (.aload_n 0, 1) := by decide +kernel
theorem dX3_breakFrom_58 : decode cX3_breakFrom 58 = .ok (.getfield 55, 3) := by decide +kernel
theorem dX3_breakFrom_61 : decode cX3_breakFrom 61 = .ok (.if_icmp .le 6, 3) := by decide +kernel
theorem dX3_breakFrom_64 : decode cX3_breakFrom 64 = .ok (.goto 14, 3) := by decide +kernel
theorem dX3_breakFrom_67 : decode cX3_breakFrom 67 = .ok (.iload 5, 2) := by decide +kernel
theorem dX3_breakFrom_69 : decode cX3_breakFrom 69 = .ok (.iconst 1, 1) := by decide +kernel
theorem dX3_breakFrom_70 : decode cX3_breakFrom 70 = .ok (.iadd, 1) := by decide +kernel
theorem dX3_breakFrom_71 : decode cX3_breakFrom 71 = .ok (.istore_n 2, 1) := by decide +kernel
theorem dX3_breakFrom_72 : decode cX3_breakFrom 72 = .ok (.iinc 5 1, 3) := by decide +kernel
theorem dX3_breakFrom_75 : decode cX3_breakFrom 75 = .ok (.goto (-57), 3) := by decide +kernel
theorem dX3_breakFrom_78 : decode cX3_breakFrom 78 = .ok (.aload_n 0, 1) := by decide +kernel
theorem dX3_breakFrom_79 : decode cX3_breakFrom 79 = .ok (.iconst 3, 1) := by decide +kernel
theorem dX3_breakFrom_80 : decode cX3_breakFrom 80 = .ok (.invokevirtual 126, 3) := by decide +kernel
theorem dX3_breakFrom_83 : decode cX3_breakFrom 83 = .ok (.iconst 1, 1) := by decide +kernel
theorem dX3_breakFrom_84 : decode cX3_breakFrom 84 = .ok (.if_icmp .ne 20, 3) := by decide +kernel
theorem dX3_breakFrom_87 : decode cX3_breakFrom 87 = .ok (.iload_n 2, 1) := by decide +kernel
theorem dX3_breakFrom_88 : decode cX3_breakFrom 88 = .ok (.aload_n 0, 1) := by decide +kernel
theorem dX3_breakFrom_89 : decode cX3_breakFrom 89 = .ok (.getfield 86, 3) := by decide +kernel
theorem dX3_breakFrom_92 : decode cX3_breakFrom 92 = .ok (.if_icmp .ge 12, 3) := by decide +kernel
theorem dX3_breakFrom_95 : decode cX3_breakFrom 95 = .ok (.aload_n 0, 1) := by decide +kernel
theorem dX3_breakFrom_96 : decode cX3_breakFrom 96 = .ok (.iload_n 1, 1) := by decide +kernel
theorem dX3_breakFrom_97 : decode cX3_breakFrom 97 = .ok (.iload_n 2, 1) := by decide +kernel
theorem dX3_breakFrom_98 : decode cX3_breakFrom 98 = .ok (.invokevirtual 162, 3) := by decide +kernel
theorem dX3_breakFrom_101 : decode cX3_breakFrom 101 = .ok (.goto 4, 3) := by decide +kernel
theorem dX3_breakFrom_104 : decode cX3_breakFrom 104 = .ok (.iload_n 2, 1) := by decide +kernel
theorem dX3_breakFrom_105 : decode cX3_breakFrom 105 = .ok (.ireturn, 1) := by decide +kernel
theorem dX3_keptBreak_0 : decode cX3_keptBreak 0 = .ok (.iload_n 2, 1) := by decide +kernel
theorem dX3_keptBreak_1 : decode cX3_keptBreak 1 = .ok (.istore_n 3, 1) := by decide +kernel
theorem dX3_keptBreak_2 : decode cX3_keptBreak 2 = .ok (.iload_n 3, 1) := by decide +kernel
theorem dX3_keptBreak_3 : decode cX3_keptBreak 3 = .ok (.iload_n 1, 1) := by decide +kernel
theorem dX3_keptBreak_4 : decode cX3_keptBreak 4 = .ok (.if_icmp .le 19, 3) := by decide +kernel
theorem dX3_keptBreak_7 : decode cX3_keptBreak 7 = .ok (.aload_n 0, 1) := by decide +kernel
theorem dX3_keptBreak_8 : decode cX3_keptBreak 8 = .ok (.iload_n 3, 1) := by decide +kernel
theorem dX3_keptBreak_9 : decode cX3_keptBreak 9 = .ok (.invokevirtual 165, 3) := by decide +kernel
theorem dX3_keptBreak_12 : decode cX3_keptBreak 12 = .ok (.ifCond .eq 5, 3) := by decide +kernel
theorem dX3_keptBreak_15 : decode cX3_keptBreak 15 = .ok (.iload_n 3, 1) := by decide +kernel
theorem dX3_keptBreak_16 : decode cX3_keptBreak 16 = .ok (.ireturn, 1) := by decide +kernel
theorem dX3_keptBreak_17 : decode cX3_keptBreak 17 = .ok (.iinc 3 (-1), 3) := by decide +kernel
theorem dX3_keptBreak_20 : decode cX3_keptBreak 20 = .ok (.goto (-18), 3) := by decide +kernel
theorem dX3_keptBreak_23 : decode cX3_keptBreak 23 = .ok (.iload_n 2, 1) := by decide +kernel
theorem dX3_keptBreak_24 : decode cX3_keptBreak 24 = .ok (.ireturn, 1) := by decide +kernel
theorem dX3_farthestBefore_0 : decode cX3_farthestBefore 0 = .ok (.iconst 0, 1) := by decide +kernel
theorem dX3_farthestBefore_1 : decode cX3_farthestBefore 1 = .ok (.iload_n 1, 1) := by decide +kernel
theorem dX3_farthestBefore_2 : decode cX3_farthestBefore 2 = .ok (.aload_n 0, 1) := by decide +kernel
theorem dX3_farthestBefore_3 : decode cX3_farthestBefore 3 = .ok (.getfield 55, 3) := by decide +kernel
theorem dX3_farthestBefore_6 : decode cX3_farthestBefore 6 = .ok (.isub, 1) := by decide +kernel
theorem dX3_farthestBefore_7 : decode cX3_farthestBefore 7 = .ok (.invokestatic 168, 3) := by decide +kernel
theorem dX3_farthestBefore_10 : decode cX3_farthestBefore 10 = .ok (.istore_n 2, 1) := by decide +kernel
theorem dX3_farthestBefore_11 : decode cX3_farthestBefore 11 = .ok (.iload_n 2, 1) := by decide +kernel
theorem dX3_farthestBefore_12 : decode cX3_farthestBefore 12 = .ok (.iload_n 1, 1) := by decide +kernel
theorem dX3_farthestBefore_13 : decode cX3_farthestBefore 13 = .ok (.if_icmp .ge 20, 3) := by decide +kernel
theorem dX3_farthestBefore_16 : decode cX3_farthestBefore 16 = .ok (.aload_n 0, 1) := by decide +kernel
theorem dX3_farthestBefore_17 : decode cX3_farthestBefore 17 = .ok (.iload_n 2, 1) := by decide +kernel
theorem dX3_farthestBefore_18 : decode cX3_farthestBefore 18 = .ok (.invokevirtual 138, 3) := by decide +kernel
theorem dX3_farthestBefore_21 : decode cX3_farthestBefore 21 = .ok (.iload_n 1, 1) := by decide +kernel
theorem dX3_farthestBefore_22 : decode cX3_farthestBefore 22 = .ok (.if_icmp .ne 5, 3) := by decide +kernel
theorem dX3_farthestBefore_25 : decode cX3_farthestBefore 25 = .ok (.iload_n 2, 1) := by decide +kernel
theorem dX3_farthestBefore_26 : decode cX3_farthestBefore 26 = .ok (.ireturn, 1) := by decide +kernel
theorem dX3_farthestBefore_27 : decode cX3_farthestBefore 27 = .ok (.iinc 2 1, 3) := by decide +kernel
theorem dX3_farthestBefore_30 : decode cX3_farthestBefore 30 = .ok (.goto (-19), 3) := by decide +kernel
theorem dX3_farthestBefore_33 : decode cX3_farthestBefore 33 = .ok (.iconst (-1), 1) := by decide +kernel
theorem dX3_farthestBefore_34 : decode cX3_farthestBefore 34 = .ok (.ireturn, 1) := by decide +kernel
theorem dX3_rowsBetween_0 : decode cX3_rowsBetween 0 = .ok (.iload_n 2, 1) := by decide +kernel
theorem dX3_rowsBetween_1 : decode cX3_rowsBetween 1 = .ok (.iload_n 1, 1) := by decide +kernel
theorem dX3_rowsBetween_2 : decode cX3_rowsBetween 2 = .ok (.isub, 1) := by decide +kernel
theorem dX3_rowsBetween_3 : decode cX3_rowsBetween 3 = .ok (.istore_n 3, 1) := by decide +kernel
theorem dX3_rowsBetween_4 : decode cX3_rowsBetween 4 = .ok (.iload_n 1, 1) := by decide +kernel
theorem dX3_rowsBetween_5 : decode cX3_rowsBetween 5 = .ok (.iconst 1, 1) := by decide +kernel
theorem dX3_rowsBetween_6 : decode cX3_rowsBetween 6 = .ok (.iadd, 1) := by decide +kernel
theorem dX3_rowsBetween_7 : decode cX3_rowsBetween 7 = .ok (.istore 4, 2) := by decide +kernel
theorem dX3_rowsBetween_9 : decode cX3_rowsBetween 9 = .ok (.iload 4, 2) := by decide +kernel
theorem dX3_rowsBetween_11 : decode cX3_rowsBetween 11 = .ok (.iload_n 2, 1) := by decide +kernel
theorem dX3_rowsBetween_12 : decode cX3_rowsBetween 12 = .ok (.if_icmp .ge 18, 3) := by decide +kernel
theorem dX3_rowsBetween_15 : decode cX3_rowsBetween 15 = .ok (.iload_n 3, 1) := by decide +kernel
theorem dX3_rowsBetween_16 : decode cX3_rowsBetween 16 = .ok (.aload_n 0, 1) := by decide +kernel
theorem dX3_rowsBetween_17 : decode cX3_rowsBetween 17 = .ok (.iload 4, 2) := by decide +kernel
theorem dX3_rowsBetween_19 : decode cX3_rowsBetween 19 = .ok (.invokevirtual 156, 3) := by decide +kernel
theorem dX3_rowsBetween_22 : decode cX3_rowsBetween 22 = .ok (.iadd, 1) := by decide +kernel
theorem dX3_rowsBetween_23 : decode cX3_rowsBetween 23 = .ok (.istore_n 3, 1) := by decide +kernel
theorem dX3_rowsBetween_24 : decode cX3_rowsBetween 24 = .ok (.iinc 4 1, 3) := by decide +kernel
theorem dX3_rowsBetween_27 : decode cX3_rowsBetween 27 = .ok (.goto (-18), 3) := by decide +kernel
theorem dX3_rowsBetween_30 : decode cX3_rowsBetween 30 = .ok (.iload_n 3, 1) := by decide +kernel
theorem dX3_rowsBetween_31 : decode cX3_rowsBetween 31 = .ok (.ireturn, 1) := by decide +kernel
theorem dX3_rowOfLine_0 : decode cX3_rowOfLine 0 = .ok (.aload_n 0, 1) := by decide +kernel
theorem dX3_rowOfLine_1 : decode cX3_rowOfLine 1 = .ok (.aload_n 0, 1) := by decide +kernel
theorem dX3_rowOfLine_2 : decode cX3_rowOfLine 2 = .ok (.aload_n 0, 1) := by decide +kernel
theorem dX3_rowOfLine_3 : decode cX3_rowOfLine 3 = .ok (.iload_n 1, 1) := by decide +kernel
theorem dX3_rowOfLine_4 : decode cX3_rowOfLine 4 = .ok (.invokevirtual 173, 3) := by decide +kernel
theorem dX3_rowOfLine_7 : decode cX3_rowOfLine 7 = .ok (.invokevirtual 176, 3) := by decide +kernel
theorem dX3_rowOfLine_10 : decode cX3_rowOfLine 10 = .ok (.iload_n 1, 1) := by decide +kernel
theorem dX3_rowOfLine_11 : decode cX3_rowOfLine 11 = .ok (.iconst 1, 1) := by decide +kernel
theorem dX3_rowOfLine_12 : decode cX3_rowOfLine 12 = .ok (.iadd, 1) := by decide +kernel
theorem dX3_rowOfLine_13 : decode cX3_rowOfLine 13 = .ok (.invokevirtual 179, 3) := by decide +kernel
theorem dX3_rowOfLine_16 : decode cX3_rowOfLine 16 = .ok (.iconst 1, 1) := by decide +kernel
theorem dX3_rowOfLine_17 : decode cX3_rowOfLine 17 = .ok (.isub, 1) := by decide +kernel
theorem dX3_rowOfLine_18 : decode cX3_rowOfLine 18 = .ok (.ireturn, 1) := by decide +kernel
theorem dX3_rowsOfPage_0 : decode cX3_rowsOfPage 0 = .ok (.aload_n 0, 1) := by decide +kernel
theorem dX3_rowsOfPage_1 : decode cX3_rowsOfPage 1 = .ok (.aload_n 0, 1) := by decide +kernel
theorem dX3_rowsOfPage_2 : decode cX3_rowsOfPage 2 = .ok (.iload_n 1, 1) := by decide +kernel
theorem dX3_rowsOfPage_3 : decode cX3_rowsOfPage 3 = .ok (.invokevirtual 176, 3) := by decide +kernel
theorem dX3_rowsOfPage_6 : decode cX3_rowsOfPage 6 = .ok (.aload_n 0, 1) := by decide +kernel
theorem dX3_rowsOfPage_7 : decode cX3_rowsOfPage 7 = .ok (.iload_n 1, 1) := by decide +kernel
theorem dX3_rowsOfPage_8 : decode cX3_rowsOfPage 8 = .ok (.iconst 1, 1) := by decide +kernel
theorem dX3_rowsOfPage_9 : decode cX3_rowsOfPage 9 = .ok (.iadd, 1) := by decide +kernel
theorem dX3_rowsOfPage_10 : decode cX3_rowsOfPage 10 = .ok (.invokevirtual 176, 3) := by decide +kernel
theorem dX3_rowsOfPage_13 : decode cX3_rowsOfPage 13 = .ok (.invokevirtual 179, 3) := by decide +kernel
theorem dX3_rowsOfPage_16 : decode cX3_rowsOfPage 16 = .ok (.ireturn, 1) := by decide +kernel
theorem dX3_notesOfPage_0 : decode cX3_notesOfPage 0 = .ok (.iconst 0, 1) := by decide +kernel
theorem dX3_notesOfPage_1 : decode cX3_notesOfPage 1 = .ok (.istore_n 2, 1) := by decide +kernel
theorem dX3_notesOfPage_2 : decode cX3_notesOfPage 2 = .ok (.aload_n 0, 1) := by decide +kernel
theorem dX3_notesOfPage_3 : decode cX3_notesOfPage 3 = .ok (.iload_n 1, 1) := by decide +kernel
theorem dX3_notesOfPage_4 : decode cX3_notesOfPage 4 = .ok (.iconst 1, 1) := by decide +kernel
theorem dX3_notesOfPage_5 : decode cX3_notesOfPage 5 = .ok (.iadd, 1) := by decide +kernel
theorem dX3_notesOfPage_6 : decode cX3_notesOfPage 6 = .ok (.invokevirtual 176, 3) := by decide +kernel
theorem dX3_notesOfPage_9 : decode cX3_notesOfPage 9 = .ok (.istore_n 3, 1) := by decide +kernel
theorem dX3_notesOfPage_10 : decode cX3_notesOfPage 10 = .ok (.aload_n 0, 1) := by decide +kernel
theorem dX3_notesOfPage_11 : decode cX3_notesOfPage 11 = .ok (.iload_n 1, 1) := by decide +kernel
theorem dX3_notesOfPage_12 : decode cX3_notesOfPage 12 = .ok (.invokevirtual 176, 3) := by decide +kernel
theorem dX3_notesOfPage_15 : decode cX3_notesOfPage 15 = .ok (.istore 4, 2) := by decide +kernel
theorem dX3_notesOfPage_17 : decode cX3_notesOfPage 17 = .ok (.iload 4, 2) := by decide +kernel
theorem dX3_notesOfPage_19 : decode cX3_notesOfPage 19 = .ok (.iload_n 3, 1) := by decide +kernel
theorem dX3_notesOfPage_20 : decode cX3_notesOfPage 20 = .ok (.if_icmp .ge 18, 3) := by decide +kernel
theorem dX3_notesOfPage_23 : decode cX3_notesOfPage 23 = .ok (.iload_n 2, 1) := by decide +kernel
theorem dX3_notesOfPage_24 : decode cX3_notesOfPage 24 = .ok (.aload_n 0, 1) := by decide +kernel
theorem dX3_notesOfPage_25 : decode cX3_notesOfPage 25 = .ok (.iload 4, 2) := by decide +kernel
theorem dX3_notesOfPage_27 : decode cX3_notesOfPage 27 = .ok (.invokevirtual 153, 3) := by decide +kernel
theorem dX3_notesOfPage_30 : decode cX3_notesOfPage 30 = .ok (.ior, 1) := by decide +kernel
theorem dX3_notesOfPage_31 : decode cX3_notesOfPage 31 = .ok (.istore_n 2, 1) := by decide +kernel
theorem dX3_notesOfPage_32 : decode cX3_notesOfPage 32 = .ok (.iinc 4 1, 3) := by decide +kernel
theorem dX3_notesOfPage_35 : decode cX3_notesOfPage 35 = .ok (.goto (-18), 3) := by decide +kernel
theorem dX3_notesOfPage_38 : decode cX3_notesOfPage 38 = .ok (.iload_n 2, 1) := by decide +kernel
theorem dX3_notesOfPage_39 : decode cX3_notesOfPage 39 = .ok (.ireturn, 1) := by decide +kernel
theorem dX3_noteRowsOfPage_0 : decode cX3_noteRowsOfPage 0 = .ok (.aload_n 0, 1) := by decide +kernel
theorem dX3_noteRowsOfPage_1 : decode cX3_noteRowsOfPage 1 = .ok (.aload_n 0, 1) := by decide +kernel
theorem dX3_noteRowsOfPage_2 : decode cX3_noteRowsOfPage 2 = .ok (.iload_n 1, 1) := by decide +kernel
theorem dX3_noteRowsOfPage_3 : decode cX3_noteRowsOfPage 3 = .ok (.invokevirtual 182, 3) := by decide +kernel
theorem dX3_noteRowsOfPage_6 : decode cX3_noteRowsOfPage 6 = .ok (.invokevirtual 159, 3) := by decide +kernel
theorem dX3_noteRowsOfPage_9 : decode cX3_noteRowsOfPage 9 = .ok (.ireturn, 1) := by decide +kernel
theorem dX3_noteOnPage_0 : decode cX3_noteOnPage 0 = .ok (.aload_n 0, 1) := by decide +kernel
theorem dX3_noteOnPage_1 : decode cX3_noteOnPage 1 = .ok (.iload_n 1, 1) := by decide +kernel
theorem dX3_noteOnPage_2 : decode cX3_noteOnPage 2 = .ok (.invokevirtual 182, 3) := by decide +kernel
theorem dX3_noteOnPage_5 : decode cX3_noteOnPage 5 = .ok (.istore_n 3, 1) := by decide +kernel
theorem dX3_noteOnPage_6 : decode cX3_noteOnPage 6 = .ok (.iload_n 2, 1) := by decide +kernel
theorem dX3_noteOnPage_7 : decode cX3_noteOnPage 7 = .ok (.istore 4, 2) := by decide +kernel
theorem dX3_noteOnPage_9 : decode cX3_noteOnPage 9 = .ok (.iconst 0, 1) := by decide +kernel
theorem dX3_noteOnPage_10 : decode cX3_noteOnPage 10 = .ok (.istore 5, 2) := by decide +kernel
theorem dX3_noteOnPage_12 : decode cX3_noteOnPage 12 = .ok (.iload 5, 2) := by decide +kernel
theorem dX3_noteOnPage_14 : decode cX3_noteOnPage 14 = .ok (.bipush 10, 2) := by decide +kernel
theorem dX3_noteOnPage_16 : decode cX3_noteOnPage 16 = .ok (.if_icmp .ge 30, 3) := by decide +kernel
theorem dX3_noteOnPage_19 : decode cX3_noteOnPage 19 = .ok (.iload_n 3, 1) := by decide +kernel
theorem dX3_noteOnPage_20 : decode cX3_noteOnPage 20 = .ok (.iload 5, 2) := by decide +kernel
theorem dX3_noteOnPage_22 : decode cX3_noteOnPage 22 = .ok (.ishr, 1) := by decide +kernel
theorem dX3_noteOnPage_23 : decode cX3_noteOnPage 23 = .ok (.iconst 1, 1) := by decide +kernel
theorem dX3_noteOnPage_24 : decode cX3_noteOnPage 24 = .ok (.iand, 1) := by decide +kernel
theorem dX3_noteOnPage_25 : decode cX3_noteOnPage 25 = .ok (.iconst 1, 1) := by decide +kernel
theorem dX3_noteOnPage_26 : decode cX3_noteOnPage 26 = .ok (.if_icmp .ne 14, 3) := by decide +kernel
theorem dX3_noteOnPage_29 : decode cX3_noteOnPage 29 = .ok (.iload 4, 2) := by decide +kernel
theorem dX3_noteOnPage_31 : decode cX3_noteOnPage 31 = .ok (.ifCond .ne 6, 3) := by decide +kernel
theorem dX3_noteOnPage_34 : decode cX3_noteOnPage 34 = .ok (.iload 5, 2) := by decide +kernel
theorem dX3_noteOnPage_36 : decode cX3_noteOnPage 36 = .ok (.ireturn, 1) := by decide +kernel
theorem dX3_noteOnPage_37 : decode cX3_noteOnPage 37 = .ok (.iinc 4 (-1), 3) := by decide +kernel
theorem dX3_noteOnPage_40 : decode cX3_noteOnPage 40 = .ok (.iinc 5 1, 3) := by decide +kernel
theorem dX3_noteOnPage_43 : decode cX3_noteOnPage 43 = .ok (.goto (-31), 3) := by decide +kernel
theorem dX3_noteOnPage_46 : decode cX3_noteOnPage 46 = .ok (.iconst (-1), 1) := by decide +kernel
theorem dX3_noteOnPage_47 : decode cX3_noteOnPage 47 = .ok (.ireturn, 1) := by decide +kernel
theorem dX3_placeOfPage_0 : decode cX3_placeOfPage 0 = .ok (.aload_n 0, 1) := by decide +kernel
theorem dX3_placeOfPage_1 : decode cX3_placeOfPage 1 = .ok (.getfield 40, 3) := by decide +kernel
theorem dX3_placeOfPage_4 : decode cX3_placeOfPage 4 = .ok (.invokevirtual 80, 3) := by decide +kernel
theorem dX3_placeOfPage_7 : decode cX3_placeOfPage 7 = .ok (.aload_n 0, 1) := by decide +kernel
theorem dX3_placeOfPage_8 : decode cX3_placeOfPage 8 = .ok (.aload_n 0, 1) := by decide +kernel
theorem dX3_placeOfPage_9 : decode cX3_placeOfPage 9 = .ok (.iload_n 1, 1) := by decide +kernel
theorem dX3_placeOfPage_10 : decode cX3_placeOfPage 10 = .ok (.invokevirtual 176, 3) := by decide +kernel
theorem dX3_placeOfPage_13 : decode cX3_placeOfPage 13 = .ok (.invokevirtual 141, 3) := by decide +kernel
theorem dX3_placeOfPage_16 : decode cX3_placeOfPage 16 = .ok (.invokevirtual 150, 3) := by decide +kernel
theorem dX3_placeOfPage_19 : decode cX3_placeOfPage 19 = .ok (.ireturn, 1) := by decide +kernel
theorem dX3_pageAt_0 : decode cX3_pageAt 0 = .ok (.aload_n 0, 1) := by decide +kernel
theorem dX3_pageAt_1 : decode cX3_pageAt 1 = .ok (.getfield 86, 3) := by decide +kernel
theorem dX3_pageAt_4 : decode cX3_pageAt 4 = .ok (.iconst 1, 1) := by decide +kernel
theorem dX3_pageAt_5 : decode cX3_pageAt 5 = .ok (.isub, 1) := by decide +kernel
theorem dX3_pageAt_6 : decode cX3_pageAt 6 = .ok (.istore_n 2, 1) := by decide +kernel
theorem dX3_pageAt_7 : decode cX3_pageAt 7 = .ok (.iload_n 2, 1) := by decide +kernel
theorem dX3_pageAt_8 : decode cX3_pageAt 8 = .ok (.ifCond .le 28, 3) := by decide +kernel
theorem dX3_pageAt_11 : decode cX3_pageAt 11 = .ok (.aload_n 0, 1) := by decide +kernel
theorem dX3_pageAt_12 : decode cX3_pageAt 12 = .ok (.getfield 40, 3) := by decide +kernel
theorem dX3_pageAt_15 : decode cX3_pageAt 15 = .ok (.invokevirtual 80, 3) := by decide +kernel
theorem dX3_pageAt_18 : decode cX3_pageAt 18 = .ok (.aload_n 0, 1) := by decide +kernel
theorem dX3_pageAt_19 : decode cX3_pageAt 19 = .ok (.iload_n 2, 1) := by decide +kernel
theorem dX3_pageAt_20 : decode cX3_pageAt 20 = .ok (.invokevirtual 141, 3) := by decide +kernel
theorem dX3_pageAt_23 : decode cX3_pageAt 23 = .ok (.invokevirtual 150, 3) := by decide +kernel
theorem dX3_pageAt_26 : decode cX3_pageAt 26 = .ok (.iload_n 1, 1) := by decide +kernel
theorem dX3_pageAt_27 : decode cX3_pageAt 27 = .ok (.if_icmp .le 9, 3) := by decide +kernel
theorem dX3_pageAt_30 : decode cX3_pageAt 30 = .ok (.iinc 2 (-1), 3) := by decide +kernel
theorem dX3_pageAt_33 : decode cX3_pageAt 33 = .ok (.goto (-26), 3) := by decide +kernel
theorem dX3_pageAt_36 : decode cX3_pageAt 36 = .ok (.aload_n 0, 1) := by decide +kernel
theorem dX3_pageAt_37 : decode cX3_pageAt 37 = .ok (.iload_n 2, 1) := by decide +kernel
theorem dX3_pageAt_38 : decode cX3_pageAt 38 = .ok (.invokevirtual 173, 3) := by decide +kernel
theorem dX3_pageAt_41 : decode cX3_pageAt 41 = .ok (.ireturn, 1) := by decide +kernel
theorem dX3_signAt_0 : decode cX3_signAt 0 = .ok (.aload_n 0, 1) := by decide +kernel
theorem dX3_signAt_1 : decode cX3_signAt 1 = .ok (.iload_n 1, 1) := by decide +kernel
theorem dX3_signAt_2 : decode cX3_signAt 2 = .ok (.iconst 1, 1) := by decide +kernel
theorem dX3_signAt_3 : decode cX3_signAt 3 = .ok (.iadd, 1) := by decide +kernel
theorem dX3_signAt_4 : decode cX3_signAt 4 = .ok (.invokevirtual 176, 3) := by decide +kernel
theorem dX3_signAt_7 : decode cX3_signAt 7 = .ok (.istore 4, 2) := by decide +kernel
theorem dX3_signAt_9 : decode cX3_signAt 9 = .ok (.iconst 0, 1) := by decide +kernel
theorem dX3_signAt_10 : decode cX3_signAt 10 = .ok (.istore 5, 2) := by decide +kernel
theorem dX3_signAt_12 : decode cX3_signAt 12 = .ok (.aload_n 0, 1) := by decide +kernel
theorem dX3_signAt_13 : decode cX3_signAt 13 = .ok (.iload_n 1, 1) := by decide +kernel
theorem dX3_signAt_14 : decode cX3_signAt 14 = .ok (.invokevirtual 176, 3) := by decide +kernel
theorem dX3_signAt_17 : decode cX3_signAt 17 = .ok (.istore 6, 2) := by decide +kernel
theorem dX3_signAt_19 : decode cX3_signAt 19 = .ok (.iload 6, 2) := by decide +kernel
theorem dX3_signAt_21 : decode cX3_signAt 21 = .ok (.iload 4, 2) := by decide +kernel
theorem dX3_signAt_23 : decode cX3_signAt 23 = .ok (.if_icmp .ge 79, 3) := by decide +kernel
theorem dX3_signAt_26 : decode cX3_signAt 26 = .ok (.iload 5, 2) := by decide +kernel
theorem dX3_signAt_28 : decode cX3_signAt 28 = .ok (.iload 6, 2) := by decide +kernel
theorem dX3_signAt_30 : decode cX3_signAt 30 = .ok (.aload_n 0, 1) := by decide +kernel
theorem dX3_signAt_31 : decode cX3_signAt 31 = .ok (.iload_n 1, 1) := by decide +kernel
theorem dX3_signAt_32 : decode cX3_signAt 32 = .ok (.invokevirtual 176, 3) := by decide +kernel
theorem dX3_signAt_35 : decode cX3_signAt 35 = .ok (.if_icmp .le 12, 3) := by decide +kernel
theorem dX3_signAt_38 : decode cX3_signAt 38 = .ok (.aload_n 0, 1) := by decide +kernel
theorem dX3_signAt_39 : decode cX3_signAt 39 = .ok (.iload 6, 2) := by decide +kernel
theorem dX3_signAt_41 : decode cX3_signAt 41 = .ok (.invokevirtual 156, 3) := by decide +kernel
theorem dX3_signAt_44 : decode cX3_signAt 44 = .ok (.goto 4, 3) := by decide +kernel
theorem dX3_signAt_47 : decode cX3_signAt 47 = .ok (.iconst 0, 1) := by decide +kernel
theorem dX3_signAt_48 : decode cX3_signAt 48 = .ok (.iadd, 1) := by decide +kernel
theorem dX3_signAt_49 : decode cX3_signAt 49 = .ok (.istore 5, 2) := by decide +kernel
theorem dX3_signAt_51 : decode cX3_signAt 51 = .ok (.iload 5, 2) := by decide +kernel
theorem dX3_signAt_53 : decode cX3_signAt 53 = .ok (.iload_n 2, 1) := by decide +kernel
theorem dX3_signAt_54 : decode cX3_signAt 54 = .ok (.if_icmp .ne 39, 3) := by decide +kernel
theorem dX3_signAt_57 : decode cX3_signAt 57 = .ok (.aload_n 0, 1) := by decide +kernel
theorem dX3_signAt_58 : decode cX3_signAt 58 = .ok (.iload 6, 2) := by decide +kernel
theorem dX3_signAt_60 : decode cX3_signAt 60 = .ok (.iconst 1, 1) := by decide +kernel
theorem dX3_signAt_61 : decode cX3_signAt 61 = .ok (.iadd, 1) := by decide +kernel
theorem dX3_signAt_62 : decode cX3_signAt 62 = .ok (.invokevirtual 141, 3) := by decide +kernel
theorem dX3_signAt_65 : decode cX3_signAt 65 = .ok (.istore 7, 2) := by decide +kernel
theorem dX3_signAt_67 : decode cX3_signAt 67 = .ok (.aload_n 0, 1) := by decide +kernel
theorem dX3_signAt_68 : decode cX3_signAt 68 = .ok (.getfield 40, 3) := by decide +kernel
theorem dX3_signAt_71 : decode cX3_signAt 71 = .ok (.invokevirtual 80, 3) := by decide +kernel
theorem dX3_signAt_74 : decode cX3_signAt 74 = .ok (.aload_n 0, 1) := by decide +kernel
theorem dX3_signAt_75 : decode cX3_signAt 75 = .ok (.iload 6, 2) := by decide +kernel
theorem dX3_signAt_77 : decode cX3_signAt 77 = .ok (.invokevirtual 141, 3) := by decide +kernel
theorem dX3_signAt_80 : decode cX3_signAt 80 = .ok (.iload 7, 2) := by decide +kernel
theorem dX3_signAt_82 : decode cX3_signAt 82 = .ok (.aload_n 0, 1) := by decide +kernel
theorem dX3_signAt_83 : decode cX3_signAt 83 = .ok (.iload 6, 2) := by decide +kernel
theorem dX3_signAt_85 : decode cX3_signAt 85 = .ok (.invokevirtual 144, 3) := by decide +kernel
theorem dX3_signAt_88 : decode cX3_signAt 88 = .ok (.iload_n 3, 1) := by decide +kernel
theorem dX3_signAt_89 : decode cX3_signAt 89 = .ok (.invokevirtual 185, 3) := by decide +kernel
theorem dX3_signAt_92 : decode cX3_signAt 92 = .ok (.ireturn, 1) := by decide +kernel
theorem dX3_signAt_93 : decode cX3_signAt 93 = .ok (.iinc 5 1, 3) := by decide +kernel
theorem dX3_signAt_96 : decode cX3_signAt 96 = .ok (.iinc 6 1, 3) := by decide +kernel
theorem dX3_signAt_99 : decode cX3_signAt 99 = .ok (.goto (-80), 3) := by decide +kernel
theorem dX3_signAt_102 : decode cX3_signAt 102 = .ok (.aload_n 0, 1) := by decide +kernel
theorem dX3_signAt_103 : decode cX3_signAt 103 = .ok (.iload_n 1, 1) := by decide +kernel
theorem dX3_signAt_104 : decode cX3_signAt 104 = .ok (.invokevirtual 182, 3) := by decide +kernel
theorem dX3_signAt_107 : decode cX3_signAt 107 = .ok (.istore 6, 2) := by decide +kernel
theorem dX3_signAt_109 : decode cX3_signAt 109 = .ok (.iload_n 2, 1) := by decide +kernel
theorem dX3_signAt_110 : decode cX3_signAt 110 = .ok (.iload 5, 2) := by decide +kernel
theorem dX3_signAt_112 : decode cX3_signAt 112 = .ok (.aload_n 0, 1) := by decide +kernel
theorem dX3_signAt_113 : decode cX3_signAt 113 = .ok (.getfield 55, 3) := by decide +kernel
theorem dX3_signAt_116 : decode cX3_signAt 116 = .ok (.aload_n 0, 1) := by decide +kernel
theorem dX3_signAt_117 : decode cX3_signAt 117 = .ok (.iload 6, 2) := by decide +kernel
theorem dX3_signAt_119 : decode cX3_signAt 119 = .ok (.invokevirtual 159, 3) := by decide +kernel
theorem dX3_signAt_122 : decode cX3_signAt 122 = .ok (.isub, 1) := by decide +kernel
theorem dX3_signAt_123 : decode cX3_signAt 123 = .ok (.invokestatic 168, 3) := by decide +kernel
theorem dX3_signAt_126 : decode cX3_signAt 126 = .ok (.isub, 1) := by decide +kernel
theorem dX3_signAt_127 : decode cX3_signAt 127 = .ok (.istore 7, 2) := by decide +kernel
theorem dX3_signAt_129 : decode cX3_signAt 129 = .ok (.iload 7, 2) := by decide +kernel
theorem dX3_signAt_131 : decode cX3_signAt 131 = .ok (.ifCond .ge 8, 3) := by decide +kernel
theorem dX3_signAt_134 : decode cX3_signAt 134 = .ok (.bipush 32, 2) := by decide +kernel
theorem dX3_signAt_136 : decode cX3_signAt 136 = .ok (.goto 12, 3) := by decide +kernel
theorem dX3_signAt_139 : decode cX3_signAt 139 = .ok (.aload_n 0, 1) := by decide +kernel
theorem dX3_signAt_140 : decode cX3_signAt 140 = .ok (.iload 6, 2) := by decide +kernel
theorem dX3_signAt_142 : decode cX3_signAt 142 = .ok (.iload 7, 2) := by decide +kernel
theorem dX3_signAt_144 : decode cX3_signAt 144 = .ok (.iload_n 3, 1) := by decide +kernel
theorem dX3_signAt_145 : decode cX3_signAt 145 = .ok (.invokevirtual 189, 3) := by decide +kernel
theorem dX3_signAt_148 : decode cX3_signAt 148 = .ok (.ireturn, 1) := by decide +kernel
theorem dX3_signOfNotes_0 : decode cX3_signOfNotes 0 = .ok (.iload_n 2, 1) := by decide +kernel
theorem dX3_signOfNotes_1 : decode cX3_signOfNotes 1 = .ok (.ifCond .ne 6, 3) := by decide +kernel
theorem dX3_signOfNotes_4 : decode cX3_signOfNotes 4 = .ok (.bipush 45, 2) := by decide +kernel
theorem dX3_signOfNotes_6 : decode cX3_signOfNotes 6 = .ok (.ireturn, 1) := by decide +kernel
theorem dX3_signOfNotes_7 : decode cX3_signOfNotes 7 = .ok (.iload_n 2, 1) := by decide +kernel
theorem dX3_signOfNotes_8 : decode cX3_signOfNotes 8 = .ok (.iconst 1, 1) := by decide +kernel
theorem dX3_signOfNotes_9 : decode cX3_signOfNotes 9 = .ok (.isub, 1) := by decide +kernel
theorem dX3_signOfNotes_10 : decode cX3_signOfNotes 10 = .ok (.istore 4, 2) := by decide +kernel
theorem dX3_signOfNotes_12 : decode cX3_signOfNotes 12 = .ok (.iconst 0, 1) := by decide +kernel
theorem dX3_signOfNotes_13 : decode cX3_signOfNotes 13 = .ok (.istore 5, 2) := by decide +kernel
theorem dX3_signOfNotes_15 : decode cX3_signOfNotes 15 = .ok (.iload 5, 2) := by decide +kernel
theorem dX3_signOfNotes_17 : decode cX3_signOfNotes 17 = .ok (.bipush 10, 2) := by decide +kernel
theorem dX3_signOfNotes_19 : decode cX3_signOfNotes 19 = .ok (.if_icmp .ge 96, 3) := by decide +kernel
theorem dX3_signOfNotes_22 : decode cX3_signOfNotes 22 = .ok (.iload_n 1, 1) := by decide +kernel
theorem dX3_signOfNotes_23 : decode cX3_signOfNotes 23 = .ok (.iload 5, 2) := by decide +kernel
theorem dX3_signOfNotes_25 : decode cX3_signOfNotes 25 = .ok (.ishr, 1) := by decide +kernel
theorem dX3_signOfNotes_26 : decode cX3_signOfNotes 26 = .ok (.iconst 1, 1) := by decide +kernel
theorem dX3_signOfNotes_27 : decode cX3_signOfNotes 27 = .ok (.iand, 1) := by decide +kernel
theorem dX3_signOfNotes_28 : decode cX3_signOfNotes 28 = .ok (.iconst 1, 1) := by decide +kernel
theorem dX3_signOfNotes_29 : decode cX3_signOfNotes 29 = .ok (.if_icmp .ne 12, 3) := by decide +kernel
theorem dX3_signOfNotes_32 : decode cX3_signOfNotes 32 = .ok (.aload_n 0, 1) := by decide +kernel
theorem dX3_signOfNotes_33 : decode cX3_signOfNotes 33 = .ok (.iload 5, 2) := by decide +kernel
theorem dX3_signOfNotes_35 : decode cX3_signOfNotes 35 = .ok (.invokevirtual 70, 3) := by decide +kernel
theorem dX3_signOfNotes_38 : decode cX3_signOfNotes 38 = .ok (.goto 4, 3) := by decide +kernel
theorem dX3_signOfNotes_41 : decode cX3_signOfNotes 41 = .ok (.aconst_null, 1) := by decide +kernel
theorem dX3_signOfNotes_42 : decode cX3_signOfNotes 42 = .ok (.astore 6, 2) := by decide +kernel
theorem dX3_signOfNotes_44 : decode cX3_signOfNotes 44 = .ok (.aload 6, 2) := by decide +kernel
theorem dX3_signOfNotes_46 : decode cX3_signOfNotes 46 = .ok (.ifnull 63, 3) := by decide +kernel
theorem dX3_signOfNotes_49 : decode cX3_signOfNotes 49 = .ok (.iload 4, 2) := by decide +kernel
theorem dX3_signOfNotes_51 : decode cX3_signOfNotes 51 = .ok (.aload_n 0, 1) := by decide +kernel
theorem dX3_signOfNotes_52 : decode cX3_signOfNotes 52 = .ok (.getfield 9, 3) := by decide +kernel
theorem dX3_signOfNotes_55 : decode cX3_signOfNotes 55 = .ok (.iload 5, 2) := by decide +kernel
theorem dX3_signOfNotes_57 : decode cX3_signOfNotes 57 = .ok (.iaload, 1) := by decide +kernel
theorem dX3_signOfNotes_58 : decode cX3_signOfNotes 58 = .ok (.if_icmp .ge 39, 3) := by decide +kernel
theorem dX3_signOfNotes_61 : decode cX3_signOfNotes 61 = .ok (.aload 6, 2) := by decide +kernel
theorem dX3_signOfNotes_63 : decode cX3_signOfNotes 63 = .ok (.iload 4, 2) := by decide +kernel
theorem dX3_signOfNotes_65 : decode cX3_signOfNotes 65 = .ok (.iconst 1, 1) := by decide +kernel
theorem dX3_signOfNotes_66 : decode cX3_signOfNotes 66 = .ok (.iadd, 1) := by decide +kernel
theorem dX3_signOfNotes_67 : decode cX3_signOfNotes 67 = .ok (.aload_n 0, 1) := by decide +kernel
theorem dX3_signOfNotes_68 : decode cX3_signOfNotes 68 = .ok (.getfield 51, 3) := by decide +kernel
theorem dX3_signOfNotes_71 : decode cX3_signOfNotes 71 = .ok (.invokevirtual 192, 3) := by decide +kernel
theorem dX3_signOfNotes_74 : decode cX3_signOfNotes 74 = .ok (.istore 7, 2) := by decide +kernel
theorem dX3_signOfNotes_76 : decode cX3_signOfNotes 76 = .ok (.aload 6, 2) := by decide +kernel
theorem dX3_signOfNotes_78 : decode cX3_signOfNotes 78 = .ok (.aload 6, 2) := by decide +kernel
theorem dX3_signOfNotes_80 : decode cX3_signOfNotes 80 = .ok (.iload 4, 2) := by decide +kernel
theorem dX3_signOfNotes_82 : decode cX3_signOfNotes 82 = .ok (.aload_n 0, 1) := by decide +kernel
theorem dX3_signOfNotes_83 : decode cX3_signOfNotes 83 = .ok (.getfield 51, 3) := by decide +kernel
theorem dX3_signOfNotes_86 : decode cX3_signOfNotes 86 = .ok (.invokevirtual 192, 3) := by decide +kernel
theorem dX3_signOfNotes_89 : decode cX3_signOfNotes 89 = .ok (.iload 7, 2) := by decide +kernel
theorem dX3_signOfNotes_91 : decode cX3_signOfNotes 91 = .ok (.iconst 0, 1) := by decide +kernel
theorem dX3_signOfNotes_92 : decode cX3_signOfNotes 92 = .ok (.iload_n 3, 1) := by decide +kernel
theorem dX3_signOfNotes_93 : decode cX3_signOfNotes 93 = .ok (.invokevirtual 185, 3) := by decide +kernel
theorem dX3_signOfNotes_96 : decode cX3_signOfNotes 96 = .ok (.ireturn, 1) := by decide +kernel
theorem dX3_signOfNotes_97 : decode cX3_signOfNotes 97 = .ok (.iload 4, 2) := by decide +kernel
theorem dX3_signOfNotes_99 : decode cX3_signOfNotes 99 = .ok (.aload_n 0, 1) := by decide +kernel
theorem dX3_signOfNotes_100 : decode cX3_signOfNotes 100 = .ok (.getfield 9, 3) := by decide +kernel
theorem dX3_signOfNotes_103 : decode cX3_signOfNotes 103 = .ok (.iload 5, 2) := by decide +kernel
theorem dX3_signOfNotes_105 : decode cX3_signOfNotes 105 = .ok (.iaload, 1) := by decide +kernel
theorem dX3_signOfNotes_106 : decode cX3_signOfNotes 106 = .ok (.isub, 1) := by decide +kernel
theorem dX3_signOfNotes_107 : decode cX3_signOfNotes 107 = .ok (.istore 4, 2) := by decide +kernel
theorem dX3_signOfNotes_109 : decode cX3_signOfNotes 109 = .ok (.iinc 5 1, 3) := by decide +kernel
theorem dX3_signOfNotes_112 : decode cX3_signOfNotes 112 = .ok (.goto (-97), 3) := by decide +kernel
theorem dX3_signOfNotes_115 : decode cX3_signOfNotes 115 = .ok (.bipush 32, 2) := by decide +kernel
theorem dX3_signOfNotes_117 : decode cX3_signOfNotes 117 = .ok (.ireturn, 1) := by decide +kernel
theorem dX4_init_0 : decode cX4_init 0 = .ok (.aload_n 0, 1) := by decide +kernel
theorem dX4_init_1 : decode cX4_init 1 = .ok (.invokespecial 3, 3) := by decide +kernel
theorem dX4_init_4 : decode cX4_init 4 = .ok (.aload_n 0, 1) := by decide +kernel
theorem dX4_init_5 : decode cX4_init 5 = .ok (.iconst 5, 1) := by decide +kernel
theorem dX4_init_6 : decode cX4_init 6 = .ok (.newarray .int, 2) := by decide +kernel
theorem dX4_init_8 : decode cX4_init 8 = .ok (.putfield 9, 3) := by decide +kernel
theorem dX4_init_11 : decode cX4_init 11 = .ok (.aload_n 0, 1) := by decide +kernel
theorem dX4_init_12 : decode cX4_init 12 = .ok (.bipush 12, 2) := by decide +kernel
theorem dX4_init_14 : decode cX4_init 14 = .ok (.newarray .int, 2) := by decide +kernel
theorem dX4_init_16 : decode cX4_init 16 = .ok (.putfield 15, 3) := by decide +kernel
theorem dX4_init_19 : decode cX4_init 19 = .ok (.aload_n 0, 1) := by decide +kernel
theorem dX4_init_20 : decode cX4_init 20 = .ok (.bipush 12, 2) := by decide +kernel
theorem dX4_init_22 : decode cX4_init 22 = .ok (.newarray .int, 2) := by decide +kernel
theorem dX4_init_24 : decode cX4_init 24 = .ok (.putfield 18, 3) := by decide +kernel
theorem dX4_init_27 : decode cX4_init 27 = .ok (.aload_n 0, 1) := by decide +kernel
theorem dX4_init_28 : decode cX4_init 28 = .ok (.bipush 12, 2) := by decide +kernel
theorem dX4_init_30 : decode cX4_init 30 = .ok (.newarray .int, 2) := by decide +kernel
theorem dX4_init_32 : decode cX4_init 32 = .ok (.putfield 21, 3) := by decide +kernel
theorem dX4_init_35 : decode cX4_init 35 = .ok (.return_, 1) := by decide +kernel
theorem dX4_reset_0 : decode cX4_reset 0 = .ok (.aload_n 0, 1) := by decide +kernel
theorem dX4_reset_1 : decode cX4_reset 1 = .ok (.iconst 0, 1) := by decide +kernel
theorem dX4_reset_2 : decode cX4_reset 2 = .ok (.putfield 24, 3) := by decide +kernel
theorem dX4_reset_5 : decode cX4_reset 5 = .ok (.aload_n 0, 1) := by decide +kernel
theorem dX4_reset_6 : decode cX4_reset 6 = .ok (.iconst 0, 1) := by decide +kernel
theorem dX4_reset_7 : decode cX4_reset 7 = .ok (.putfield 28, 3) := by decide +kernel
theorem dX4_reset_10 : decode cX4_reset 10 = .ok (.aload_n 0, 1) := by decide +kernel
theorem dX4_reset_11 : decode cX4_reset 11 = .ok (.iconst 0, 1) := by decide +kernel
theorem dX4_reset_12 : decode cX4_reset 12 = .ok (.putfield 31, 3) := by decide +kernel
theorem dX4_reset_15 : decode cX4_reset 15 = .ok (.return_, 1) := by decide +kernel
theorem dX4_copy_0 : decode cX4_copy 0 = .ok (.aload_n 0, 1) := by decide +kernel
theorem dX4_copy_1 : decode cX4_copy 1 = .ok (.aload_n 1, 1) := by decide +kernel
theorem dX4_copy_2 : decode cX4_copy 2 = .ok (.getfield 24, 3) := by decide +kernel
theorem dX4_copy_5 : decode cX4_copy 5 = .ok (.putfield 24, 3) := by decide +kernel
theorem dX4_copy_8 : decode cX4_copy 8 = .ok (.aload_n 0, 1) := by decide +kernel
theorem dX4_copy_9 : decode cX4_copy 9 = .ok (.aload_n 1, 1) := by decide +kernel
theorem dX4_copy_10 : decode cX4_copy 10 = .ok (.getfield 28, 3) := by decide +kernel
theorem dX4_copy_13 : decode cX4_copy 13 = .ok (.putfield 28, 3) := by decide +kernel
theorem dX4_copy_16 : decode cX4_copy 16 = .ok (.aload_n 1, 1) := by decide +kernel
theorem dX4_copy_17 : decode cX4_copy 17 = .ok (.getfield 9, 3) := by decide +kernel
theorem dX4_copy_20 : decode cX4_copy 20 = .ok (.iconst 0, 1) := by decide +kernel
theorem dX4_copy_21 : decode cX4_copy 21 = .ok (.aload_n 0, 1) := by decide +kernel
theorem dX4_copy_22 : decode cX4_copy 22 = .ok (.getfield 9, 3) := by decide +kernel
theorem dX4_copy_25 : decode cX4_copy 25 = .ok (.iconst 0, 1) := by decide +kernel
theorem dX4_copy_26 : decode cX4_copy 26 = .ok (.iconst 5, 1) := by decide +kernel
theorem dX4_copy_27 : decode cX4_copy 27 = .ok (.invokestatic 34, 3) := by decide +kernel
theorem dX4_copy_30 : decode cX4_copy 30 = .ok (.aload_n 0, 1) := by decide +kernel
theorem dX4_copy_31 : decode cX4_copy 31 = .ok (.aload_n 1, 1) := by decide +kernel
theorem dX4_copy_32 : decode cX4_copy 32 = .ok (.getfield 31, 3) := by decide +kernel
theorem dX4_copy_35 : decode cX4_copy 35 = .ok (.putfield 31, 3) := by decide +kernel
theorem dX4_copy_38 : decode cX4_copy 38 = .ok (.aload_n 1, 1) := by decide +kernel
theorem dX4_copy_39 : decode cX4_copy 39 = .ok (.getfield 15, 3) := by decide +kernel
theorem dX4_copy_42 : decode cX4_copy 42 = .ok (.iconst 0, 1) := by decide +kernel
theorem dX4_copy_43 : decode cX4_copy 43 = .ok (.aload_n 0, 1) := by decide +kernel
theorem dX4_copy_44 : decode cX4_copy 44 = .ok (.getfield 15, 3) := by decide +kernel
theorem dX4_copy_47 : decode cX4_copy 47 = .ok (.iconst 0, 1) := by decide +kernel
theorem dX4_copy_48 : decode cX4_copy 48 = .ok (.bipush 12, 2) := by decide +kernel
theorem dX4_copy_50 : decode cX4_copy 50 = .ok (.invokestatic 34, 3) := by decide +kernel
theorem dX4_copy_53 : decode cX4_copy 53 = .ok (.aload_n 1, 1) := by decide +kernel
theorem dX4_copy_54 : decode cX4_copy 54 = .ok (.getfield 18, 3) := by decide +kernel
theorem dX4_copy_57 : decode cX4_copy 57 = .ok (.iconst 0, 1) := by decide +kernel
theorem dX4_copy_58 : decode cX4_copy 58 = .ok (.aload_n 0, 1) := by decide +kernel
theorem dX4_copy_59 : decode cX4_copy 59 = .ok (.getfield 18, 3) := by decide +kernel
theorem dX4_copy_62 : decode cX4_copy 62 = .ok (.iconst 0, 1) := by decide +kernel
theorem dX4_copy_63 : decode cX4_copy 63 = .ok (.bipush 12, 2) := by decide +kernel
theorem dX4_copy_65 : decode cX4_copy 65 = .ok (.invokestatic 34, 3) := by decide +kernel
theorem dX4_copy_68 : decode cX4_copy 68 = .ok (.aload_n 1, 1) := by decide +kernel
theorem dX4_copy_69 : decode cX4_copy 69 = .ok (.getfield 21, 3) := by decide +kernel
theorem dX4_copy_72 : decode cX4_copy 72 = .ok (.iconst 0, 1) := by decide +kernel
theorem dX4_copy_73 : decode cX4_copy 73 = .ok (.aload_n 0, 1) := by decide +kernel
theorem dX4_copy_74 : decode cX4_copy 74 = .ok (.getfield 21, 3) := by decide +kernel
theorem dX4_copy_77 : decode cX4_copy 77 = .ok (.iconst 0, 1) := by decide +kernel
theorem dX4_copy_78 : decode cX4_copy 78 = .ok (.bipush 12, 2) := by decide +kernel
theorem dX4_copy_80 : decode cX4_copy 80 = .ok (.invokestatic 34, 3) := by decide +kernel
theorem dX4_copy_83 : decode cX4_copy 83 = .ok (.return_, 1) := by decide +kernel
theorem dX4_reader_0 : decode cX4_reader 0 = .ok (.aload_n 0, 1) := by decide +kernel
theorem dX4_reader_1 : decode cX4_reader 1 = .ok (.getfield 24, 3) := by decide +kernel
theorem dX4_reader_4 : decode cX4_reader 4 = .ok (.ireturn, 1) := by decide +kernel
theorem dX4_setReader_0 : decode cX4_setReader 0 = .ok (.aload_n 0, 1) := by decide +kernel
theorem dX4_setReader_1 : decode cX4_setReader 1 = .ok (.iload_n 1, 1) := by decide +kernel
theorem dX4_setReader_2 : decode cX4_setReader 2 = .ok (.putfield 24, 3) := by decide +kernel
theorem dX4_setReader_5 : decode cX4_setReader 5 = .ok (.return_, 1) := by decide +kernel
theorem dX4_jumps_0 : decode cX4_jumps 0 = .ok (.aload_n 0, 1) := by decide +kernel
theorem dX4_jumps_1 : decode cX4_jumps 1 = .ok (.getfield 28, 3) := by decide +kernel
theorem dX4_jumps_4 : decode cX4_jumps 4 = .ok (.ireturn, 1) := by decide +kernel
theorem dX4_jumpTo_0 : decode cX4_jumpTo 0 = .ok (.aload_n 0, 1) := by decide +kernel
theorem dX4_jumpTo_1 : decode cX4_jumpTo 1 = .ok (.getfield 28, 3) := by decide +kernel
theorem dX4_jumpTo_4 : decode cX4_jumpTo 4 = .ok (.iconst 5, 1) := by decide +kernel
theorem dX4_jumpTo_5 : decode cX4_jumpTo 5 = .ok (.if_icmp .lt 22, 3) := by decide +kernel
theorem dX4_jumpTo_8 : decode cX4_jumpTo 8 = .ok (.aload_n 0, 1) := by decide +kernel
theorem dX4_jumpTo_9 : decode cX4_jumpTo 9 = .ok (.getfield 9, 3) := by decide +kernel
theorem dX4_jumpTo_12 : decode cX4_jumpTo 12 = .ok (.iconst 1, 1) := by decide +kernel
theorem dX4_jumpTo_13 : decode cX4_jumpTo 13 = .ok (.aload_n 0, 1) := by decide +kernel
theorem dX4_jumpTo_14 : decode cX4_jumpTo 14 = .ok (.getfield 9, 3) := by decide +kernel
theorem dX4_jumpTo_17 : decode cX4_jumpTo 17 = .ok (.iconst 0, 1) := by decide +kernel
theorem dX4_jumpTo_18 : decode cX4_jumpTo 18 = .ok (.iconst 4, 1) := by decide +kernel
theorem dX4_jumpTo_19 : decode cX4_jumpTo 19 = .ok (.invokestatic 34, 3) := by decide +kernel
theorem dX4_jumpTo_22 : decode cX4_jumpTo 22 = .ok (.aload_n 0, 1) := by decide +kernel
theorem dX4_jumpTo_23 : decode cX4_jumpTo 23 = .ok (.iconst 4, 1) := by decide +kernel
theorem dX4_jumpTo_24 : decode cX4_jumpTo 24 = .ok (.putfield 28, 3) := by decide +kernel
theorem dX4_jumpTo_27 : decode cX4_jumpTo 27 = .ok (.aload_n 0, 1) := by decide +kernel
theorem dX4_jumpTo_28 : decode cX4_jumpTo 28 = .ok (.getfield 28, 3) := by decide +kernel
theorem dX4_jumpTo_31 : decode cX4_jumpTo 31 = .ok (.ifCond .lt 26, 3) := by decide +kernel
theorem dX4_jumpTo_34 : decode cX4_jumpTo 34 = .ok (.aload_n 0, 1) := by decide +kernel
theorem dX4_jumpTo_35 : decode cX4_jumpTo 35 = .ok (.getfield 9, 3) := by decide +kernel
theorem dX4_jumpTo_38 : decode cX4_jumpTo 38 = .ok (.aload_n 0, 1) := by decide +kernel
theorem dX4_jumpTo_39 : decode cX4_jumpTo 39 = .ok (.getfield 28, 3) := by decide +kernel
theorem dX4_jumpTo_42 : decode cX4_jumpTo 42 = .ok (.aload_n 0, 1) := by decide +kernel
theorem dX4_jumpTo_43 : decode cX4_jumpTo 43 = .ok (.getfield 24, 3) := by decide +kernel
theorem dX4_jumpTo_46 : decode cX4_jumpTo 46 = .ok (.iastore, 1) := by decide +kernel
theorem dX4_jumpTo_47 : decode cX4_jumpTo 47 = .ok (.aload_n 0, 1) := by decide +kernel
theorem dX4_jumpTo_48 : decode cX4_jumpTo 48 = .ok (.dup, 1) := by decide +kernel
theorem dX4_jumpTo_49 : decode cX4_jumpTo 49 = .ok (.getfield 28, 3) := by decide +kernel
theorem dX4_jumpTo_52 : decode cX4_jumpTo 52 = .ok (.iconst 1, 1) := by decide +kernel
theorem dX4_jumpTo_53 : decode cX4_jumpTo 53 = .ok (.iadd, 1) := by decide +kernel
theorem dX4_jumpTo_54 : decode cX4_jumpTo 54 = .ok (.putfield 28, 3) := by decide +kernel
theorem dX4_jumpTo_57 : decode cX4_jumpTo 57 = .ok (.aload_n 0, 1) := by decide +kernel
theorem dX4_jumpTo_58 : decode cX4_jumpTo 58 = .ok (.iload_n 1, 1) := by decide +kernel
theorem dX4_jumpTo_59 : decode cX4_jumpTo 59 = .ok (.putfield 24, 3) := by decide +kernel
theorem dX4_jumpTo_62 : decode cX4_jumpTo 62 = .ok (.return_, 1) := by decide +kernel
theorem dX4_jumpBack_0 : decode cX4_jumpBack 0 = .ok (.aload_n 0, 1) := by decide +kernel
theorem dX4_jumpBack_1 : decode cX4_jumpBack 1 = .ok (.getfield 28, 3) := by decide +kernel
theorem dX4_jumpBack_4 : decode cX4_jumpBack 4 = .ok (.ifCond .le 34, 3) := by decide +kernel
theorem dX4_jumpBack_7 : decode cX4_jumpBack 7 = .ok (.aload_n 0, 1) := by decide +kernel
theorem dX4_jumpBack_8 : decode cX4_jumpBack 8 = .ok (.getfield 28, 3) := by decide +kernel
theorem dX4_jumpBack_11 : decode cX4_jumpBack 11 = .ok (.iconst 5, 1) := by decide +kernel
theorem dX4_jumpBack_12 : decode cX4_jumpBack 12 = .ok (.if_icmp .gt 26, 3) := by decide +kernel
theorem dX4_jumpBack_15 : decode cX4_jumpBack 15 = .ok (.aload_n 0, 1) := by decide +kernel
theorem dX4_jumpBack_16 : decode cX4_jumpBack 16 = .ok (.dup, 1) := by decide +kernel
theorem dX4_jumpBack_17 : decode cX4_jumpBack 17 = .ok (.getfield 28, 3) := by decide +kernel
theorem dX4_jumpBack_20 : decode cX4_jumpBack 20 = .ok (.iconst 1, 1) := by decide +kernel
theorem dX4_jumpBack_21 : decode cX4_jumpBack 21 = .ok (.isub, 1) := by decide +kernel
theorem dX4_jumpBack_22 : decode cX4_jumpBack 22 = .ok (.putfield 28, 3) := by decide +kernel
theorem dX4_jumpBack_25 : decode cX4_jumpBack 25 = .ok (.aload_n 0, 1) := by decide +kernel
theorem dX4_jumpBack_26 : decode cX4_jumpBack 26 = .ok (.aload_n 0, 1) := by decide +kernel
theorem dX4_jumpBack_27 : decode cX4_jumpBack 27 = .ok (.getfield 9, 3) := by decide +kernel
theorem dX4_jumpBack_30 : decode cX4_jumpBack 30 = .ok (.aload_n 0, 1) := by decide +kernel
theorem dX4_jumpBack_31 : decode cX4_jumpBack 31 = .ok (.getfield 28, 3) := by decide +kernel
theorem dX4_jumpBack_34 : decode cX4_jumpBack 34 = .ok (.iaload, 1) := by decide +kernel
theorem dX4_jumpBack_35 : decode cX4_jumpBack 35 = .ok (.putfield 24, 3) := by decide +kernel
theorem dX4_jumpBack_38 : decode cX4_jumpBack 38 = .ok (.return_, 1) := by decide +kernel
theorem dX4_annotations_0 : decode cX4_annotations 0 = .ok (.aload_n 0, 1) := by decide +kernel
theorem dX4_annotations_1 : decode cX4_annotations 1 = .ok (.getfield 31, 3) := by decide +kernel
theorem dX4_annotations_4 : decode cX4_annotations 4 = .ok (.ireturn, 1) := by decide +kernel
theorem dX4_addAnnotation_0 : decode cX4_addAnnotation 0 = .ok (.aload_n 0, 1) := by decide +kernel
theorem dX4_addAnnotation_1 : decode cX4_addAnnotation 1 = .ok (.getfield 31, 3) := by decide +kernel
theorem dX4_addAnnotation_4 : decode cX4_addAnnotation 4 = .ok (.istore 4, 2) := by decide +kernel
theorem dX4_addAnnotation_6 : decode cX4_addAnnotation 6 = .ok (.iload 4, 2) := by decide +kernel
theorem dX4_addAnnotation_8 : decode cX4_addAnnotation 8 = .ok (.ifCond .lt 44, 3) := by decide +kernel
theorem dX4_addAnnotation_11 : decode cX4_addAnnotation 11 = .ok (.iload 4, 2) := by decide +kernel
theorem dX4_addAnnotation_13 : decode cX4_addAnnotation 13 = .ok (.bipush 12, 2) := by decide +kernel
theorem dX4_addAnnotation_15 : decode cX4_addAnnotation 15 = .ok (.if_icmp .ge 37, 3) := by decide +kernel
theorem dX4_addAnnotation_18 : decode cX4_addAnnotation 18 = .ok (.aload_n 0, 1) := by decide +kernel
theorem dX4_addAnnotation_19 : decode cX4_addAnnotation 19 = .ok (.getfield 15, 3) := by decide +kernel
theorem dX4_addAnnotation_22 : decode cX4_addAnnotation 22 = .ok (.iload 4, 2) := by decide +kernel
theorem dX4_addAnnotation_24 : decode cX4_addAnnotation 24 = .ok (.iload_n 1, 1) := by decide +kernel
theorem dX4_addAnnotation_25 : decode cX4_addAnnotation 25 = .ok (.iastore, 1) := by decide +kernel
theorem dX4_addAnnotation_26 : decode cX4_addAnnotation 26 = .ok (.aload_n 0, 1) := by decide +kernel
theorem dX4_addAnnotation_27 : decode cX4_addAnnotation 27 = .ok (.getfield 18, 3) := by decide +kernel
theorem dX4_addAnnotation_30 : decode cX4_addAnnotation 30 = .ok (.iload 4, 2) := by decide +kernel
theorem dX4_addAnnotation_32 : decode cX4_addAnnotation 32 = .ok (.iload_n 2, 1) := by decide +kernel
theorem dX4_addAnnotation_33 : decode cX4_addAnnotation 33 = .ok (.iastore, 1) := by decide +kernel
theorem dX4_addAnnotation_34 : decode cX4_addAnnotation 34 = .ok (.aload_n 0, 1) := by decide +kernel
theorem dX4_addAnnotation_35 : decode cX4_addAnnotation 35 = .ok (.getfield 21, 3) := by decide +kernel
theorem dX4_addAnnotation_38 : decode cX4_addAnnotation 38 = .ok (.iload 4, 2) := by decide +kernel
theorem dX4_addAnnotation_40 : decode cX4_addAnnotation 40 = .ok (.iload_n 3, 1) := by decide +kernel
theorem dX4_addAnnotation_41 : decode cX4_addAnnotation 41 = .ok (.iastore, 1) := by decide +kernel
theorem dX4_addAnnotation_42 : decode cX4_addAnnotation 42 = .ok (.aload_n 0, 1) := by decide +kernel
theorem dX4_addAnnotation_43 : decode cX4_addAnnotation 43 = .ok (.dup, 1) := by decide +kernel
theorem dX4_addAnnotation_44 : decode cX4_addAnnotation 44 = .ok (.getfield 31, 3) := by decide +kernel
theorem dX4_addAnnotation_47 : decode cX4_addAnnotation 47 = .ok (.iconst 1, 1) := by decide +kernel
theorem dX4_addAnnotation_48 : decode cX4_addAnnotation 48 = .ok (.iadd, 1) := by decide +kernel
theorem dX4_addAnnotation_49 : decode cX4_addAnnotation 49 = .ok (.putfield 31, 3) := by decide +kernel
theorem dX4_addAnnotation_52 : decode cX4_addAnnotation 52 = .ok (.iload 4, 2) := by decide +kernel
theorem dX4_addAnnotation_54 : decode cX4_addAnnotation 54 = .ok (.ireturn, 1) := by decide +kernel
theorem dX4_dropAnnotation_0 : decode cX4_dropAnnotation 0 = .ok (.iload_n 1, 1) := by decide +kernel
theorem dX4_dropAnnotation_1 : decode cX4_dropAnnotation 1 = .ok (.ifCond .lt 20, 3) := by decide +kernel
theorem dX4_dropAnnotation_4 : decode cX4_dropAnnotation 4 = .ok (.iload_n 1, 1) := by decide +kernel
theorem dX4_dropAnnotation_5 : decode cX4_dropAnnotation 5 = .ok (.aload_n 0, 1) := by decide +kernel
theorem dX4_dropAnnotation_6 : decode cX4_dropAnnotation 6 = .ok (.getfield 31, 3) := by decide +kernel
theorem dX4_dropAnnotation_9 : decode cX4_dropAnnotation 9 = .ok (.if_icmp .ge 12, 3) := by decide +kernel
theorem dX4_dropAnnotation_12 : decode cX4_dropAnnotation 12 = .ok (.aload_n 0, 1) := by decide +kernel
theorem dX4_dropAnnotation_13 : decode cX4_dropAnnotation 13 = .ok (.getfield 31, 3) := by decide +kernel
theorem dX4_dropAnnotation_16 : decode cX4_dropAnnotation 16 = .ok (.bipush 12, 2) := by decide +kernel
theorem dX4_dropAnnotation_18 : decode cX4_dropAnnotation 18 = .ok (.if_icmp .le 4, 3) := by decide +kernel
theorem dX4_dropAnnotation_21 : decode cX4_dropAnnotation 21 = .ok (.return_, 1) := by decide +kernel
theorem dX4_dropAnnotation_22 : decode cX4_dropAnnotation 22 = .ok (.aload_n 0, 1) := by decide +kernel
theorem dX4_dropAnnotation_23 : decode cX4_dropAnnotation 23 = .ok (.dup, 1) := by decide +kernel
theorem dX4_dropAnnotation_24 : decode cX4_dropAnnotation 24 = .ok (.getfield 31, 3) := by decide +kernel
theorem dX4_dropAnnotation_27 : decode cX4_dropAnnotation 27 = .ok (.iconst 1, 1) := by decide +kernel
theorem dX4_dropAnnotation_28 : decode cX4_dropAnnotation 28 = .ok (.isub, 1) := by decide +kernel
theorem dX4_dropAnnotation_29 : decode cX4_dropAnnotation 29 = .ok (.putfield 31, 3) := by decide +kernel
theorem dX4_dropAnnotation_32 : decode cX4_dropAnnotation 32 = .ok (.aload_n 0, 1) := by decide +kernel
theorem dX4_dropAnnotation_33 : decode cX4_dropAnnotation 33 = .ok (.getfield 31, 3) := by decide +kernel
theorem dX4_dropAnnotation_36 : decode cX4_dropAnnotation 36 = .ok (.iload_n 1, 1) := by decide +kernel
theorem dX4_dropAnnotation_37 : decode cX4_dropAnnotation 37 = .ok (.isub, 1) := by decide +kernel
theorem dX4_dropAnnotation_38 : decode cX4_dropAnnotation 38 = .ok (.istore_n 2, 1) := by decide +kernel
theorem dX4_dropAnnotation_39 : decode cX4_dropAnnotation 39 = .ok (.aload_n 0, 1) := by decide +kernel
theorem dX4_dropAnnotation_40 : decode cX4_dropAnnotation 40 = .ok (.getfield 15, 3) := by decide +kernel
theorem dX4_dropAnnotation_43 : decode cX4_dropAnnotation 43 = .ok (.iload_n 1, 1) := by decide +kernel
theorem dX4_dropAnnotation_44 : decode cX4_dropAnnotation 44 = .ok (.iconst 1, 1) := by decide +kernel
theorem dX4_dropAnnotation_45 : decode cX4_dropAnnotation 45 = .ok (.iadd, 1) := by decide +kernel
theorem dX4_dropAnnotation_46 : decode cX4_dropAnnotation 46 = .ok (.aload_n 0, 1) := by decide +kernel
theorem dX4_dropAnnotation_47 : decode cX4_dropAnnotation 47 = .ok (.getfield 15, 3) := by decide +kernel
theorem dX4_dropAnnotation_50 : decode cX4_dropAnnotation 50 = .ok (.iload_n 1, 1) := by decide +kernel
theorem dX4_dropAnnotation_51 : decode cX4_dropAnnotation 51 = .ok (.iload_n 2, 1) := by decide +kernel
theorem dX4_dropAnnotation_52 : decode cX4_dropAnnotation 52 = .ok (.invokestatic 34, 3) := by decide +kernel
theorem dX4_dropAnnotation_55 : decode cX4_dropAnnotation 55 = .ok (.aload_n 0, 1) := by decide +kernel
theorem dX4_dropAnnotation_56 : decode cX4_dropAnnotation 56 = .ok (.getfield 18, 3) := by decide +kernel
theorem dX4_dropAnnotation_59 : decode cX4_dropAnnotation 59 = .ok (.iload_n 1, 1) := by decide +kernel
theorem dX4_dropAnnotation_60 : decode cX4_dropAnnotation 60 = .ok (.iconst 1, 1) := by decide +kernel
theorem dX4_dropAnnotation_61 : decode cX4_dropAnnotation 61 = .ok (.iadd, 1) := by decide +kernel
theorem dX4_dropAnnotation_62 : decode cX4_dropAnnotation 62 = .ok (.aload_n 0, 1) := by decide +kernel
theorem dX4_dropAnnotation_63 : decode cX4_dropAnnotation 63 = .ok (.getfield 18, 3) := by decide +kernel
theorem dX4_dropAnnotation_66 : decode cX4_dropAnnotation 66 = .ok (.iload_n 1, 1) := by decide +kernel
theorem dX4_dropAnnotation_67 : decode cX4_dropAnnotation 67 = .ok (.iload_n 2, 1) := by decide +kernel
theorem dX4_dropAnnotation_68 : decode cX4_dropAnnotation 68 = .ok (.invokestatic 34, 3) := by decide +kernel
theorem dX4_dropAnnotation_71 : decode cX4_dropAnnotation 71 = .ok (.aload_n 0, 1) := by decide +kernel
theorem dX4_dropAnnotation_72 : decode cX4_dropAnnotation 72 = .ok (.getfield 21, 3) := by decide +kernel
theorem dX4_dropAnnotation_75 : decode cX4_dropAnnotation 75 = .ok (.iload_n 1, 1) := by decide +kernel
theorem dX4_dropAnnotation_76 : decode cX4_dropAnnotation 76 = .ok (.iconst 1, 1) := by decide +kernel
theorem dX4_dropAnnotation_77 : decode cX4_dropAnnotation 77 = .ok (.iadd, 1) := by decide +kernel
theorem dX4_dropAnnotation_78 : decode cX4_dropAnnotation 78 = .ok (.aload_n 0, 1) := by decide +kernel
theorem dX4_dropAnnotation_79 : decode cX4_dropAnnotation 79 = .ok (.getfield 21, 3) := by decide +kernel
theorem dX4_dropAnnotation_82 : decode cX4_dropAnnotation 82 = .ok (.iload_n 1, 1) := by decide +kernel
theorem dX4_dropAnnotation_83 : decode cX4_dropAnnotation 83 = .ok (.iload_n 2, 1) := by decide +kernel
theorem dX4_dropAnnotation_84 : decode cX4_dropAnnotation 84 = .ok (.invokestatic 34, 3) := by decide +kernel
theorem dX4_dropAnnotation_87 : decode cX4_dropAnnotation 87 = .ok (.return_, 1) := by decide +kernel
theorem dX4_exists_0 : decode cX4_exists 0 = .ok (.iload_n 1, 1) := by decide +kernel
theorem dX4_exists_1 : decode cX4_exists 1 = .ok (.ifCond .lt 21, 3) := by decide +kernel
theorem dX4_exists_4 : decode cX4_exists 4 = .ok (.iload_n 1, 1) := by decide +kernel
theorem dX4_exists_5 : decode cX4_exists 5 = .ok (.aload_n 0, 1) := by decide +kernel
theorem dX4_exists_6 : decode cX4_exists 6 = .ok (.getfield 31, 3) := by decide +kernel
theorem dX4_exists_9 : decode cX4_exists 9 = .ok (.if_icmp .ge 13, 3) := by decide +kernel
theorem dX4_exists_12 : decode cX4_exists 12 = .ok (.iload_n 1, 1) := by decide +kernel
theorem dX4_exists_13 : decode cX4_exists 13 = .ok (.bipush 12, 2) := by decide +kernel
theorem dX4_exists_15 : decode cX4_exists 15 = .ok (.if_icmp .ge 7, 3) := by decide +kernel
theorem dX4_exists_18 : decode cX4_exists 18 = .ok (.iconst 1, 1) := by decide +kernel
theorem dX4_exists_19 : decode cX4_exists 19 = .ok (.goto 4, 3) := by decide +kernel
theorem dX4_exists_22 : decode cX4_exists 22 = .ok (.iconst 0, 1) := by decide +kernel
theorem dX4_exists_23 : decode cX4_exists 23 = .ok (.ireturn, 1) := by decide +kernel
theorem dX4_fromOf_0 : decode cX4_fromOf 0 = .ok (.aload_n 0, 1) := by decide +kernel
theorem dX4_fromOf_1 : decode cX4_fromOf 1 = .ok (.iload_n 1, 1) := by decide +kernel
theorem dX4_fromOf_2 : decode cX4_fromOf 2 = .ok (.invokevirtual 40, 3) := by decide +kernel
theorem dX4_fromOf_5 : decode cX4_fromOf 5 = .ok (.ifCond .eq 12, 3) := by decide +kernel
theorem dX4_fromOf_8 : decode cX4_fromOf 8 = .ok (.aload_n 0, 1) := by decide +kernel
theorem dX4_fromOf_9 : decode cX4_fromOf 9 = .ok (.getfield 15, 3) := by decide +kernel
theorem dX4_fromOf_12 : decode cX4_fromOf 12 = .ok (.iload_n 1, 1) := by decide +kernel
theorem dX4_fromOf_13 : decode cX4_fromOf 13 = .ok (.iaload, 1) := by decide +kernel
theorem dX4_fromOf_14 : decode cX4_fromOf 14 = .ok (.goto 4, 3) := by decide +kernel
theorem dX4_fromOf_17 : decode cX4_fromOf 17 = .ok (.iconst 0, 1) := by decide +kernel
theorem dX4_fromOf_18 : decode cX4_fromOf 18 = .ok (.ireturn, 1) := by decide +kernel
theorem dX4_toOf_0 : decode cX4_toOf 0 = .ok (.aload_n 0, 1) := by decide +kernel
theorem dX4_toOf_1 : decode cX4_toOf 1 = .ok (.iload_n 1, 1) := by decide +kernel
theorem dX4_toOf_2 : decode cX4_toOf 2 = .ok (.invokevirtual 40, 3) := by decide +kernel
theorem dX4_toOf_5 : decode cX4_toOf 5 = .ok (.ifCond .eq 12, 3) := by decide +kernel
theorem dX4_toOf_8 : decode cX4_toOf 8 = .ok (.aload_n 0, 1) := by decide +kernel
theorem dX4_toOf_9 : decode cX4_toOf 9 = .ok (.getfield 18, 3) := by decide +kernel
theorem dX4_toOf_12 : decode cX4_toOf 12 = .ok (.iload_n 1, 1) := by decide +kernel
theorem dX4_toOf_13 : decode cX4_toOf 13 = .ok (.iaload, 1) := by decide +kernel
theorem dX4_toOf_14 : decode cX4_toOf 14 = .ok (.goto 4, 3) := by decide +kernel
theorem dX4_toOf_17 : decode cX4_toOf 17 = .ok (.iconst 0, 1) := by decide +kernel
theorem dX4_toOf_18 : decode cX4_toOf 18 = .ok (.ireturn, 1) := by decide +kernel
theorem dX4_colorOf_0 : decode cX4_colorOf 0 = .ok (.aload_n 0, 1) := by decide +kernel
theorem dX4_colorOf_1 : decode cX4_colorOf 1 = .ok (.iload_n 1, 1) := by decide +kernel
theorem dX4_colorOf_2 : decode cX4_colorOf 2 = .ok (.invokevirtual 40, 3) := by decide +kernel
theorem dX4_colorOf_5 : decode cX4_colorOf 5 = .ok (.ifCond .eq 12, 3) := by decide +kernel
theorem dX4_colorOf_8 : decode cX4_colorOf 8 = .ok (.aload_n 0, 1) := by decide +kernel
theorem dX4_colorOf_9 : decode cX4_colorOf 9 = .ok (.getfield 21, 3) := by decide +kernel
theorem dX4_colorOf_12 : decode cX4_colorOf 12 = .ok (.iload_n 1, 1) := by decide +kernel
theorem dX4_colorOf_13 : decode cX4_colorOf 13 = .ok (.iaload, 1) := by decide +kernel
theorem dX4_colorOf_14 : decode cX4_colorOf 14 = .ok (.goto 4, 3) := by decide +kernel
theorem dX4_colorOf_17 : decode cX4_colorOf 17 = .ok (.iconst 0, 1) := by decide +kernel
theorem dX4_colorOf_18 : decode cX4_colorOf 18 = .ok (.ireturn, 1) := by decide +kernel
theorem dX4_isLost_0 : decode cX4_isLost 0 = .ok (.aload_n 0, 1) := by decide +kernel
theorem dX4_isLost_1 : decode cX4_isLost 1 = .ok (.iload_n 1, 1) := by decide +kernel
theorem dX4_isLost_2 : decode cX4_isLost 2 = .ok (.invokevirtual 44, 3) := by decide +kernel
theorem dX4_isLost_5 : decode cX4_isLost 5 = .ok (.aload_n 0, 1) := by decide +kernel
theorem dX4_isLost_6 : decode cX4_isLost 6 = .ok (.iload_n 1, 1) := by decide +kernel
theorem dX4_isLost_7 : decode cX4_isLost 7 = .ok (.invokevirtual 48, 3) := by decide +kernel
theorem dX4_isLost_10 : decode cX4_isLost 10 = .ok (.if_icmp .ne 7, 3) := by decide +kernel
theorem dX4_isLost_13 : decode cX4_isLost 13 = .ok (.iconst 1, 1) := by decide +kernel
theorem dX4_isLost_14 : decode cX4_isLost 14 = .ok (.goto 4, 3) := by decide +kernel
theorem dX4_isLost_17 : decode cX4_isLost 17 = .ok (.iconst 0, 1) := by decide +kernel
theorem dX4_isLost_18 : decode cX4_isLost 18 = .ok (.ireturn, 1) := by decide +kernel
theorem dX4_lostAnnotations_0 : decode cX4_lostAnnotations 0 = .ok (.iconst 0, 1) := by decide +kernel
theorem dX4_lostAnnotations_1 : decode cX4_lostAnnotations 1 = .ok (.istore_n 1, 1) := by decide +kernel
theorem dX4_lostAnnotations_2 : decode cX4_lostAnnotations 2 = .ok (.iconst 0, 1) := by decide +kernel
theorem dX4_lostAnnotations_3 : decode cX4_lostAnnotations 3 = .ok (.istore_n 2, 1) := by decide +kernel
theorem dX4_lostAnnotations_4 : decode cX4_lostAnnotations 4 = .ok (.iload_n 2, 1) := by decide +kernel
theorem dX4_lostAnnotations_5 : decode cX4_lostAnnotations 5 = .ok (.aload_n 0, 1) := by decide +kernel
theorem dX4_lostAnnotations_6 : decode cX4_lostAnnotations 6 = .ok (.getfield 31, 3) := by decide +kernel
theorem dX4_lostAnnotations_9 : decode cX4_lostAnnotations 9 = .ok (.if_icmp .ge 25, 3) := by decide +kernel
theorem dX4_lostAnnotations_12 : decode cX4_lostAnnotations 12 = .ok (.iload_n 1, 1) := by decide +kernel
theorem dX4_lostAnnotations_13 : decode cX4_lostAnnotations 13 = .ok (.aload_n 0, 1) := by decide +kernel
theorem dX4_lostAnnotations_14 : decode cX4_lostAnnotations 14 = .ok (.iload_n 2, 1) := by decide +kernel
theorem dX4_lostAnnotations_15 : decode cX4_lostAnnotations 15 = .ok (.invokevirtual 51, 3) := by decide +kernel
theorem dX4_lostAnnotations_18 : decode cX4_lostAnnotations 18 = .ok (.ifCond .eq 7, 3) := by decide +kernel
theorem dX4_lostAnnotations_21 : decode cX4_lostAnnotations 21 = .ok (.iconst 1, 1) := by decide +kernel
theorem dX4_lostAnnotations_22 : decode cX4_lostAnnotations 22 = .ok (.goto 4, 3) := by decide +kernel
theorem dX4_lostAnnotations_25 : decode cX4_lostAnnotations 25 = .ok (.iconst 0, 1) := by decide +kernel
theorem dX4_lostAnnotations_26 : decode cX4_lostAnnotations 26 = .ok (.iadd, 1) := by decide +kernel
theorem dX4_lostAnnotations_27 : decode cX4_lostAnnotations 27 = .ok (.istore_n 1, 1) := by decide +kernel
theorem dX4_lostAnnotations_28 : decode cX4_lostAnnotations 28 = .ok (.iinc 2 1, 3) := by decide +kernel
theorem dX4_lostAnnotations_31 : decode cX4_lostAnnotations 31 = .ok (.goto (-27), 3) := by decide +kernel
theorem dX4_lostAnnotations_34 : decode cX4_lostAnnotations 34 = .ok (.iload_n 1, 1) := by decide +kernel
theorem dX4_lostAnnotations_35 : decode cX4_lostAnnotations 35 = .ok (.ireturn, 1) := by decide +kernel
theorem dX4_annotationsBetween_0 : decode cX4_annotationsBetween 0 = .ok (.iconst 0, 1) := by decide +kernel
theorem dX4_annotationsBetween_1 : decode cX4_annotationsBetween 1 = .ok (.istore_n 3, 1) := by decide +kernel
theorem dX4_annotationsBetween_2 : decode cX4_annotationsBetween 2 = .ok (.iconst 0, 1) := by decide +kernel
theorem dX4_annotationsBetween_3 : decode cX4_annotationsBetween 3 = .ok (.istore 4, 2) := by decide +kernel
theorem dX4_annotationsBetween_5 : decode cX4_annotationsBetween 5 = .ok (.iload 4, 2) := by decide +kernel
theorem dX4_annotationsBetween_7 : decode cX4_annotationsBetween 7 = .ok (.aload_n 0, 1) := by decide +kernel
theorem dX4_annotationsBetween_8 : decode cX4_annotationsBetween 8 = .ok (.getfield 31, 3) := by decide +kernel
theorem dX4_annotationsBetween_11 : decode cX4_annotationsBetween 11 = .ok (.if_icmp .ge 58, 3) := by decide +kernel
theorem dX4_annotationsBetween_14 : decode cX4_annotationsBetween 14 = .ok (.aload_n 0, 1) := by decide +kernel
theorem dX4_annotationsBetween_15 : decode cX4_annotationsBetween 15 = .ok (.iload 4, 2) := by decide +kernel
theorem dX4_annotationsBetween_17 : decode cX4_annotationsBetween 17 = .ok (.invokevirtual 44, 3) := by decide +kernel
theorem dX4_annotationsBetween_20 : decode cX4_annotationsBetween 20 = .ok (.iload_n 2, 1) := by decide +kernel
theorem dX4_annotationsBetween_21 : decode cX4_annotationsBetween 21 = .ok (.if_icmp .ge 17, 3) := by decide +kernel
theorem dX4_annotationsBetween_24 : decode cX4_annotationsBetween 24 = .ok (.aload_n 0, 1) := by decide +kernel
theorem dX4_annotationsBetween_25 : decode cX4_annotationsBetween 25 = .ok (.iload 4, 2) := by decide +kernel
theorem dX4_annotationsBetween_27 : decode cX4_annotationsBetween 27 = .ok (.invokevirtual 48, 3) := by decide +kernel
theorem dX4_annotationsBetween_30 : decode cX4_annotationsBetween 30 = .ok (.iload_n 1, 1) := by decide +kernel
theorem dX4_annotationsBetween_31 : decode cX4_annotationsBetween 31 = .ok (.if_icmp .le 7, 3) := by decide +kernel
theorem dX4_annotationsBetween_34 : decode cX4_annotationsBetween 34 = .ok (.iconst 1, 1) := by decide +kernel
theorem dX4_annotationsBetween_35 : decode cX4_annotationsBetween 35 = .ok (.goto 4, 3) := by decide +kernel
theorem dX4_annotationsBetween_38 : decode cX4_annotationsBetween 38 = .ok (.iconst 0, 1) := by decide +kernel
theorem dX4_annotationsBetween_39 : decode cX4_annotationsBetween 39 = .ok (.istore 5, 2) := by decide +kernel
theorem dX4_annotationsBetween_41 : decode cX4_annotationsBetween 41 = .ok (.iload_n 3, 1) := by decide +kernel
theorem dX4_annotationsBetween_42 : decode cX4_annotationsBetween 42 = .ok (.iload 5, 2) := by decide +kernel
theorem dX4_annotationsBetween_44 : decode cX4_annotationsBetween 44 = .ok (.ifCond .eq 16, 3) := by decide +kernel
theorem dX4_annotationsBetween_47 : decode cX4_annotationsBetween 47 = .ok (.aload_n 0, 1) := by decide +kernel
theorem dX4_annotationsBetween_48 : decode cX4_annotationsBetween 48 = .ok (.iload 4, 2) := by decide +kernel
theorem dX4_annotationsBetween_50 : decode cX4_annotationsBetween 50 = .ok (.invokevirtual 51, 3) := by decide +kernel
theorem dX4_annotationsBetween_53 : decode cX4_annotationsBetween 53 = .ok (.ifCond .ne 7, 3) := by decide +kernel
theorem dX4_annotationsBetween_56 : decode cX4_annotationsBetween 56 = .ok (.iconst 1, 1) := by decide +kernel
theorem dX4_annotationsBetween_57 : decode cX4_annotationsBetween 57 = .ok (.goto 4, 3) := by decide +kernel
theorem dX4_annotationsBetween_60 : decode cX4_annotationsBetween 60 = .ok (.iconst 0, 1) := by decide +kernel
theorem dX4_annotationsBetween_61 : decode cX4_annotationsBetween 61 = .ok (.iadd, 1) := by decide +kernel
theorem dX4_annotationsBetween_62 : decode cX4_annotationsBetween 62 = .ok (.istore_n 3, 1) := by decide +kernel
theorem dX4_annotationsBetween_63 : decode cX4_annotationsBetween 63 = .ok (.iinc 4 1, 3) := by decide +kernel
theorem dX4_annotationsBetween_66 : decode cX4_annotationsBetween 66 = .ok (.goto (-61), 3) := by decide +kernel
theorem dX4_annotationsBetween_69 : decode cX4_annotationsBetween 69 = .ok (.iload_n 3, 1) := by decide +kernel
theorem dX4_annotationsBetween_70 : decode cX4_annotationsBetween 70 = .ok (.ireturn, 1) := by decide +kernel
theorem dX4_openGap_0 : decode cX4_openGap 0 = .ok (.aload_n 0, 1) := by decide +kernel
theorem dX4_openGap_1 : decode cX4_openGap 1 = .ok (.aload_n 0, 1) := by decide +kernel
theorem dX4_openGap_2 : decode cX4_openGap 2 = .ok (.getfield 24, 3) := by decide +kernel
theorem dX4_openGap_5 : decode cX4_openGap 5 = .ok (.iload_n 1, 1) := by decide +kernel
theorem dX4_openGap_6 : decode cX4_openGap 6 = .ok (.iload_n 2, 1) := by decide +kernel
theorem dX4_openGap_7 : decode cX4_openGap 7 = .ok (.invokestatic 54, 3) := by decide +kernel
theorem dX4_openGap_10 : decode cX4_openGap 10 = .ok (.putfield 24, 3) := by decide +kernel
theorem dX4_openGap_13 : decode cX4_openGap 13 = .ok (.iconst 0, 1) := by decide +kernel
theorem dX4_openGap_14 : decode cX4_openGap 14 = .ok (.istore_n 3, 1) := by decide +kernel
theorem dX4_openGap_15 : decode cX4_openGap 15 = .ok (.iload_n 3, 1) := by decide +kernel
theorem dX4_openGap_16 : decode cX4_openGap 16 = .ok (.iconst 5, 1) := by decide +kernel
theorem dX4_openGap_17 : decode cX4_openGap 17 = .ok (.if_icmp .ge 26, 3) := by decide +kernel
theorem dX4_openGap_20 : decode cX4_openGap 20 = .ok (.aload_n 0, 1) := by decide +kernel
theorem dX4_openGap_21 : decode cX4_openGap 21 = .ok (.getfield 9, 3) := by decide +kernel
theorem dX4_openGap_24 : decode cX4_openGap 24 = .ok (.iload_n 3, 1) := by decide +kernel
theorem dX4_openGap_25 : decode cX4_openGap 25 = .ok (.aload_n 0, 1) := by decide +kernel
theorem dX4_openGap_26 : decode cX4_openGap 26 = .ok (.getfield 9, 3) := by decide +kernel
theorem dX4_openGap_29 : decode cX4_openGap 29 = .ok (.iload_n 3, 1) := by decide +kernel
theorem dX4_openGap_30 : decode cX4_openGap 30 = .ok (.iaload, 1) := by decide +kernel
theorem dX4_openGap_31 : decode cX4_openGap 31 = .ok (.iload_n 1, 1) := by decide +kernel
theorem dX4_openGap_32 : decode cX4_openGap 32 = .ok (.iload_n 2, 1) := by decide +kernel
theorem dX4_openGap_33 : decode cX4_openGap 33 = .ok (.invokestatic 54, 3) := by decide +kernel
theorem dX4_openGap_36 : decode cX4_openGap 36 = .ok (.iastore, 1) := by decide +kernel
theorem dX4_openGap_37 : decode cX4_openGap 37 = .ok (.iinc 3 1, 3) := by decide +kernel
theorem dX4_openGap_40 : decode cX4_openGap 40 = .ok (.goto (-25), 3) := by decide +kernel
theorem dX4_openGap_43 : decode cX4_openGap 43 = .ok (.iconst 0, 1) := by decide +kernel
theorem dX4_openGap_44 : decode cX4_openGap 44 = .ok (.istore_n 3, 1) := by decide +kernel
theorem dX4_openGap_45 : decode cX4_openGap 45 = .ok (.iload_n 3, 1) := by decide +kernel
theorem dX4_openGap_46 : decode cX4_openGap 46 = .ok (.bipush 12, 2) := by decide +kernel
theorem dX4_openGap_48 : decode cX4_openGap 48 = .ok (.if_icmp .ge 79, 3) := by decide +kernel
theorem dX4_openGap_51 : decode cX4_openGap 51 = .ok (.aload_n 0, 1) := by decide +kernel
theorem dX4_openGap_52 : decode cX4_openGap 52 = .ok (.getfield 18, 3) := by decide +kernel
theorem dX4_openGap_55 : decode cX4_openGap 55 = .ok (.iload_n 3, 1) := by decide +kernel
theorem dX4_openGap_56 : decode cX4_openGap 56 = .ok (.iaload, 1) := by decide +kernel
theorem dX4_openGap_57 : decode cX4_openGap 57 = .ok (.iload_n 1, 1) := by decide +kernel
theorem dX4_openGap_58 : decode cX4_openGap 58 = .ok (.if_icmp .ne 17, 3) := by decide +kernel
theorem dX4_openGap_61 : decode cX4_openGap 61 = .ok (.aload_n 0, 1) := by decide +kernel
theorem dX4_openGap_62 : decode cX4_openGap 62 = .ok (.getfield 15, 3) := by decide +kernel
theorem dX4_openGap_65 : decode cX4_openGap 65 = .ok (.iload_n 3, 1) := by decide +kernel
theorem dX4_openGap_66 : decode cX4_openGap 66 = .ok (.iaload, 1) := by decide +kernel
theorem dX4_openGap_67 : decode cX4_openGap 67 = .ok (.iload_n 1, 1) := by decide +kernel
theorem dX4_openGap_68 : decode cX4_openGap 68 = .ok (.if_icmp .eq 7, 3) := by decide +kernel
theorem dX4_openGap_71 : decode cX4_openGap 71 = .ok (.iconst 1, 1) := by decide +kernel
theorem dX4_openGap_72 : decode cX4_openGap 72 = .ok (.goto 4, 3) := by decide +kernel
theorem dX4_openGap_75 : decode cX4_openGap 75 = .ok (.iconst 0, 1) := by decide +kernel
theorem dX4_openGap_76 : decode cX4_openGap 76 = .ok (.istore 4, 2) := by decide +kernel
theorem dX4_openGap_78 : decode cX4_openGap 78 = .ok (.aload_n 0, 1) := by decide +kernel
theorem dX4_openGap_79 : decode cX4_openGap 79 = .ok (.getfield 15, 3) := by decide +kernel
theorem dX4_openGap_82 : decode cX4_openGap 82 = .ok (.iload_n 3, 1) := by decide +kernel
theorem dX4_openGap_83 : decode cX4_openGap 83 = .ok (.aload_n 0, 1) := by decide +kernel
theorem dX4_openGap_84 : decode cX4_openGap 84 = .ok (.getfield 15, 3) := by decide +kernel
theorem dX4_openGap_87 : decode cX4_openGap 87 = .ok (.iload_n 3, 1) := by decide +kernel
theorem dX4_openGap_88 : decode cX4_openGap 88 = .ok (.iaload, 1) := by decide +kernel
theorem dX4_openGap_89 : decode cX4_openGap 89 = .ok (.iload_n 1, 1) := by decide +kernel
theorem dX4_openGap_90 : decode cX4_openGap 90 = .ok (.iload_n 2, 1) := by decide +kernel
theorem dX4_openGap_91 : decode cX4_openGap 91 = .ok (.invokestatic 54, 3) := by decide +kernel
theorem dX4_openGap_94 : decode cX4_openGap 94 = .ok (.iastore, 1) := by decide +kernel
theorem dX4_openGap_95 : decode cX4_openGap 95 = .ok (.aload_n 0, 1) := by decide +kernel
theorem dX4_openGap_96 : decode cX4_openGap 96 = .ok (.getfield 18, 3) := by decide +kernel
theorem dX4_openGap_99 : decode cX4_openGap 99 = .ok (.iload_n 3, 1) := by decide +kernel
theorem dX4_openGap_100 : decode cX4_openGap 100 = .ok (.iload 4, 2) := by decide +kernel
theorem dX4_openGap_102 : decode cX4_openGap 102 = .ok (.ifCond .eq 7, 3) := by decide +kernel
theorem dX4_openGap_105 : decode cX4_openGap 105 = .ok (.iload_n 1, 1) := by decide +kernel
theorem dX4_openGap_106 : decode cX4_openGap 106 = .ok (.goto 14, 3) := by decide +kernel
theorem dX4_openGap_109 : decode cX4_openGap 109 = .ok (.aload_n 0, 1) := by decide +kernel
theorem dX4_openGap_110 : decode cX4_openGap 110 = .ok (.getfield 18, 3) := by decide +kernel
theorem dX4_openGap_113 : decode cX4_openGap 113 = .ok (.iload_n 3, 1) := by decide +kernel
theorem dX4_openGap_114 : decode cX4_openGap 114 = .ok (.iaload, 1) := by decide +kernel
theorem dX4_openGap_115 : decode cX4_openGap 115 = .ok (.iload_n 1, 1) := by decide +kernel
theorem dX4_openGap_116 : decode cX4_openGap 116 = .ok (.iload_n 2, 1) := by decide +kernel
theorem dX4_openGap_117 : decode cX4_openGap 117 = .ok (.invokestatic 54, 3) := by decide +kernel
theorem dX4_openGap_120 : decode cX4_openGap 120 = .ok (.iastore, 1) := by decide +kernel
theorem dX4_openGap_121 : decode cX4_openGap 121 = .ok (.iinc 3 1, 3) := by decide +kernel
theorem dX4_openGap_124 : decode cX4_openGap 124 = .ok (.goto (-79), 3) := by decide +kernel
theorem dX4_openGap_127 : decode cX4_openGap 127 = .ok (.return_, 1) := by decide +kernel
theorem dX4_opened_0 : decode cX4_opened 0 = .ok (.iload_n 1, 1) := by decide +kernel
theorem dX4_opened_1 : decode cX4_opened 1 = .ok (.iload_n 0, 1) := by decide +kernel
theorem dX4_opened_2 : decode cX4_opened 2 = .ok (.if_icmp .gt 9, 3) := by decide +kernel
theorem dX4_opened_5 : decode cX4_opened 5 = .ok (.iload_n 0, 1) := by decide +kernel
theorem dX4_opened_6 : decode cX4_opened 6 = .ok (.iload_n 2, 1) := by decide +kernel
theorem dX4_opened_7 : decode cX4_opened 7 = .ok (.iadd, 1) := by decide +kernel
theorem dX4_opened_8 : decode cX4_opened 8 = .ok (.goto 4, 3) := by decide +kernel
theorem dX4_opened_11 : decode cX4_opened 11 = .ok (.iload_n 0, 1) := by decide +kernel
theorem dX4_opened_12 : decode cX4_opened 12 = .ok (.ireturn, 1) := by decide +kernel
theorem dX4_closeGap_0 : decode cX4_closeGap 0 = .ok (.aload_n 0, 1) := by decide +kernel
theorem dX4_closeGap_1 : decode cX4_closeGap 1 = .ok (.aload_n 0, 1) := by decide +kernel
theorem dX4_closeGap_2 : decode cX4_closeGap 2 = .ok (.getfield 24, 3) := by decide +kernel
theorem dX4_closeGap_5 : decode cX4_closeGap 5 = .ok (.iload_n 1, 1) := by decide +kernel
theorem dX4_closeGap_6 : decode cX4_closeGap 6 = .ok (.iload_n 2, 1) := by decide +kernel
theorem dX4_closeGap_7 : decode cX4_closeGap 7 = .ok (.iload_n 3, 1) := by decide +kernel
theorem dX4_closeGap_8 : decode cX4_closeGap 8 = .ok (.invokestatic 58, 3) := by decide +kernel
theorem dX4_closeGap_11 : decode cX4_closeGap 11 = .ok (.putfield 24, 3) := by decide +kernel
theorem dX4_closeGap_14 : decode cX4_closeGap 14 = .ok (.iconst 0, 1) := by decide +kernel
theorem dX4_closeGap_15 : decode cX4_closeGap 15 = .ok (.istore 4, 2) := by decide +kernel
theorem dX4_closeGap_17 : decode cX4_closeGap 17 = .ok (.iload 4, 2) := by decide +kernel
theorem dX4_closeGap_19 : decode cX4_closeGap 19 = .ok (.iconst 5, 1) := by decide +kernel
theorem dX4_closeGap_20 : decode cX4_closeGap 20 = .ok (.if_icmp .ge 29, 3) := by decide +kernel
theorem dX4_closeGap_23 : decode cX4_closeGap 23 = .ok (.aload_n 0, 1) := by decide +kernel
theorem dX4_closeGap_24 : decode cX4_closeGap 24 = .ok (.getfield 9, 3) := by decide +kernel
theorem dX4_closeGap_27 : decode cX4_closeGap 27 = .ok (.iload 4, 2) := by decide +kernel
theorem dX4_closeGap_29 : decode cX4_closeGap 29 = .ok (.aload_n 0, 1) := by decide +kernel
theorem dX4_closeGap_30 : decode cX4_closeGap 30 = .ok (.getfield 9, 3) := by decide +kernel
theorem dX4_closeGap_33 : decode cX4_closeGap 33 = .ok (.iload 4, 2) := by decide +kernel
theorem dX4_closeGap_35 : decode cX4_closeGap 35 = .ok (.iaload, 1) := by decide +kernel
theorem dX4_closeGap_36 : decode cX4_closeGap 36 = .ok (.iload_n 1, 1) := by decide +kernel
theorem dX4_closeGap_37 : decode cX4_closeGap 37 = .ok (.iload_n 2, 1) := by decide +kernel
theorem dX4_closeGap_38 : decode cX4_closeGap 38 = .ok (.iload_n 3, 1) := by decide +kernel
theorem dX4_closeGap_39 : decode cX4_closeGap 39 = .ok (.invokestatic 58, 3) := by decide +kernel
theorem dX4_closeGap_42 : decode cX4_closeGap 42 = .ok (.iastore, 1) := by decide +kernel
theorem dX4_closeGap_43 : decode cX4_closeGap 43 = .ok (.iinc 4 1, 3) := by decide +kernel
theorem dX4_closeGap_46 : decode cX4_closeGap 46 = .ok (.goto (-29), 3) := by decide +kernel
theorem dX4_closeGap_49 : decode cX4_closeGap 49 = .ok (.iconst 0, 1) := by decide +kernel
theorem dX4_closeGap_50 : decode cX4_closeGap 50 = .ok (.istore 4, 2) := by decide +kernel
theorem dX4_closeGap_52 : decode cX4_closeGap 52 = .ok (.iload 4, 2) := by decide +kernel
theorem dX4_closeGap_54 : decode cX4_closeGap 54 = .ok (.bipush 12, 2) := by decide +kernel
theorem dX4_closeGap_56 : decode cX4_closeGap 56 = .ok (.if_icmp .ge 49, 3) := by decide +kernel
theorem dX4_closeGap_59 : decode cX4_closeGap 59 = .ok (.aload_n 0, 1) := by decide +kernel
theorem dX4_closeGap_60 : decode cX4_closeGap 60 = .ok (.getfield 15, 3) := by decide +kernel
theorem dX4_closeGap_63 : decode cX4_closeGap 63 = .ok (.iload 4, 2) := by decide +kernel
theorem dX4_closeGap_65 : decode cX4_closeGap 65 = .ok (.aload_n 0, 1) := by decide +kernel
theorem dX4_closeGap_66 : decode cX4_closeGap 66 = .ok (.getfield 15, 3) := by decide +kernel
theorem dX4_closeGap_69 : decode cX4_closeGap 69 = .ok (.iload 4, 2) := by decide +kernel
theorem dX4_closeGap_71 : decode cX4_closeGap 71 = .ok (.iaload, 1) := by decide +kernel
theorem dX4_closeGap_72 : decode cX4_closeGap 72 = .ok (.iload_n 1, 1) := by decide +kernel
theorem dX4_closeGap_73 : decode cX4_closeGap 73 = .ok (.iload_n 2, 1) := by decide +kernel
theorem dX4_closeGap_74 : decode cX4_closeGap 74 = .ok (.iload_n 1, 1) := by decide +kernel
theorem dX4_closeGap_75 : decode cX4_closeGap 75 = .ok (.invokestatic 58, 3) := by decide +kernel
theorem dX4_closeGap_78 : decode cX4_closeGap 78 = .ok (.iastore, 1) := by decide +kernel
theorem dX4_closeGap_79 : decode cX4_closeGap 79 = .ok (.aload_n 0, 1) := by decide +kernel
theorem dX4_closeGap_80 : decode cX4_closeGap 80 = .ok (.getfield 18, 3) := by decide +kernel
theorem dX4_closeGap_83 : decode cX4_closeGap 83 = .ok (.iload 4, 2) := by decide +kernel
theorem dX4_closeGap_85 : decode cX4_closeGap 85 = .ok (.aload_n 0, 1) := by decide +kernel
theorem dX4_closeGap_86 : decode cX4_closeGap 86 = .ok (.getfield 18, 3) := by decide +kernel
theorem dX4_closeGap_89 : decode cX4_closeGap 89 = .ok (.iload 4, 2) := by decide +kernel
theorem dX4_closeGap_91 : decode cX4_closeGap 91 = .ok (.iaload, 1) := by decide +kernel
theorem dX4_closeGap_92 : decode cX4_closeGap 92 = .ok (.iload_n 1, 1) := by decide +kernel
theorem dX4_closeGap_93 : decode cX4_closeGap 93 = .ok (.iload_n 2, 1) := by decide +kernel
theorem dX4_closeGap_94 : decode cX4_closeGap 94 = .ok (.iload_n 1, 1) := by decide +kernel
theorem dX4_closeGap_95 : decode cX4_closeGap 95 = .ok (.invokestatic 58, 3) := by decide +kernel
theorem dX4_closeGap_98 : decode cX4_closeGap 98 = .ok (.iastore, 1) := by decide +kernel
theorem dX4_closeGap_99 : decode cX4_closeGap 99 = .ok (.iinc 4 1, 3) := by decide +kernel
theorem dX4_closeGap_102 : decode cX4_closeGap 102 = .ok (.goto (-50), 3) := by decide +kernel
theorem dX4_closeGap_105 : decode cX4_closeGap 105 = .ok (.return_, 1) := by decide +kernel
theorem dX4_closed_0 : decode cX4_closed 0 = .ok (.iload_n 0, 1) := by decide +kernel
theorem dX4_closed_1 : decode cX4_closed 1 = .ok (.iload_n 1, 1) := by decide +kernel
theorem dX4_closed_2 : decode cX4_closed 2 = .ok (.if_icmp .ge 5, 3) := by decide +kernel
theorem dX4_closed_5 : decode cX4_closed 5 = .ok (.iload_n 0, 1) := by decide +kernel
theorem dX4_closed_6 : decode cX4_closed 6 = .ok (.ireturn, 1) := by decide +kernel
theorem dX4_closed_7 : decode cX4_closed 7 = .ok (.iload_n 0, 1) := by decide +kernel
theorem dX4_closed_8 : decode cX4_closed 8 = .ok (.iload_n 2, 1) := by decide +kernel
theorem dX4_closed_9 : decode cX4_closed 9 = .ok (.if_icmp .lt 11, 3) := by decide +kernel
theorem dX4_closed_12 : decode cX4_closed 12 = .ok (.iload_n 0, 1) := by decide +kernel
theorem dX4_closed_13 : decode cX4_closed 13 = .ok (.iload_n 2, 1) := by decide +kernel
theorem dX4_closed_14 : decode cX4_closed 14 = .ok (.iload_n 1, 1) := by decide +kernel
theorem dX4_closed_15 : decode cX4_closed 15 = .ok (.isub, 1) := by decide +kernel
theorem dX4_closed_16 : decode cX4_closed 16 = .ok (.isub, 1) := by decide +kernel
theorem dX4_closed_17 : decode cX4_closed 17 = .ok (.goto 4, 3) := by decide +kernel
theorem dX4_closed_20 : decode cX4_closed 20 = .ok (.iload_n 3, 1) := by decide +kernel
theorem dX4_closed_21 : decode cX4_closed 21 = .ok (.ireturn, 1) := by decide +kernel
theorem dX4_cutAt_0 : decode cX4_cutAt 0 = .ok (.aload_n 0, 1) := by decide +kernel
theorem dX4_cutAt_1 : decode cX4_cutAt 1 = .ok (.aload_n 0, 1) := by decide +kernel
theorem dX4_cutAt_2 : decode cX4_cutAt 2 = .ok (.getfield 24, 3) := by decide +kernel
theorem dX4_cutAt_5 : decode cX4_cutAt 5 = .ok (.iload_n 1, 1) := by decide +kernel
theorem dX4_cutAt_6 : decode cX4_cutAt 6 = .ok (.if_icmp .ne 9, 3) := by decide +kernel
theorem dX4_cutAt_9 : decode cX4_cutAt 9 = .ok (.iload_n 1, 1) := by decide +kernel
theorem dX4_cutAt_10 : decode cX4_cutAt 10 = .ok (.iconst 1, 1) := by decide +kernel
theorem dX4_cutAt_11 : decode cX4_cutAt 11 = .ok (.isub, 1) := by decide +kernel
theorem dX4_cutAt_12 : decode cX4_cutAt 12 = .ok (.goto 7, 3) := by decide +kernel
theorem dX4_cutAt_15 : decode cX4_cutAt 15 = .ok (.aload_n 0, 1) := by decide +kernel
theorem dX4_cutAt_16 : decode cX4_cutAt 16 = .ok (.getfield 24, 3) := by decide +kernel
theorem dX4_cutAt_19 : decode cX4_cutAt 19 = .ok (.putfield 24, 3) := by decide +kernel
theorem dX4_cutAt_22 : decode cX4_cutAt 22 = .ok (.iconst 0, 1) := by decide +kernel
theorem dX4_cutAt_23 : decode cX4_cutAt 23 = .ok (.istore_n 2, 1) := by decide +kernel
theorem dX4_cutAt_24 : decode cX4_cutAt 24 = .ok (.iload_n 2, 1) := by decide +kernel
theorem dX4_cutAt_25 : decode cX4_cutAt 25 = .ok (.iconst 5, 1) := by decide +kernel
theorem dX4_cutAt_26 : decode cX4_cutAt 26 = .ok (.if_icmp .ge 37, 3) := by decide +kernel
theorem dX4_cutAt_29 : decode cX4_cutAt 29 = .ok (.aload_n 0, 1) := by decide +kernel
theorem dX4_cutAt_30 : decode cX4_cutAt 30 = .ok (.getfield 9, 3) := by decide +kernel
theorem dX4_cutAt_33 : decode cX4_cutAt 33 = .ok (.iload_n 2, 1) := by decide +kernel
theorem dX4_cutAt_34 : decode cX4_cutAt 34 = .ok (.aload_n 0, 1) := by decide +kernel
theorem dX4_cutAt_35 : decode cX4_cutAt 35 = .ok (.getfield 9, 3) := by decide +kernel
theorem dX4_cutAt_38 : decode cX4_cutAt 38 = .ok (.iload_n 2, 1) := by decide +kernel
theorem dX4_cutAt_39 : decode cX4_cutAt 39 = .ok (.iaload, 1) := by decide +kernel
theorem dX4_cutAt_40 : decode cX4_cutAt 40 = .ok (.iload_n 1, 1) := by decide +kernel
theorem dX4_cutAt_41 : decode cX4_cutAt 41 = .ok (.if_icmp .ne 9, 3) := by decide +kernel
theorem dX4_cutAt_44 : decode cX4_cutAt 44 = .ok (.iload_n 1, 1) := by decide +kernel
theorem dX4_cutAt_45 : decode cX4_cutAt 45 = .ok (.iconst 1, 1) := by decide +kernel
theorem dX4_cutAt_46 : decode cX4_cutAt 46 = .ok (.isub, 1) := by decide +kernel
theorem dX4_cutAt_47 : decode cX4_cutAt 47 = .ok (.goto 9, 3) := by decide +kernel
theorem dX4_cutAt_50 : decode cX4_cutAt 50 = .ok (.aload_n 0, 1) := by decide +kernel
theorem dX4_cutAt_51 : decode cX4_cutAt 51 = .ok (.getfield 9, 3) := by decide +kernel
theorem dX4_cutAt_54 : decode cX4_cutAt 54 = .ok (.iload_n 2, 1) := by decide +kernel
theorem dX4_cutAt_55 : decode cX4_cutAt 55 = .ok (.iaload, 1) := by decide +kernel
theorem dX4_cutAt_56 : decode cX4_cutAt 56 = .ok (.iastore, 1) := by decide +kernel
theorem dX4_cutAt_57 : decode cX4_cutAt 57 = .ok (.iinc 2 1, 3) := by decide +kernel
theorem dX4_cutAt_60 : decode cX4_cutAt 60 = .ok (.goto (-36), 3) := by decide +kernel
theorem dX4_cutAt_63 : decode cX4_cutAt 63 = .ok (.iconst 0, 1) := by decide +kernel
theorem dX4_cutAt_64 : decode cX4_cutAt 64 = .ok (.istore_n 2, 1) := by decide +kernel
theorem dX4_cutAt_65 : decode cX4_cutAt 65 = .ok (.iload_n 2, 1) := by decide +kernel
theorem dX4_cutAt_66 : decode cX4_cutAt 66 = .ok (.bipush 12, 2) := by decide +kernel
theorem dX4_cutAt_68 : decode cX4_cutAt 68 = .ok (.if_icmp .ge 55, 3) := by decide +kernel
theorem dX4_cutAt_71 : decode cX4_cutAt 71 = .ok (.aload_n 0, 1) := by decide +kernel
theorem dX4_cutAt_72 : decode cX4_cutAt 72 = .ok (.getfield 15, 3) := by decide +kernel
theorem dX4_cutAt_75 : decode cX4_cutAt 75 = .ok (.iload_n 2, 1) := by decide +kernel
theorem dX4_cutAt_76 : decode cX4_cutAt 76 = .ok (.iaload, 1) := by decide +kernel
theorem dX4_cutAt_77 : decode cX4_cutAt 77 = .ok (.iload_n 1, 1) := by decide +kernel
theorem dX4_cutAt_78 : decode cX4_cutAt 78 = .ok (.if_icmp .gt 17, 3) := by decide +kernel
theorem dX4_cutAt_81 : decode cX4_cutAt 81 = .ok (.aload_n 0, 1) := by decide +kernel
theorem dX4_cutAt_82 : decode cX4_cutAt 82 = .ok (.getfield 18, 3) := by decide +kernel
theorem dX4_cutAt_85 : decode cX4_cutAt 85 = .ok (.iload_n 2, 1) := by decide +kernel
theorem dX4_cutAt_86 : decode cX4_cutAt 86 = .ok (.iaload, 1) := by decide +kernel
theorem dX4_cutAt_87 : decode cX4_cutAt 87 = .ok (.iload_n 1, 1) := by decide +kernel
theorem dX4_cutAt_88 : decode cX4_cutAt 88 = .ok (.if_icmp .le 7, 3) := by decide +kernel
theorem dX4_cutAt_91 : decode cX4_cutAt 91 = .ok (.iconst 1, 1) := by decide +kernel
theorem dX4_cutAt_92 : decode cX4_cutAt 92 = .ok (.goto 4, 3) := by decide +kernel
theorem dX4_cutAt_95 : decode cX4_cutAt 95 = .ok (.iconst 0, 1) := by decide +kernel
theorem dX4_cutAt_96 : decode cX4_cutAt 96 = .ok (.istore_n 3, 1) := by decide +kernel
theorem dX4_cutAt_97 : decode cX4_cutAt 97 = .ok (.aload_n 0, 1) := by decide +kernel
theorem dX4_cutAt_98 : decode cX4_cutAt 98 = .ok (.getfield 18, 3) := by decide +kernel
theorem dX4_cutAt_101 : decode cX4_cutAt 101 = .ok (.iload_n 2, 1) := by decide +kernel
theorem dX4_cutAt_102 : decode cX4_cutAt 102 = .ok (.iload_n 3, 1) := by decide +kernel
theorem dX4_cutAt_103 : decode cX4_cutAt 103 = .ok (.ifCond .eq 7, 3) := by decide +kernel
theorem dX4_cutAt_106 : decode cX4_cutAt 106 = .ok (.iload_n 1, 1) := by decide +kernel
theorem dX4_cutAt_107 : decode cX4_cutAt 107 = .ok (.goto 9, 3) := by decide +kernel
theorem dX4_cutAt_110 : decode cX4_cutAt 110 = .ok (.aload_n 0, 1) := by decide +kernel
theorem dX4_cutAt_111 : decode cX4_cutAt 111 = .ok (.getfield 18, 3) := by decide +kernel
theorem dX4_cutAt_114 : decode cX4_cutAt 114 = .ok (.iload_n 2, 1) := by decide +kernel
theorem dX4_cutAt_115 : decode cX4_cutAt 115 = .ok (.iaload, 1) := by decide +kernel
theorem dX4_cutAt_116 : decode cX4_cutAt 116 = .ok (.iastore, 1) := by decide +kernel
theorem dX4_cutAt_117 : decode cX4_cutAt 117 = .ok (.iinc 2 1, 3) := by decide +kernel
theorem dX4_cutAt_120 : decode cX4_cutAt 120 = .ok (.goto (-55), 3) := by decide +kernel
theorem dX4_cutAt_123 : decode cX4_cutAt 123 = .ok (.return_, 1) := by decide +kernel
theorem dX5_init_0 : decode cX5_init 0 = .ok (.aload_n 0, 1) := by decide +kernel
theorem dX5_init_1 : decode cX5_init 1 = .ok (.invokespecial 3, 3) := by decide +kernel
theorem dX5_init_4 : decode cX5_init 4 = .ok (.return_, 1) := by decide +kernel
theorem dX5_begin_0 : decode cX5_begin 0 = .ok (.aload_n 0, 1) := by decide +kernel
theorem dX5_begin_1 : decode cX5_begin 1 = .ok (.iload_n 1, 1) := by decide +kernel
theorem dX5_begin_2 : decode cX5_begin 2 = .ok (.putfield 9, 3) := by decide +kernel
theorem dX5_begin_5 : decode cX5_begin 5 = .ok (.aload_n 0, 1) := by decide +kernel
theorem dX5_begin_6 : decode cX5_begin 6 = .ok (.iconst 0, 1) := by decide +kernel
theorem dX5_begin_7 : decode cX5_begin 7 = .ok (.putfield 15, 3) := by decide +kernel
theorem dX5_begin_10 : decode cX5_begin 10 = .ok (.aload_n 0, 1) := by decide +kernel
theorem dX5_begin_11 : decode cX5_begin 11 = .ok (.invokevirtual 19, 3) := by decide +kernel
theorem dX5_begin_14 : decode cX5_begin 14 = .ok (.return_, 1) := by decide +kernel
theorem dX5_beginParagraph_0 : decode cX5_beginParagraph 0 = .ok (.aload_n 0, 1) := by decide +kernel
theorem dX5_beginParagraph_1 : decode cX5_beginParagraph 1 = .ok (.dup, 1) := by decide +kernel
theorem dX5_beginParagraph_2 : decode cX5_beginParagraph 2 = .ok (.getfield 15, 3) := by decide +kernel
theorem dX5_beginParagraph_5 : decode cX5_beginParagraph 5 = .ok (.iconst 1, 1) := by decide +kernel
theorem dX5_beginParagraph_6 : decode cX5_beginParagraph 6 = .ok (.iadd, 1) := by decide +kernel
theorem dX5_beginParagraph_7 : decode cX5_beginParagraph 7 = .ok (.putfield 15, 3) := by decide +kernel
theorem dX5_beginParagraph_10 : decode cX5_beginParagraph 10 = .ok (.aload_n 0, 1) := by decide +kernel
theorem dX5_beginParagraph_11 : decode cX5_beginParagraph 11 = .ok (.aload_n 0, 1) := by decide +kernel
theorem dX5_beginParagraph_12 : decode cX5_beginParagraph 12 = .ok (.getfield 9, 3) := by decide +kernel
theorem dX5_beginParagraph_15 : decode cX5_beginParagraph 15 = .ok (.putfield 22, 3) := by decide +kernel
theorem dX5_beginParagraph_18 : decode cX5_beginParagraph 18 = .ok (.aload_n 0, 1) := by decide +kernel
theorem dX5_beginParagraph_19 : decode cX5_beginParagraph 19 = .ok (.iconst 0, 1) := by decide +kernel
theorem dX5_beginParagraph_20 : decode cX5_beginParagraph 20 = .ok (.putfield 25, 3) := by decide +kernel
theorem dX5_beginParagraph_23 : decode cX5_beginParagraph 23 = .ok (.aload_n 0, 1) := by decide +kernel
theorem dX5_beginParagraph_24 : decode cX5_beginParagraph 24 = .ok (.invokevirtual 28, 3) := by decide +kernel
theorem dX5_beginParagraph_27 : decode cX5_beginParagraph 27 = .ok (.return_, 1) := by decide +kernel
theorem dX5_beginWord_0 : decode cX5_beginWord 0 = .ok (.aload_n 0, 1) := by decide +kernel
theorem dX5_beginWord_1 : decode cX5_beginWord 1 = .ok (.dup, 1) := by decide +kernel
theorem dX5_beginWord_2 : decode cX5_beginWord 2 = .ok (.getfield 25, 3) := by decide +kernel
theorem dX5_beginWord_5 : decode cX5_beginWord 5 = .ok (.iconst 1, 1) := by decide +kernel
theorem dX5_beginWord_6 : decode cX5_beginWord 6 = .ok (.iadd, 1) := by decide +kernel
theorem dX5_beginWord_7 : decode cX5_beginWord 7 = .ok (.putfield 25, 3) := by decide +kernel
theorem dX5_beginWord_10 : decode cX5_beginWord 10 = .ok (.aload_n 0, 1) := by decide +kernel
theorem dX5_beginWord_11 : decode cX5_beginWord 11 = .ok (.iconst 0, 1) := by decide +kernel
theorem dX5_beginWord_12 : decode cX5_beginWord 12 = .ok (.putfield 31, 3) := by decide +kernel
theorem dX5_beginWord_15 : decode cX5_beginWord 15 = .ok (.aload_n 0, 1) := by decide +kernel
theorem dX5_beginWord_16 : decode cX5_beginWord 16 = .ok (.iconst 0, 1) := by decide +kernel
theorem dX5_beginWord_17 : decode cX5_beginWord 17 = .ok (.putfield 34, 3) := by decide +kernel
theorem dX5_beginWord_20 : decode cX5_beginWord 20 = .ok (.aload_n 0, 1) := by decide +kernel
theorem dX5_beginWord_21 : decode cX5_beginWord 21 = .ok (.iconst 0, 1) := by decide +kernel
theorem dX5_beginWord_22 : decode cX5_beginWord 22 = .ok (.putfield 37, 3) := by decide +kernel
theorem dX5_beginWord_25 : decode cX5_beginWord 25 = .ok (.return_, 1) := by decide +kernel
theorem dX5_takes_0 : decode cX5_takes 0 = .ok (.aload_n 0, 1) := by decide +kernel
theorem dX5_takes_1 : decode cX5_takes 1 = .ok (.getfield 22, 3) := by decide +kernel
theorem dX5_takes_4 : decode cX5_takes 4 = .ok (.istore_n 2, 1) := by decide +kernel
theorem dX5_takes_5 : decode cX5_takes 5 = .ok (.aload_n 0, 1) := by decide +kernel
theorem dX5_takes_6 : decode cX5_takes 6 = .ok (.iconst 0, 1) := by decide +kernel
theorem dX5_takes_7 : decode cX5_takes 7 = .ok (.putfield 22, 3) := by decide +kernel
theorem dX5_takes_10 : decode cX5_takes 10 = .ok (.aload_n 0, 1) := by decide +kernel
theorem dX5_takes_11 : decode cX5_takes 11 = .ok (.getfield 34, 3) := by decide +kernel
theorem dX5_takes_14 : decode cX5_takes 14 = .ok (.ifCond .eq 18, 3) := by decide +kernel
theorem dX5_takes_17 : decode cX5_takes 17 = .ok (.aload_n 0, 1) := by decide +kernel
theorem dX5_takes_18 : decode cX5_takes 18 = .ok (.iconst 0, 1) := by decide +kernel
theorem dX5_takes_19 : decode cX5_takes 19 = .ok (.putfield 34, 3) := by decide +kernel
theorem dX5_takes_22 : decode cX5_takes 22 = .ok (.aload_n 0, 1) := by decide +kernel
theorem dX5_takes_23 : decode cX5_takes 23 = .ok (.iconst 1, 1) := by decide +kernel
theorem dX5_takes_24 : decode cX5_takes 24 = .ok (.putfield 37, 3) := by decide +kernel
theorem dX5_takes_27 : decode cX5_takes 27 = .ok (.iload_n 1, 1) := by decide +kernel
theorem dX5_takes_28 : decode cX5_takes 28 = .ok (.invokestatic 40, 3) := by decide +kernel
theorem dX5_takes_31 : decode cX5_takes 31 = .ok (.ireturn, 1) := by decide +kernel
theorem dX5_takes_32 : decode cX5_takes 32 = .ok (.iload_n 1, 1) := by decide +kernel
theorem dX5_takes_33 : decode cX5_takes 33 = .ok (.invokestatic 44, 3) := by decide +kernel
theorem dX5_takes_36 : decode cX5_takes 36 = .ok (.ifCond .eq 35, 3) := by decide +kernel
theorem dX5_takes_39 : decode cX5_takes 39 = .ok (.aload_n 0, 1) := by decide +kernel
theorem dX5_takes_40 : decode cX5_takes 40 = .ok (.dup, 1) := by decide +kernel
theorem dX5_takes_41 : decode cX5_takes 41 = .ok (.getfield 31, 3) := by decide +kernel
theorem dX5_takes_44 : decode cX5_takes 44 = .ok (.iconst 1, 1) := by decide +kernel
theorem dX5_takes_45 : decode cX5_takes 45 = .ok (.iadd, 1) := by decide +kernel
theorem dX5_takes_46 : decode cX5_takes 46 = .ok (.putfield 31, 3) := by decide +kernel
theorem dX5_takes_49 : decode cX5_takes 49 = .ok (.aload_n 0, 1) := by decide +kernel
theorem dX5_takes_50 : decode cX5_takes 50 = .ok (.getfield 37, 3) := by decide +kernel
theorem dX5_takes_53 : decode cX5_takes 53 = .ok (.ifCond .ne 16, 3) := by decide +kernel
theorem dX5_takes_56 : decode cX5_takes 56 = .ok (.aload_n 0, 1) := by decide +kernel
theorem dX5_takes_57 : decode cX5_takes 57 = .ok (.getfield 31, 3) := by decide +kernel
theorem dX5_takes_60 : decode cX5_takes 60 = .ok (.bipush 12, 2) := by decide +kernel
theorem dX5_takes_62 : decode cX5_takes 62 = .ok (.if_icmp .gt 7, 3) := by decide +kernel
theorem dX5_takes_65 : decode cX5_takes 65 = .ok (.iconst 1, 1) := by decide +kernel
theorem dX5_takes_66 : decode cX5_takes 66 = .ok (.goto 4, 3) := by decide +kernel
theorem dX5_takes_69 : decode cX5_takes 69 = .ok (.iconst 0, 1) := by decide +kernel
theorem dX5_takes_70 : decode cX5_takes 70 = .ok (.ireturn, 1) := by decide +kernel
theorem dX5_takes_71 : decode cX5_takes 71 = .ok (.iload_n 1, 1) := by decide +kernel
theorem dX5_takes_72 : decode cX5_takes 72 = .ok (.lookupswitch 156 #[(32, 77), (35, 154), (62, 154), (94, 52), (124, 117)], 52) := by decide +kernel
theorem dX5_takes_124 : decode cX5_takes 124 = .ok (.aload_n 0, 1) := by decide +kernel
theorem dX5_takes_125 : decode cX5_takes 125 = .ok (.iconst 1, 1) := by decide +kernel
theorem dX5_takes_126 : decode cX5_takes 126 = .ok (.putfield 34, 3) := by decide +kernel
theorem dX5_takes_129 : decode cX5_takes 129 = .ok (.aload_n 0, 1) := by decide +kernel
theorem dX5_takes_130 : decode cX5_takes 130 = .ok (.getfield 31, 3) := by decide +kernel
theorem dX5_takes_133 : decode cX5_takes 133 = .ok (.ifCond .le 14, 3) := by decide +kernel
theorem dX5_takes_136 : decode cX5_takes 136 = .ok (.aload_n 0, 1) := by decide +kernel
theorem dX5_takes_137 : decode cX5_takes 137 = .ok (.getfield 37, 3) := by decide +kernel
theorem dX5_takes_140 : decode cX5_takes 140 = .ok (.ifCond .ne 7, 3) := by decide +kernel
theorem dX5_takes_143 : decode cX5_takes 143 = .ok (.iconst 1, 1) := by decide +kernel
theorem dX5_takes_144 : decode cX5_takes 144 = .ok (.goto 4, 3) := by decide +kernel
theorem dX5_takes_147 : decode cX5_takes 147 = .ok (.iconst 0, 1) := by decide +kernel
theorem dX5_takes_148 : decode cX5_takes 148 = .ok (.ireturn, 1) := by decide +kernel
theorem dX5_takes_149 : decode cX5_takes 149 = .ok (.aload_n 0, 1) := by decide +kernel
theorem dX5_takes_150 : decode cX5_takes 150 = .ok (.getfield 31, 3) := by decide +kernel
theorem dX5_takes_153 : decode cX5_takes 153 = .ok (.ifCond .le 28, 3) := by decide +kernel
theorem dX5_takes_156 : decode cX5_takes 156 = .ok (.aload_n 0, 1) := by decide +kernel
theorem dX5_takes_157 : decode cX5_takes 157 = .ok (.getfield 25, 3) := by decide +kernel
theorem dX5_takes_160 : decode cX5_takes 160 = .ok (.aload_n 0, 1) := by decide +kernel
theorem dX5_takes_161 : decode cX5_takes 161 = .ok (.getfield 9, 3) := by decide +kernel
theorem dX5_takes_164 : decode cX5_takes 164 = .ok (.ifCond .eq 8, 3) := by decide +kernel
theorem dX5_takes_167 : decode cX5_takes 167 = .ok (.bipush 24, 2) := by decide +kernel
theorem dX5_takes_169 : decode cX5_takes 169 = .ok (.goto 5, 3) := by decide +kernel
theorem dX5_takes_172 : decode cX5_takes 172 = .ok (.bipush 12, 2) := by decide +kernel
theorem dX5_takes_174 : decode cX5_takes 174 = .ok (.if_icmp .ge 7, 3) := by decide +kernel
theorem dX5_takes_177 : decode cX5_takes 177 = .ok (.iconst 1, 1) := by decide +kernel
theorem dX5_takes_178 : decode cX5_takes 178 = .ok (.goto 4, 3) := by decide +kernel
theorem dX5_takes_181 : decode cX5_takes 181 = .ok (.iconst 0, 1) := by decide +kernel
theorem dX5_takes_182 : decode cX5_takes 182 = .ok (.istore_n 3, 1) := by decide +kernel
theorem dX5_takes_183 : decode cX5_takes 183 = .ok (.aload_n 0, 1) := by decide +kernel
theorem dX5_takes_184 : decode cX5_takes 184 = .ok (.invokevirtual 28, 3) := by decide +kernel
theorem dX5_takes_187 : decode cX5_takes 187 = .ok (.iload_n 3, 1) := by decide +kernel
theorem dX5_takes_188 : decode cX5_takes 188 = .ok (.ireturn, 1) := by decide +kernel
theorem dX5_takes_189 : decode cX5_takes 189 = .ok (.aload_n 0, 1) := by decide +kernel
theorem dX5_takes_190 : decode cX5_takes 190 = .ok (.getfield 9, 3) := by decide +kernel
theorem dX5_takes_193 : decode cX5_takes 193 = .ok (.ifCond .eq 23, 3) := by decide +kernel
theorem dX5_takes_196 : decode cX5_takes 196 = .ok (.aload_n 0, 1) := by decide +kernel
theorem dX5_takes_197 : decode cX5_takes 197 = .ok (.getfield 31, 3) := by decide +kernel
theorem dX5_takes_200 : decode cX5_takes 200 = .ok (.ifCond .le 16, 3) := by decide +kernel
theorem dX5_takes_203 : decode cX5_takes 203 = .ok (.aload_n 0, 1) := by decide +kernel
theorem dX5_takes_204 : decode cX5_takes 204 = .ok (.getfield 15, 3) := by decide +kernel
theorem dX5_takes_207 : decode cX5_takes 207 = .ok (.bipush 10, 2) := by decide +kernel
theorem dX5_takes_209 : decode cX5_takes 209 = .ok (.if_icmp .ge 7, 3) := by decide +kernel
theorem dX5_takes_212 : decode cX5_takes 212 = .ok (.iconst 1, 1) := by decide +kernel
theorem dX5_takes_213 : decode cX5_takes 213 = .ok (.goto 4, 3) := by decide +kernel
theorem dX5_takes_216 : decode cX5_takes 216 = .ok (.iconst 0, 1) := by decide +kernel
theorem dX5_takes_217 : decode cX5_takes 217 = .ok (.istore 4, 2) := by decide +kernel
theorem dX5_takes_219 : decode cX5_takes 219 = .ok (.aload_n 0, 1) := by decide +kernel
theorem dX5_takes_220 : decode cX5_takes 220 = .ok (.invokevirtual 19, 3) := by decide +kernel
theorem dX5_takes_223 : decode cX5_takes 223 = .ok (.iload 4, 2) := by decide +kernel
theorem dX5_takes_225 : decode cX5_takes 225 = .ok (.ireturn, 1) := by decide +kernel
theorem dX5_takes_226 : decode cX5_takes 226 = .ok (.iload_n 2, 1) := by decide +kernel
theorem dX5_takes_227 : decode cX5_takes 227 = .ok (.ireturn, 1) := by decide +kernel
theorem dX5_takes_228 : decode cX5_takes 228 = .ok (.iconst 0, 1) := by decide +kernel
theorem dX5_takes_229 : decode cX5_takes 229 = .ok (.ireturn, 1) := by decide +kernel
theorem dX5_mayEnd_0 : decode cX5_mayEnd 0 = .ok (.aload_n 0, 1) := by decide +kernel
theorem dX5_mayEnd_1 : decode cX5_mayEnd 1 = .ok (.getfield 31, 3) := by decide +kernel
theorem dX5_mayEnd_4 : decode cX5_mayEnd 4 = .ok (.ifCond .le 14, 3) := by decide +kernel
theorem dX5_mayEnd_7 : decode cX5_mayEnd 7 = .ok (.aload_n 0, 1) := by decide +kernel
theorem dX5_mayEnd_8 : decode cX5_mayEnd 8 = .ok (.getfield 34, 3) := by decide +kernel
theorem dX5_mayEnd_11 : decode cX5_mayEnd 11 = .ok (.ifCond .ne 7, 3) := by decide +kernel
theorem dX5_mayEnd_14 : decode cX5_mayEnd 14 = .ok (.iconst 1, 1) := by decide +kernel
theorem dX5_mayEnd_15 : decode cX5_mayEnd 15 = .ok (.goto 4, 3) := by decide +kernel
theorem dX5_mayEnd_18 : decode cX5_mayEnd 18 = .ok (.iconst 0, 1) := by decide +kernel
theorem dX5_mayEnd_19 : decode cX5_mayEnd 19 = .ok (.ireturn, 1) := by decide +kernel
theorem dX5_isDigit_0 : decode cX5_isDigit 0 = .ok (.iload_n 0, 1) := by decide +kernel
theorem dX5_isDigit_1 : decode cX5_isDigit 1 = .ok (.bipush 48, 2) := by decide +kernel
theorem dX5_isDigit_3 : decode cX5_isDigit 3 = .ok (.if_icmp .lt 13, 3) := by decide +kernel
theorem dX5_isDigit_6 : decode cX5_isDigit 6 = .ok (.iload_n 0, 1) := by decide +kernel
theorem dX5_isDigit_7 : decode cX5_isDigit 7 = .ok (.bipush 57, 2) := by decide +kernel
theorem dX5_isDigit_9 : decode cX5_isDigit 9 = .ok (.if_icmp .gt 7, 3) := by decide +kernel
theorem dX5_isDigit_12 : decode cX5_isDigit 12 = .ok (.iconst 1, 1) := by decide +kernel
theorem dX5_isDigit_13 : decode cX5_isDigit 13 = .ok (.goto 4, 3) := by decide +kernel
theorem dX5_isDigit_16 : decode cX5_isDigit 16 = .ok (.iconst 0, 1) := by decide +kernel
theorem dX5_isDigit_17 : decode cX5_isDigit 17 = .ok (.ireturn, 1) := by decide +kernel
theorem dX5_isSignOfWord_0 : decode cX5_isSignOfWord 0 = .ok (.iload_n 0, 1) := by decide +kernel
theorem dX5_isSignOfWord_1 : decode cX5_isSignOfWord 1 = .ok (.bipush 97, 2) := by decide +kernel
theorem dX5_isSignOfWord_3 : decode cX5_isSignOfWord 3 = .ok (.if_icmp .lt 9, 3) := by decide +kernel
theorem dX5_isSignOfWord_6 : decode cX5_isSignOfWord 6 = .ok (.iload_n 0, 1) := by decide +kernel
theorem dX5_isSignOfWord_7 : decode cX5_isSignOfWord 7 = .ok (.bipush 122, 2) := by decide +kernel
theorem dX5_isSignOfWord_9 : decode cX5_isSignOfWord 9 = .ok (.if_icmp .le 40, 3) := by decide +kernel
theorem dX5_isSignOfWord_12 : decode cX5_isSignOfWord 12 = .ok (.iload_n 0, 1) := by decide +kernel
theorem dX5_isSignOfWord_13 : decode cX5_isSignOfWord 13 = .ok (.bipush 65, 2) := by decide +kernel
theorem dX5_isSignOfWord_15 : decode cX5_isSignOfWord 15 = .ok (.if_icmp .lt 9, 3) := by decide +kernel
theorem dX5_isSignOfWord_18 : decode cX5_isSignOfWord 18 = .ok (.iload_n 0, 1) := by decide +kernel
theorem dX5_isSignOfWord_19 : decode cX5_isSignOfWord 19 = .ok (.bipush 90, 2) := by decide +kernel
theorem dX5_isSignOfWord_21 : decode cX5_isSignOfWord 21 = .ok (.if_icmp .le 28, 3) := by decide +kernel
theorem dX5_isSignOfWord_24 : decode cX5_isSignOfWord 24 = .ok (.iload_n 0, 1) := by decide +kernel
theorem dX5_isSignOfWord_25 : decode cX5_isSignOfWord 25 = .ok (.invokestatic 40, 3) := by decide +kernel
theorem dX5_isSignOfWord_28 : decode cX5_isSignOfWord 28 = .ok (.ifCond .ne 21, 3) := by decide +kernel
theorem dX5_isSignOfWord_31 : decode cX5_isSignOfWord 31 = .ok (.iload_n 0, 1) := by decide +kernel
theorem dX5_isSignOfWord_32 : decode cX5_isSignOfWord 32 = .ok (.bipush 46, 2) := by decide +kernel
theorem dX5_isSignOfWord_34 : decode cX5_isSignOfWord 34 = .ok (.if_icmp .eq 15, 3) := by decide +kernel
theorem dX5_isSignOfWord_37 : decode cX5_isSignOfWord 37 = .ok (.iload_n 0, 1) := by decide +kernel
theorem dX5_isSignOfWord_38 : decode cX5_isSignOfWord 38 = .ok (.bipush 44, 2) := by decide +kernel
theorem dX5_isSignOfWord_40 : decode cX5_isSignOfWord 40 = .ok (.if_icmp .eq 9, 3) := by decide +kernel
theorem dX5_isSignOfWord_43 : decode cX5_isSignOfWord 43 = .ok (.iload_n 0, 1) := by decide +kernel
theorem dX5_isSignOfWord_44 : decode cX5_isSignOfWord 44 = .ok (.bipush 39, 2) := by decide +kernel
theorem dX5_isSignOfWord_46 : decode cX5_isSignOfWord 46 = .ok (.if_icmp .ne 7, 3) := by decide +kernel
theorem dX5_isSignOfWord_49 : decode cX5_isSignOfWord 49 = .ok (.iconst 1, 1) := by decide +kernel
theorem dX5_isSignOfWord_50 : decode cX5_isSignOfWord 50 = .ok (.goto 4, 3) := by decide +kernel
theorem dX5_isSignOfWord_53 : decode cX5_isSignOfWord 53 = .ok (.iconst 0, 1) := by decide +kernel
theorem dX5_isSignOfWord_54 : decode cX5_isSignOfWord 54 = .ok (.ireturn, 1) := by decide +kernel
theorem dX6_init_0 : decode cX6_init 0 = .ok (.aload_n 0, 1) := by decide +kernel
theorem dX6_init_1 : decode cX6_init 1 = .ok (.invokespecial 3, 3) := by decide +kernel
theorem dX6_init_4 : decode cX6_init 4 = .ok (.aload_n 0, 1) := by decide +kernel
theorem dX6_init_5 : decode cX6_init 5 = .ok (.aload_n 1, 1) := by decide +kernel
theorem dX6_init_6 : decode cX6_init 6 = .ok (.putfield 9, 3) := by decide +kernel
theorem dX6_init_9 : decode cX6_init 9 = .ok (.iconst 0, 1) := by decide +kernel
theorem dX6_init_10 : decode cX6_init 10 = .ok (.istore_n 2, 1) := by decide +kernel
theorem dX6_init_11 : decode cX6_init 11 = .ok (.aload_n 1, 1) := by decide +kernel
theorem dX6_init_12 : decode cX6_init 12 = .ok (.astore_n 3, 1) := by decide +kernel
theorem dX6_init_13 : decode cX6_init 13 = .ok (.aload_n 3, 1) := by decide +kernel
theorem dX6_init_14 : decode cX6_init 14 = .ok (.arraylength, 1) := by decide +kernel
theorem dX6_init_15 : decode cX6_init 15 = .ok (.istore 4, 2) := by decide +kernel
theorem dX6_init_17 : decode cX6_init 17 = .ok (.iconst 0, 1) := by decide +kernel
theorem dX6_init_18 : decode cX6_init 18 = .ok (.istore 5, 2) := by decide +kernel
theorem dX6_init_20 : decode cX6_init 20 = .ok (.iload 5, 2) := by decide +kernel
theorem dX6_init_22 : decode cX6_init 22 = .ok (.iload 4, 2) := by decide +kernel
theorem dX6_init_24 : decode cX6_init 24 = .ok (.if_icmp .ge 30, 3) := by decide +kernel
theorem dX6_init_27 : decode cX6_init 27 = .ok (.aload_n 3, 1) := by decide +kernel
theorem dX6_init_28 : decode cX6_init 28 = .ok (.iload 5, 2) := by decide +kernel
theorem dX6_init_30 : decode cX6_init 30 = .ok (.caload, 1) := by decide +kernel
theorem dX6_init_31 : decode cX6_init 31 = .ok (.istore 6, 2) := by decide +kernel
theorem dX6_init_33 : decode cX6_init 33 = .ok (.iload_n 2, 1) := by decide +kernel
theorem dX6_init_34 : decode cX6_init 34 = .ok (.iload 6, 2) := by decide +kernel
theorem dX6_init_36 : decode cX6_init 36 = .ok (.bipush 32, 2) := by decide +kernel
theorem dX6_init_38 : decode cX6_init 38 = .ok (.if_icmp .ne 7, 3) := by decide +kernel
theorem dX6_init_41 : decode cX6_init 41 = .ok (.iconst 1, 1) := by decide +kernel
theorem dX6_init_42 : decode cX6_init 42 = .ok (.goto 4, 3) := by decide +kernel
theorem dX6_init_45 : decode cX6_init 45 = .ok (.iconst 0, 1) := by decide +kernel
theorem dX6_init_46 : decode cX6_init 46 = .ok (.iadd, 1) := by decide +kernel
theorem dX6_init_47 : decode cX6_init 47 = .ok (.istore_n 2, 1) := by decide +kernel
theorem dX6_init_48 : decode cX6_init 48 = .ok (.iinc 5 1, 3) := by decide +kernel
theorem dX6_init_51 : decode cX6_init 51 = .ok (.goto (-31), 3) := by decide +kernel
theorem dX6_init_54 : decode cX6_init 54 = .ok (.aload_n 0, 1) := by decide +kernel
theorem dX6_init_55 : decode cX6_init 55 = .ok (.iload_n 2, 1) := by decide +kernel
theorem dX6_init_56 : decode cX6_init 56 = .ok (.iconst 2, 1) := by decide +kernel
theorem dX6_init_57 : decode cX6_init 57 = .ok (.iadd, 1) := by decide +kernel
theorem dX6_init_58 : decode cX6_init 58 = .ok (.newarray .int, 2) := by decide +kernel
theorem dX6_init_60 : decode cX6_init 60 = .ok (.putfield 15, 3) := by decide +kernel
theorem dX6_init_63 : decode cX6_init 63 = .ok (.iconst 0, 1) := by decide +kernel
theorem dX6_init_64 : decode cX6_init 64 = .ok (.istore_n 3, 1) := by decide +kernel
theorem dX6_init_65 : decode cX6_init 65 = .ok (.iconst 0, 1) := by decide +kernel
theorem dX6_init_66 : decode cX6_init 66 = .ok (.istore 4, 2) := by decide +kernel
theorem dX6_init_68 : decode cX6_init 68 = .ok (.iload 4, 2) := by decide +kernel
theorem dX6_init_70 : decode cX6_init 70 = .ok (.aload_n 1, 1) := by decide +kernel
theorem dX6_init_71 : decode cX6_init 71 = .ok (.arraylength, 1) := by decide +kernel
theorem dX6_init_72 : decode cX6_init 72 = .ok (.if_icmp .ge 36, 3) := by decide +kernel
theorem dX6_init_75 : decode cX6_init 75 = .ok (.aload_n 1, 1) := by decide +kernel
theorem dX6_init_76 : decode cX6_init 76 = .ok (.iload 4, 2) := by decide +kernel
theorem dX6_init_78 : decode cX6_init 78 = .ok (.caload, 1) := by decide +kernel
theorem dX6_init_79 : decode cX6_init 79 = .ok (.bipush 32, 2) := by decide +kernel
theorem dX6_init_81 : decode cX6_init 81 = .ok (.if_icmp .ne 21, 3) := by decide +kernel
theorem dX6_init_84 : decode cX6_init 84 = .ok (.iload_n 3, 1) := by decide +kernel
theorem dX6_init_85 : decode cX6_init 85 = .ok (.iload_n 2, 1) := by decide +kernel
theorem dX6_init_86 : decode cX6_init 86 = .ok (.if_icmp .ge 16, 3) := by decide +kernel
theorem dX6_init_89 : decode cX6_init 89 = .ok (.iinc 3 1, 3) := by decide +kernel
theorem dX6_init_92 : decode cX6_init 92 = .ok (.aload_n 0, 1) := by decide +kernel
theorem dX6_init_93 : decode cX6_init 93 = .ok (.getfield 15, 3) := by decide +kernel
theorem dX6_init_96 : decode cX6_init 96 = .ok (.iload_n 3, 1) := by decide +kernel
theorem dX6_init_97 : decode cX6_init 97 = .ok (.iload 4, 2) := by decide +kernel
theorem dX6_init_99 : decode cX6_init 99 = .ok (.iconst 1, 1) := by decide +kernel
theorem dX6_init_100 : decode cX6_init 100 = .ok (.iadd, 1) := by decide +kernel
theorem dX6_init_101 : decode cX6_init 101 = .ok (.iastore, 1) := by decide +kernel
theorem dX6_init_102 : decode cX6_init 102 = .ok (.iinc 4 1, 3) := by decide +kernel
theorem dX6_init_105 : decode cX6_init 105 = .ok (.goto (-37), 3) := by decide +kernel
theorem dX6_init_108 : decode cX6_init 108 = .ok (.aload_n 0, 1) := by decide +kernel
theorem dX6_init_109 : decode cX6_init 109 = .ok (.getfield 15, 3) := by decide +kernel
theorem dX6_init_112 : decode cX6_init 112 = .ok (.iload_n 2, 1) := by decide +kernel
theorem dX6_init_113 : decode cX6_init 113 = .ok (.iconst 1, 1) := by decide +kernel
theorem dX6_init_114 : decode cX6_init 114 = .ok (.iadd, 1) := by decide +kernel
theorem dX6_init_115 : decode cX6_init 115 = .ok (.aload_n 1, 1) := by decide +kernel
theorem dX6_init_116 : decode cX6_init 116 = .ok (.arraylength, 1) := by decide +kernel
theorem dX6_init_117 : decode cX6_init 117 = .ok (.iconst 1, 1) := by decide +kernel
theorem dX6_init_118 : decode cX6_init 118 = .ok (.iadd, 1) := by decide +kernel
theorem dX6_init_119 : decode cX6_init 119 = .ok (.iastore, 1) := by decide +kernel
theorem dX6_init_120 : decode cX6_init 120 = .ok (.return_, 1) := by decide +kernel
theorem dX6_size_0 : decode cX6_size 0 = .ok (.aload_n 0, 1) := by decide +kernel
theorem dX6_size_1 : decode cX6_size 1 = .ok (.getfield 15, 3) := by decide +kernel
theorem dX6_size_4 : decode cX6_size 4 = .ok (.arraylength, 1) := by decide +kernel
theorem dX6_size_5 : decode cX6_size 5 = .ok (.iconst 1, 1) := by decide +kernel
theorem dX6_size_6 : decode cX6_size 6 = .ok (.isub, 1) := by decide +kernel
theorem dX6_size_7 : decode cX6_size 7 = .ok (.ireturn, 1) := by decide +kernel
theorem dX6_length_0 : decode cX6_length 0 = .ok (.aload_n 0, 1) := by decide +kernel
theorem dX6_length_1 : decode cX6_length 1 = .ok (.getfield 9, 3) := by decide +kernel
theorem dX6_length_4 : decode cX6_length 4 = .ok (.arraylength, 1) := by decide +kernel
theorem dX6_length_5 : decode cX6_length 5 = .ok (.ireturn, 1) := by decide +kernel
theorem dX6_startOf_0 : decode cX6_startOf 0 = .ok (.iload_n 1, 1) := by decide +kernel
theorem dX6_startOf_1 : decode cX6_startOf 1 = .ok (.ifCond .lt 21, 3) := by decide +kernel
theorem dX6_startOf_4 : decode cX6_startOf 4 = .ok (.iload_n 1, 1) := by decide +kernel
theorem dX6_startOf_5 : decode cX6_startOf 5 = .ok (.aload_n 0, 1) := by decide +kernel
theorem dX6_startOf_6 : decode cX6_startOf 6 = .ok (.getfield 15, 3) := by decide +kernel
theorem dX6_startOf_9 : decode cX6_startOf 9 = .ok (.arraylength, 1) := by decide +kernel
theorem dX6_startOf_10 : decode cX6_startOf 10 = .ok (.if_icmp .ge 12, 3) := by decide +kernel
theorem dX6_startOf_13 : decode cX6_startOf 13 = .ok (.aload_n 0, 1) := by decide +kernel
theorem dX6_startOf_14 : decode cX6_startOf 14 = .ok (.getfield 15, 3) := by decide +kernel
theorem dX6_startOf_17 : decode cX6_startOf 17 = .ok (.iload_n 1, 1) := by decide +kernel
theorem dX6_startOf_18 : decode cX6_startOf 18 = .ok (.iaload, 1) := by decide +kernel
theorem dX6_startOf_19 : decode cX6_startOf 19 = .ok (.goto 10, 3) := by decide +kernel
theorem dX6_startOf_22 : decode cX6_startOf 22 = .ok (.aload_n 0, 1) := by decide +kernel
theorem dX6_startOf_23 : decode cX6_startOf 23 = .ok (.getfield 9, 3) := by decide +kernel
theorem dX6_startOf_26 : decode cX6_startOf 26 = .ok (.arraylength, 1) := by decide +kernel
theorem dX6_startOf_27 : decode cX6_startOf 27 = .ok (.iconst 1, 1) := by decide +kernel
theorem dX6_startOf_28 : decode cX6_startOf 28 = .ok (.iadd, 1) := by decide +kernel
theorem dX6_startOf_29 : decode cX6_startOf 29 = .ok (.ireturn, 1) := by decide +kernel
theorem dX6_endOf_0 : decode cX6_endOf 0 = .ok (.iload_n 1, 1) := by decide +kernel
theorem dX6_endOf_1 : decode cX6_endOf 1 = .ok (.iconst 1, 1) := by decide +kernel
theorem dX6_endOf_2 : decode cX6_endOf 2 = .ok (.iadd, 1) := by decide +kernel
theorem dX6_endOf_3 : decode cX6_endOf 3 = .ok (.istore_n 2, 1) := by decide +kernel
theorem dX6_endOf_4 : decode cX6_endOf 4 = .ok (.iload_n 2, 1) := by decide +kernel
theorem dX6_endOf_5 : decode cX6_endOf 5 = .ok (.ifCond .lt 23, 3) := by decide +kernel
theorem dX6_endOf_8 : decode cX6_endOf 8 = .ok (.iload_n 2, 1) := by decide +kernel
theorem dX6_endOf_9 : decode cX6_endOf 9 = .ok (.aload_n 0, 1) := by decide +kernel
theorem dX6_endOf_10 : decode cX6_endOf 10 = .ok (.getfield 15, 3) := by decide +kernel
theorem dX6_endOf_13 : decode cX6_endOf 13 = .ok (.arraylength, 1) := by decide +kernel
theorem dX6_endOf_14 : decode cX6_endOf 14 = .ok (.if_icmp .ge 14, 3) := by decide +kernel
theorem dX6_endOf_17 : decode cX6_endOf 17 = .ok (.aload_n 0, 1) := by decide +kernel
theorem dX6_endOf_18 : decode cX6_endOf 18 = .ok (.getfield 15, 3) := by decide +kernel
theorem dX6_endOf_21 : decode cX6_endOf 21 = .ok (.iload_n 2, 1) := by decide +kernel
theorem dX6_endOf_22 : decode cX6_endOf 22 = .ok (.iaload, 1) := by decide +kernel
theorem dX6_endOf_23 : decode cX6_endOf 23 = .ok (.iconst 1, 1) := by decide +kernel
theorem dX6_endOf_24 : decode cX6_endOf 24 = .ok (.isub, 1) := by decide +kernel
theorem dX6_endOf_25 : decode cX6_endOf 25 = .ok (.goto 8, 3) := by decide +kernel
theorem dX6_endOf_28 : decode cX6_endOf 28 = .ok (.aload_n 0, 1) := by decide +kernel
theorem dX6_endOf_29 : decode cX6_endOf 29 = .ok (.getfield 9, 3) := by decide +kernel
theorem dX6_endOf_32 : decode cX6_endOf 32 = .ok (.arraylength, 1) := by decide +kernel
theorem dX6_endOf_33 : decode cX6_endOf 33 = .ok (.ireturn, 1) := by decide +kernel
theorem dX6_signAt_0 : decode cX6_signAt 0 = .ok (.iload_n 1, 1) := by decide +kernel
theorem dX6_signAt_1 : decode cX6_signAt 1 = .ok (.ifCond .lt 21, 3) := by decide +kernel
theorem dX6_signAt_4 : decode cX6_signAt 4 = .ok (.iload_n 1, 1) := by decide +kernel
theorem dX6_signAt_5 : decode cX6_signAt 5 = .ok (.aload_n 0, 1) := by decide +kernel
theorem dX6_signAt_6 : decode cX6_signAt 6 = .ok (.getfield 9, 3) := by decide +kernel
theorem dX6_signAt_9 : decode cX6_signAt 9 = .ok (.arraylength, 1) := by decide +kernel
theorem dX6_signAt_10 : decode cX6_signAt 10 = .ok (.if_icmp .ge 12, 3) := by decide +kernel
theorem dX6_signAt_13 : decode cX6_signAt 13 = .ok (.aload_n 0, 1) := by decide +kernel
theorem dX6_signAt_14 : decode cX6_signAt 14 = .ok (.getfield 9, 3) := by decide +kernel
theorem dX6_signAt_17 : decode cX6_signAt 17 = .ok (.iload_n 1, 1) := by decide +kernel
theorem dX6_signAt_18 : decode cX6_signAt 18 = .ok (.caload, 1) := by decide +kernel
theorem dX6_signAt_19 : decode cX6_signAt 19 = .ok (.goto 5, 3) := by decide +kernel
theorem dX6_signAt_22 : decode cX6_signAt 22 = .ok (.bipush 32, 2) := by decide +kernel
theorem dX6_signAt_24 : decode cX6_signAt 24 = .ok (.ireturn, 1) := by decide +kernel
theorem dX6_referenceOf_0 : decode cX6_referenceOf 0 = .ok (.aload_n 0, 1) := by decide +kernel
theorem dX6_referenceOf_1 : decode cX6_referenceOf 1 = .ok (.iload_n 1, 1) := by decide +kernel
theorem dX6_referenceOf_2 : decode cX6_referenceOf 2 = .ok (.invokevirtual 19, 3) := by decide +kernel
theorem dX6_referenceOf_5 : decode cX6_referenceOf 5 = .ok (.istore_n 2, 1) := by decide +kernel
theorem dX6_referenceOf_6 : decode cX6_referenceOf 6 = .ok (.aload_n 0, 1) := by decide +kernel
theorem dX6_referenceOf_7 : decode cX6_referenceOf 7 = .ok (.iload_n 2, 1) := by decide +kernel
theorem dX6_referenceOf_8 : decode cX6_referenceOf 8 = .ok (.iconst 2, 1) := by decide +kernel
theorem dX6_referenceOf_9 : decode cX6_referenceOf 9 = .ok (.isub, 1) := by decide +kernel
theorem dX6_referenceOf_10 : decode cX6_referenceOf 10 = .ok (.invokevirtual 23, 3) := by decide +kernel
theorem dX6_referenceOf_13 : decode cX6_referenceOf 13 = .ok (.bipush 94, 2) := by decide +kernel
theorem dX6_referenceOf_15 : decode cX6_referenceOf 15 = .ok (.if_icmp .ne 16, 3) := by decide +kernel
theorem dX6_referenceOf_18 : decode cX6_referenceOf 18 = .ok (.aload_n 0, 1) := by decide +kernel
theorem dX6_referenceOf_19 : decode cX6_referenceOf 19 = .ok (.iload_n 2, 1) := by decide +kernel
theorem dX6_referenceOf_20 : decode cX6_referenceOf 20 = .ok (.iconst 1, 1) := by decide +kernel
theorem dX6_referenceOf_21 : decode cX6_referenceOf 21 = .ok (.isub, 1) := by decide +kernel
theorem dX6_referenceOf_22 : decode cX6_referenceOf 22 = .ok (.invokevirtual 23, 3) := by decide +kernel
theorem dX6_referenceOf_25 : decode cX6_referenceOf 25 = .ok (.bipush 48, 2) := by decide +kernel
theorem dX6_referenceOf_27 : decode cX6_referenceOf 27 = .ok (.isub, 1) := by decide +kernel
theorem dX6_referenceOf_28 : decode cX6_referenceOf 28 = .ok (.goto 4, 3) := by decide +kernel
theorem dX6_referenceOf_31 : decode cX6_referenceOf 31 = .ok (.iconst (-1), 1) := by decide +kernel
theorem dX6_referenceOf_32 : decode cX6_referenceOf 32 = .ok (.ireturn, 1) := by decide +kernel
theorem dX6_lineEnd_0 : decode cX6_lineEnd 0 = .ok (.aload_n 0, 1) := by decide +kernel
theorem dX6_lineEnd_1 : decode cX6_lineEnd 1 = .ok (.iload_n 1, 1) := by decide +kernel
theorem dX6_lineEnd_2 : decode cX6_lineEnd 2 = .ok (.invokevirtual 26, 3) := by decide +kernel
theorem dX6_lineEnd_5 : decode cX6_lineEnd 5 = .ok (.istore 4, 2) := by decide +kernel
theorem dX6_lineEnd_7 : decode cX6_lineEnd 7 = .ok (.iload_n 1, 1) := by decide +kernel
theorem dX6_lineEnd_8 : decode cX6_lineEnd 8 = .ok (.iconst 1, 1) := by decide +kernel
theorem dX6_lineEnd_9 : decode cX6_lineEnd 9 = .ok (.iadd, 1) := by decide +kernel
theorem dX6_lineEnd_10 : decode cX6_lineEnd 10 = .ok (.istore 5, 2) := by decide +kernel
theorem dX6_lineEnd_12 : decode cX6_lineEnd 12 = .ok (.iload 5, 2) := by decide +kernel
theorem dX6_lineEnd_14 : decode cX6_lineEnd 14 = .ok (.iload_n 2, 1) := by decide +kernel
theorem dX6_lineEnd_15 : decode cX6_lineEnd 15 = .ok (.if_icmp .ge 22, 3) := by decide +kernel
theorem dX6_lineEnd_18 : decode cX6_lineEnd 18 = .ok (.aload_n 0, 1) := by decide +kernel
theorem dX6_lineEnd_19 : decode cX6_lineEnd 19 = .ok (.iload 5, 2) := by decide +kernel
theorem dX6_lineEnd_21 : decode cX6_lineEnd 21 = .ok (.invokevirtual 19, 3) := by decide +kernel
theorem dX6_lineEnd_24 : decode cX6_lineEnd 24 = .ok (.iload 4, 2) := by decide +kernel
theorem dX6_lineEnd_26 : decode cX6_lineEnd 26 = .ok (.isub, 1) := by decide +kernel
theorem dX6_lineEnd_27 : decode cX6_lineEnd 27 = .ok (.iload_n 3, 1) := by decide +kernel
theorem dX6_lineEnd_28 : decode cX6_lineEnd 28 = .ok (.if_icmp .gt 9, 3) := by decide +kernel
theorem dX6_lineEnd_31 : decode cX6_lineEnd 31 = .ok (.iinc 5 1, 3) := by decide +kernel
theorem dX6_lineEnd_34 : decode cX6_lineEnd 34 = .ok (.goto (-22), 3) := by decide +kernel
theorem dX6_lineEnd_37 : decode cX6_lineEnd 37 = .ok (.iload 5, 2) := by decide +kernel
theorem dX6_lineEnd_39 : decode cX6_lineEnd 39 = .ok (.ireturn, 1) := by decide +kernel
theorem dX6_firstOfLine_0 : decode cX6_firstOfLine 0 = .ok (.iconst 0, 1) := by decide +kernel
theorem dX6_firstOfLine_1 : decode cX6_firstOfLine 1 = .ok (.istore_n 3, 1) := by decide +kernel
theorem dX6_firstOfLine_2 : decode cX6_firstOfLine 2 = .ok (.iconst 0, 1) := by decide +kernel
theorem dX6_firstOfLine_3 : decode cX6_firstOfLine 3 = .ok (.istore 4, 2) := by decide +kernel
theorem dX6_firstOfLine_5 : decode cX6_firstOfLine 5 = .ok (.iload 4, 2) := by decide +kernel
theorem dX6_firstOfLine_7 : decode cX6_firstOfLine 7 = .ok (.iload_n 1, 1) := by decide +kernel
theorem dX6_firstOfLine_8 : decode cX6_firstOfLine 8 = .ok (.if_icmp .ge 28, 3) := by decide +kernel
theorem dX6_firstOfLine_11 : decode cX6_firstOfLine 11 = .ok (.iload_n 3, 1) := by decide +kernel
theorem dX6_firstOfLine_12 : decode cX6_firstOfLine 12 = .ok (.aload_n 0, 1) := by decide +kernel
theorem dX6_firstOfLine_13 : decode cX6_firstOfLine 13 = .ok (.invokevirtual 29, 3) := by decide +kernel
theorem dX6_firstOfLine_16 : decode cX6_firstOfLine 16 = .ok (.if_icmp .ge 20, 3) := by decide +kernel
theorem dX6_firstOfLine_19 : decode cX6_firstOfLine 19 = .ok (.aload_n 0, 1) := by decide +kernel
theorem dX6_firstOfLine_20 : decode cX6_firstOfLine 20 = .ok (.iload_n 3, 1) := by decide +kernel
theorem dX6_firstOfLine_21 : decode cX6_firstOfLine 21 = .ok (.aload_n 0, 1) := by decide +kernel
theorem dX6_firstOfLine_22 : decode cX6_firstOfLine 22 = .ok (.invokevirtual 29, 3) := by decide +kernel
theorem dX6_firstOfLine_25 : decode cX6_firstOfLine 25 = .ok (.iload_n 2, 1) := by decide +kernel
theorem dX6_firstOfLine_26 : decode cX6_firstOfLine 26 = .ok (.invokevirtual 33, 3) := by decide +kernel
theorem dX6_firstOfLine_29 : decode cX6_firstOfLine 29 = .ok (.istore_n 3, 1) := by decide +kernel
theorem dX6_firstOfLine_30 : decode cX6_firstOfLine 30 = .ok (.iinc 4 1, 3) := by decide +kernel
theorem dX6_firstOfLine_33 : decode cX6_firstOfLine 33 = .ok (.goto (-28), 3) := by decide +kernel
theorem dX6_firstOfLine_36 : decode cX6_firstOfLine 36 = .ok (.iload_n 3, 1) := by decide +kernel
theorem dX6_firstOfLine_37 : decode cX6_firstOfLine 37 = .ok (.ireturn, 1) := by decide +kernel
theorem dX6_linesWithin_0 : decode cX6_linesWithin 0 = .ok (.iconst 0, 1) := by decide +kernel
theorem dX6_linesWithin_1 : decode cX6_linesWithin 1 = .ok (.istore_n 2, 1) := by decide +kernel
theorem dX6_linesWithin_2 : decode cX6_linesWithin 2 = .ok (.iconst 0, 1) := by decide +kernel
theorem dX6_linesWithin_3 : decode cX6_linesWithin 3 = .ok (.istore_n 3, 1) := by decide +kernel
theorem dX6_linesWithin_4 : decode cX6_linesWithin 4 = .ok (.iload_n 3, 1) := by decide +kernel
theorem dX6_linesWithin_5 : decode cX6_linesWithin 5 = .ok (.aload_n 0, 1) := by decide +kernel
theorem dX6_linesWithin_6 : decode cX6_linesWithin 6 = .ok (.invokevirtual 29, 3) := by decide +kernel
theorem dX6_linesWithin_9 : decode cX6_linesWithin 9 = .ok (.if_icmp .ge 28, 3) := by decide +kernel
theorem dX6_linesWithin_12 : decode cX6_linesWithin 12 = .ok (.iload_n 2, 1) := by decide +kernel
theorem dX6_linesWithin_13 : decode cX6_linesWithin 13 = .ok (.aload_n 0, 1) := by decide +kernel
theorem dX6_linesWithin_14 : decode cX6_linesWithin 14 = .ok (.invokevirtual 29, 3) := by decide +kernel
theorem dX6_linesWithin_17 : decode cX6_linesWithin 17 = .ok (.if_icmp .ge 20, 3) := by decide +kernel
theorem dX6_linesWithin_20 : decode cX6_linesWithin 20 = .ok (.aload_n 0, 1) := by decide +kernel
theorem dX6_linesWithin_21 : decode cX6_linesWithin 21 = .ok (.iload_n 3, 1) := by decide +kernel
theorem dX6_linesWithin_22 : decode cX6_linesWithin 22 = .ok (.aload_n 0, 1) := by decide +kernel
theorem dX6_linesWithin_23 : decode cX6_linesWithin 23 = .ok (.invokevirtual 29, 3) := by decide +kernel
theorem dX6_linesWithin_26 : decode cX6_linesWithin 26 = .ok (.iload_n 1, 1) := by decide +kernel
theorem dX6_linesWithin_27 : decode cX6_linesWithin 27 = .ok (.invokevirtual 33, 3) := by decide +kernel
theorem dX6_linesWithin_30 : decode cX6_linesWithin 30 = .ok (.istore_n 3, 1) := by decide +kernel
theorem dX6_linesWithin_31 : decode cX6_linesWithin 31 = .ok (.iinc 2 1, 3) := by decide +kernel
theorem dX6_linesWithin_34 : decode cX6_linesWithin 34 = .ok (.goto (-30), 3) := by decide +kernel
theorem dX6_linesWithin_37 : decode cX6_linesWithin 37 = .ok (.iload_n 2, 1) := by decide +kernel
theorem dX6_linesWithin_38 : decode cX6_linesWithin 38 = .ok (.ireturn, 1) := by decide +kernel
theorem dX6_signOfLine_0 : decode cX6_signOfLine 0 = .ok (.aload_n 0, 1) := by decide +kernel
theorem dX6_signOfLine_1 : decode cX6_signOfLine 1 = .ok (.iload_n 1, 1) := by decide +kernel
theorem dX6_signOfLine_2 : decode cX6_signOfLine 2 = .ok (.invokevirtual 26, 3) := by decide +kernel
theorem dX6_signOfLine_5 : decode cX6_signOfLine 5 = .ok (.iload 4, 2) := by decide +kernel
theorem dX6_signOfLine_7 : decode cX6_signOfLine 7 = .ok (.iadd, 1) := by decide +kernel
theorem dX6_signOfLine_8 : decode cX6_signOfLine 8 = .ok (.iload_n 3, 1) := by decide +kernel
theorem dX6_signOfLine_9 : decode cX6_signOfLine 9 = .ok (.isub, 1) := by decide +kernel
theorem dX6_signOfLine_10 : decode cX6_signOfLine 10 = .ok (.istore 5, 2) := by decide +kernel
theorem dX6_signOfLine_12 : decode cX6_signOfLine 12 = .ok (.iload 4, 2) := by decide +kernel
theorem dX6_signOfLine_14 : decode cX6_signOfLine 14 = .ok (.iload_n 3, 1) := by decide +kernel
theorem dX6_signOfLine_15 : decode cX6_signOfLine 15 = .ok (.if_icmp .lt 24, 3) := by decide +kernel
theorem dX6_signOfLine_18 : decode cX6_signOfLine 18 = .ok (.iload 5, 2) := by decide +kernel
theorem dX6_signOfLine_20 : decode cX6_signOfLine 20 = .ok (.aload_n 0, 1) := by decide +kernel
theorem dX6_signOfLine_21 : decode cX6_signOfLine 21 = .ok (.iload_n 2, 1) := by decide +kernel
theorem dX6_signOfLine_22 : decode cX6_signOfLine 22 = .ok (.iconst 1, 1) := by decide +kernel
theorem dX6_signOfLine_23 : decode cX6_signOfLine 23 = .ok (.isub, 1) := by decide +kernel
theorem dX6_signOfLine_24 : decode cX6_signOfLine 24 = .ok (.invokevirtual 19, 3) := by decide +kernel
theorem dX6_signOfLine_27 : decode cX6_signOfLine 27 = .ok (.if_icmp .ge 12, 3) := by decide +kernel
theorem dX6_signOfLine_30 : decode cX6_signOfLine 30 = .ok (.aload_n 0, 1) := by decide +kernel
theorem dX6_signOfLine_31 : decode cX6_signOfLine 31 = .ok (.iload 5, 2) := by decide +kernel
theorem dX6_signOfLine_33 : decode cX6_signOfLine 33 = .ok (.invokevirtual 23, 3) := by decide +kernel
theorem dX6_signOfLine_36 : decode cX6_signOfLine 36 = .ok (.goto 5, 3) := by decide +kernel
theorem dX6_signOfLine_39 : decode cX6_signOfLine 39 = .ok (.bipush 32, 2) := by decide +kernel
theorem dX6_signOfLine_41 : decode cX6_signOfLine 41 = .ok (.ireturn, 1) := by decide +kernel
theorem dX6_spliced_0 : decode cX6_spliced 0 = .ok (.iload_n 1, 1) := by decide +kernel
theorem dX6_spliced_1 : decode cX6_spliced 1 = .ok (.ifCond .lt 17, 3) := by decide +kernel
theorem dX6_spliced_4 : decode cX6_spliced 4 = .ok (.iload_n 2, 1) := by decide +kernel
theorem dX6_spliced_5 : decode cX6_spliced 5 = .ok (.iload_n 1, 1) := by decide +kernel
theorem dX6_spliced_6 : decode cX6_spliced 6 = .ok (.if_icmp .lt 12, 3) := by decide +kernel
theorem dX6_spliced_9 : decode cX6_spliced 9 = .ok (.iload_n 2, 1) := by decide +kernel
theorem dX6_spliced_10 : decode cX6_spliced 10 = .ok (.aload_n 0, 1) := by decide +kernel
theorem dX6_spliced_11 : decode cX6_spliced 11 = .ok (.getfield 9, 3) := by decide +kernel
theorem dX6_spliced_14 : decode cX6_spliced 14 = .ok (.arraylength, 1) := by decide +kernel
theorem dX6_spliced_15 : decode cX6_spliced 15 = .ok (.if_icmp .le 5, 3) := by decide +kernel
theorem dX6_spliced_18 : decode cX6_spliced 18 = .ok (.aload_n 0, 1) := by decide +kernel
theorem dX6_spliced_19 : decode cX6_spliced 19 = .ok (.areturn, 1) := by decide +kernel
theorem dX6_spliced_20 : decode cX6_spliced 20 = .ok (.aload_n 0, 1) := by decide +kernel
theorem dX6_spliced_21 : decode cX6_spliced 21 = .ok (.getfield 9, 3) := by decide +kernel
theorem dX6_spliced_24 : decode cX6_spliced 24 = .ok (.arraylength, 1) := by decide +kernel
theorem dX6_spliced_25 : decode cX6_spliced 25 = .ok (.iload_n 2, 1) := by decide +kernel
theorem dX6_spliced_26 : decode cX6_spliced 26 = .ok (.iload_n 1, 1) := by decide +kernel
theorem dX6_spliced_27 : decode cX6_spliced 27 = .ok (.isub, 1) := by decide +kernel
theorem dX6_spliced_28 : decode cX6_spliced 28 = .ok (.isub, 1) := by decide +kernel
theorem dX6_spliced_29 : decode cX6_spliced 29 = .ok (.aload_n 3, 1) := by decide +kernel
theorem dX6_spliced_30 : decode cX6_spliced 30 = .ok (.arraylength, 1) := by decide +kernel
theorem dX6_spliced_31 : decode cX6_spliced 31 = .ok (.iadd, 1) := by decide +kernel
theorem dX6_spliced_32 : decode cX6_spliced 32 = .ok (.newarray .char, 2) := by decide +kernel
theorem dX6_spliced_34 : decode cX6_spliced 34 = .ok (.astore 4, 2) := by decide +kernel
theorem dX6_spliced_36 : decode cX6_spliced 36 = .ok (.aload_n 0, 1) := by decide +kernel
theorem dX6_spliced_37 : decode cX6_spliced 37 = .ok (.getfield 9, 3) := by decide +kernel
theorem dX6_spliced_40 : decode cX6_spliced 40 = .ok (.iconst 0, 1) := by decide +kernel
theorem dX6_spliced_41 : decode cX6_spliced 41 = .ok (.aload 4, 2) := by decide +kernel
theorem dX6_spliced_43 : decode cX6_spliced 43 = .ok (.iconst 0, 1) := by decide +kernel
theorem dX6_spliced_44 : decode cX6_spliced 44 = .ok (.iload_n 1, 1) := by decide +kernel
theorem dX6_spliced_45 : decode cX6_spliced 45 = .ok (.invokestatic 37, 3) := by decide +kernel
theorem dX6_spliced_48 : decode cX6_spliced 48 = .ok (.aload_n 3, 1) := by decide +kernel
theorem dX6_spliced_49 : decode cX6_spliced 49 = .ok (.iconst 0, 1) := by decide +kernel
theorem dX6_spliced_50 : decode cX6_spliced 50 = .ok (.aload 4, 2) := by decide +kernel
theorem dX6_spliced_52 : decode cX6_spliced 52 = .ok (.iload_n 1, 1) := by decide +kernel
theorem dX6_spliced_53 : decode cX6_spliced 53 = .ok (.aload_n 3, 1) := by decide +kernel
theorem dX6_spliced_54 : decode cX6_spliced 54 = .ok (.arraylength, 1) := by decide +kernel
theorem dX6_spliced_55 : decode cX6_spliced 55 = .ok (.invokestatic 37, 3) := by decide +kernel
theorem dX6_spliced_58 : decode cX6_spliced 58 = .ok (.aload_n 0, 1) := by decide +kernel
theorem dX6_spliced_59 : decode cX6_spliced 59 = .ok (.getfield 9, 3) := by decide +kernel
theorem dX6_spliced_62 : decode cX6_spliced 62 = .ok (.iload_n 2, 1) := by decide +kernel
theorem dX6_spliced_63 : decode cX6_spliced 63 = .ok (.aload 4, 2) := by decide +kernel
theorem dX6_spliced_65 : decode cX6_spliced 65 = .ok (.iload_n 1, 1) := by decide +kernel
theorem dX6_spliced_66 : decode cX6_spliced 66 = .ok (.aload_n 3, 1) := by decide +kernel
theorem dX6_spliced_67 : decode cX6_spliced 67 = .ok (.arraylength, 1) := by decide +kernel
theorem dX6_spliced_68 : decode cX6_spliced 68 = .ok (.iadd, 1) := by decide +kernel
theorem dX6_spliced_69 : decode cX6_spliced 69 = .ok (.aload_n 0, 1) := by decide +kernel
theorem dX6_spliced_70 : decode cX6_spliced 70 = .ok (.getfield 9, 3) := by decide +kernel
theorem dX6_spliced_73 : decode cX6_spliced 73 = .ok (.arraylength, 1) := by decide +kernel
theorem dX6_spliced_74 : decode cX6_spliced 74 = .ok (.iload_n 2, 1) := by decide +kernel
theorem dX6_spliced_75 : decode cX6_spliced 75 = .ok (.isub, 1) := by decide +kernel
theorem dX6_spliced_76 : decode cX6_spliced 76 = .ok (.invokestatic 37, 3) := by decide +kernel
theorem dX6_spliced_79 : decode cX6_spliced 79 = .ok (.new 10, 3) := by decide +kernel
theorem dX6_spliced_82 : decode cX6_spliced 82 = .ok (.dup, 1) := by decide +kernel
theorem dX6_spliced_83 : decode cX6_spliced 83 = .ok (.aload 4, 2) := by decide +kernel
theorem dX6_spliced_85 : decode cX6_spliced 85 = .ok (.invokespecial 43, 3) := by decide +kernel
theorem dX6_spliced_88 : decode cX6_spliced 88 = .ok (.areturn, 1) := by decide +kernel
theorem dX7_init_0 : decode cX7_init 0 = .ok (.aload_n 0, 1) := by decide +kernel
theorem dX7_init_1 : decode cX7_init 1 = .ok (.invokespecial 3, 3) := by decide +kernel
theorem dX7_init_4 : decode cX7_init 4 = .ok (.aload_n 0, 1) := by decide +kernel
theorem dX7_init_5 : decode cX7_init 5 = .ok (.new 9, 3) := by decide +kernel
theorem dX7_init_8 : decode cX7_init 8 = .ok (.dup, 1) := by decide +kernel
theorem dX7_init_9 : decode cX7_init 9 = .ok (.invokespecial 11, 3) := by decide +kernel
theorem dX7_init_12 : decode cX7_init 12 = .ok (.putfield 12, 3) := by decide +kernel
theorem dX7_init_15 : decode cX7_init 15 = .ok (.aload_n 0, 1) := by decide +kernel
theorem dX7_init_16 : decode cX7_init 16 = .ok (.bipush 10, 2) := by decide +kernel
theorem dX7_init_18 : decode cX7_init 18 = .ok (.anewarray 16, 3) := by decide +kernel
theorem dX7_init_21 : decode cX7_init 21 = .ok (.putfield 18, 3) := by decide +kernel
theorem dX7_init_24 : decode cX7_init 24 = .ok (.aload_n 0, 1) := by decide +kernel
theorem dX7_init_25 : decode cX7_init 25 = .ok (.iconst 5, 1) := by decide +kernel
theorem dX7_init_26 : decode cX7_init 26 = .ok (.newarray .int, 2) := by decide +kernel
theorem dX7_init_28 : decode cX7_init 28 = .ok (.dup, 1) := by decide +kernel
theorem dX7_init_29 : decode cX7_init 29 = .ok (.iconst 0, 1) := by decide +kernel
theorem dX7_init_30 : decode cX7_init 30 = .ok (.iconst 2, 1) := by decide +kernel
theorem dX7_init_31 : decode cX7_init 31 = .ok (.iastore, 1) := by decide +kernel
theorem dX7_init_32 : decode cX7_init 32 = .ok (.dup, 1) := by decide +kernel
theorem dX7_init_33 : decode cX7_init 33 = .ok (.iconst 1, 1) := by decide +kernel
theorem dX7_init_34 : decode cX7_init 34 = .ok (.iconst 4, 1) := by decide +kernel
theorem dX7_init_35 : decode cX7_init 35 = .ok (.iastore, 1) := by decide +kernel
theorem dX7_init_36 : decode cX7_init 36 = .ok (.dup, 1) := by decide +kernel
theorem dX7_init_37 : decode cX7_init 37 = .ok (.iconst 2, 1) := by decide +kernel
theorem dX7_init_38 : decode cX7_init 38 = .ok (.iconst 0, 1) := by decide +kernel
theorem dX7_init_39 : decode cX7_init 39 = .ok (.iastore, 1) := by decide +kernel
theorem dX7_init_40 : decode cX7_init 40 = .ok (.dup, 1) := by decide +kernel
theorem dX7_init_41 : decode cX7_init 41 = .ok (.iconst 3, 1) := by decide +kernel
theorem dX7_init_42 : decode cX7_init 42 = .ok (.iconst 0, 1) := by decide +kernel
theorem dX7_init_43 : decode cX7_init 43 = .ok (.iastore, 1) := by decide +kernel
theorem dX7_init_44 : decode cX7_init 44 = .ok (.dup, 1) := by decide +kernel
theorem dX7_init_45 : decode cX7_init 45 = .ok (.iconst 4, 1) := by decide +kernel
theorem dX7_init_46 : decode cX7_init 46 = .ok (.iconst 0, 1) := by decide +kernel
theorem dX7_init_47 : decode cX7_init 47 = .ok (.iastore, 1) := by decide +kernel
theorem dX7_init_48 : decode cX7_init 48 = .ok (.putfield 22, 3) := by decide +kernel
theorem dX7_init_51 : decode cX7_init 51 = .ok (.aload_n 0, 1) := by decide +kernel
theorem dX7_init_52 : decode cX7_init 52 = .ok (.bipush 30, 2) := by decide +kernel
theorem dX7_init_54 : decode cX7_init 54 = .ok (.putfield 26, 3) := by decide +kernel
theorem dX7_init_57 : decode cX7_init 57 = .ok (.aload_n 0, 1) := by decide +kernel
theorem dX7_init_58 : decode cX7_init 58 = .ok (.bipush 8, 2) := by decide +kernel
theorem dX7_init_60 : decode cX7_init 60 = .ok (.putfield 30, 3) := by decide +kernel
theorem dX7_init_63 : decode cX7_init 63 = .ok (.aload_n 0, 1) := by decide +kernel
theorem dX7_init_64 : decode cX7_init 64 = .ok (.new 33, 3) := by decide +kernel
theorem dX7_init_67 : decode cX7_init 67 = .ok (.dup, 1) := by decide +kernel
theorem dX7_init_68 : decode cX7_init 68 = .ok (.new 16, 3) := by decide +kernel
theorem dX7_init_71 : decode cX7_init 71 = .ok (.dup, 1) := by decide +kernel
theorem dX7_init_72 : decode cX7_init 72 = .ok (.iconst 1, 1) := by decide +kernel
theorem dX7_init_73 : decode cX7_init 73 = .ok (.newarray .char, 2) := by decide +kernel
theorem dX7_init_75 : decode cX7_init 75 = .ok (.dup, 1) := by decide +kernel
theorem dX7_init_76 : decode cX7_init 76 = .ok (.iconst 0, 1) := by decide +kernel
theorem dX7_init_77 : decode cX7_init 77 = .ok (.bipush 97, 2) := by decide +kernel
theorem dX7_init_79 : decode cX7_init 79 = .ok (.castore, 1) := by decide +kernel
theorem dX7_init_80 : decode cX7_init 80 = .ok (.invokespecial 35, 3) := by decide +kernel
theorem dX7_init_83 : decode cX7_init 83 = .ok (.iconst 1, 1) := by decide +kernel
theorem dX7_init_84 : decode cX7_init 84 = .ok (.newarray .int, 2) := by decide +kernel
theorem dX7_init_86 : decode cX7_init 86 = .ok (.dup, 1) := by decide +kernel
theorem dX7_init_87 : decode cX7_init 87 = .ok (.iconst 0, 1) := by decide +kernel
theorem dX7_init_88 : decode cX7_init 88 = .ok (.iconst 0, 1) := by decide +kernel
theorem dX7_init_89 : decode cX7_init 89 = .ok (.iastore, 1) := by decide +kernel
theorem dX7_init_90 : decode cX7_init 90 = .ok (.iconst 2, 1) := by decide +kernel
theorem dX7_init_91 : decode cX7_init 91 = .ok (.newarray .int, 2) := by decide +kernel
theorem dX7_init_93 : decode cX7_init 93 = .ok (.dup, 1) := by decide +kernel
theorem dX7_init_94 : decode cX7_init 94 = .ok (.iconst 0, 1) := by decide +kernel
theorem dX7_init_95 : decode cX7_init 95 = .ok (.iconst 0, 1) := by decide +kernel
theorem dX7_init_96 : decode cX7_init 96 = .ok (.iastore, 1) := by decide +kernel
theorem dX7_init_97 : decode cX7_init 97 = .ok (.dup, 1) := by decide +kernel
theorem dX7_init_98 : decode cX7_init 98 = .ok (.iconst 1, 1) := by decide +kernel
theorem dX7_init_99 : decode cX7_init 99 = .ok (.iconst 1, 1) := by decide +kernel
theorem dX7_init_100 : decode cX7_init 100 = .ok (.iastore, 1) := by decide +kernel
theorem dX7_init_101 : decode cX7_init 101 = .ok (.invokespecial 38, 3) := by decide +kernel
theorem dX7_init_104 : decode cX7_init 104 = .ok (.putfield 41, 3) := by decide +kernel
theorem dX7_init_107 : decode cX7_init 107 = .ok (.aload_n 0, 1) := by decide +kernel
theorem dX7_init_108 : decode cX7_init 108 = .ok (.new 45, 3) := by decide +kernel
theorem dX7_init_111 : decode cX7_init 111 = .ok (.dup, 1) := by decide +kernel
theorem dX7_init_112 : decode cX7_init 112 = .ok (.invokespecial 47, 3) := by decide +kernel
theorem dX7_init_115 : decode cX7_init 115 = .ok (.putfield 48, 3) := by decide +kernel
theorem dX7_init_118 : decode cX7_init 118 = .ok (.aload_n 0, 1) := by decide +kernel
theorem dX7_init_119 : decode cX7_init 119 = .ok (.new 52, 3) := by decide +kernel
theorem dX7_init_122 : decode cX7_init 122 = .ok (.dup, 1) := by decide +kernel
theorem dX7_init_123 : decode cX7_init 123 = .ok (.invokespecial 54, 3) := by decide +kernel
theorem dX7_init_126 : decode cX7_init 126 = .ok (.putfield 55, 3) := by decide +kernel
theorem dX7_init_129 : decode cX7_init 129 = .ok (.aload_n 0, 1) := by decide +kernel
theorem dX7_init_130 : decode cX7_init 130 = .ok (.new 59, 3) := by decide +kernel
theorem dX7_init_133 : decode cX7_init 133 = .ok (.dup, 1) := by decide +kernel
theorem dX7_init_134 : decode cX7_init 134 = .ok (.aload_n 0, 1) := by decide +kernel
theorem dX7_init_135 : decode cX7_init 135 = .ok (.getfield 41, 3) := by decide +kernel
theorem dX7_init_138 : decode cX7_init 138 = .ok (.aload_n 0, 1) := by decide +kernel
theorem dX7_init_139 : decode cX7_init 139 = .ok (.getfield 18, 3) := by decide +kernel
theorem dX7_init_142 : decode cX7_init 142 = .ok (.aload_n 0, 1) := by decide +kernel
theorem dX7_init_143 : decode cX7_init 143 = .ok (.getfield 22, 3) := by decide +kernel
theorem dX7_init_146 : decode cX7_init 146 = .ok (.invokespecial 61, 3) := by decide +kernel
theorem dX7_init_149 : decode cX7_init 149 = .ok (.putfield 64, 3) := by decide +kernel
theorem dX7_init_152 : decode cX7_init 152 = .ok (.aload_n 0, 1) := by decide +kernel
theorem dX7_init_153 : decode cX7_init 153 = .ok (.new 59, 3) := by decide +kernel
theorem dX7_init_156 : decode cX7_init 156 = .ok (.dup, 1) := by decide +kernel
theorem dX7_init_157 : decode cX7_init 157 = .ok (.aload_n 0, 1) := by decide +kernel
theorem dX7_init_158 : decode cX7_init 158 = .ok (.getfield 41, 3) := by decide +kernel
theorem dX7_init_161 : decode cX7_init 161 = .ok (.aload_n 0, 1) := by decide +kernel
theorem dX7_init_162 : decode cX7_init 162 = .ok (.getfield 18, 3) := by decide +kernel
theorem dX7_init_165 : decode cX7_init 165 = .ok (.aload_n 0, 1) := by decide +kernel
theorem dX7_init_166 : decode cX7_init 166 = .ok (.getfield 22, 3) := by decide +kernel
