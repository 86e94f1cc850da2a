def mX0_init : ji_M := (yX0_init, cX0_init, 4, none, [])
def mX0_words : ji_M := (yX0_words, cX0_words, 1, (some (.object "BookPager$Words")), [])
def mX0_paragraphs : ji_M := (yX0_paragraphs, cX0_paragraphs, 1, (some .int), [])
def mX0_kindOf : ji_M := (yX0_kindOf, cX0_kindOf, 2, (some .int), [])
def mX0_firstWordOf : ji_M := (yX0_firstWordOf, cX0_firstWordOf, 2, (some .int), [])
def mX0_wordsOf : ji_M := (yX0_wordsOf, cX0_wordsOf, 2, (some .int), [])
def mX0_placeOfWord : ji_M := (yX0_placeOfWord, cX0_placeOfWord, 3, (some .int), [])
def mX0_startOf : ji_M := (yX0_startOf, cX0_startOf, 2, (some .int), [])
def mX0_endOf : ji_M := (yX0_endOf, cX0_endOf, 2, (some .int), [])
def mX0_lengthOf : ji_M := (yX0_lengthOf, cX0_lengthOf, 2, (some .int), [])
def mX0_characters : ji_M := (yX0_characters, cX0_characters, 1, (some .int), [])
def mX0_charactersBefore : ji_M := (yX0_charactersBefore, cX0_charactersBefore, 2, (some .int), [])
def mX0_paragraphAt : ji_M := (yX0_paragraphAt, cX0_paragraphAt, 3, (some .int), [])
def mX0_positionOf : ji_M := (yX0_positionOf, cX0_positionOf, 3, (some .int), [])
def mX0_withInserted : ji_M := (yX0_withInserted, cX0_withInserted, 4, (some (.object "BookPager$Book")), [])
def mX0_withDeleted : ji_M := (yX0_withDeleted, cX0_withDeleted, 4, (some (.object "BookPager$Book")), [])
def mX0_withWords : ji_M := (yX0_withWords, cX0_withWords, 6, (some (.object "BookPager$Book")), [])
def mX0_withSplit : ji_M := (yX0_withSplit, cX0_withSplit, 7, (some (.object "BookPager$Book")), [])
def mX0_withJoined : ji_M := (yX0_withJoined, cX0_withJoined, 6, (some (.object "BookPager$Book")), [])
def mX1_init : ji_M := (yX1_init, cX1_init, 2, none, [])
def mX1_edits : ji_M := (yX1_edits, cX1_edits, 1, (some .int), [])
def mX1_forget : ji_M := (yX1_forget, cX1_forget, 1, none, [])
def mX1_keep : ji_M := (yX1_keep, cX1_keep, 4, none, [])
def mX1_forgetOldest : ji_M := (yX1_forgetOldest, cX1_forgetOldest, 3, none, [])
def mX1_latestBook : ji_M := (yX1_latestBook, cX1_latestBook, 1, (some (.object "BookPager$Book")), [])
def mX1_bringBack : ji_M := (yX1_bringBack, cX1_bringBack, 3, none, [])
def mX2_init : ji_M := (yX2_init, cX2_init, 1, none, [])
def mX2_length : ji_M := (yX2_length, cX2_length, 1, (some .int), [])
def mX2_isFull : ji_M := (yX2_isFull, cX2_isFull, 1, (some .boolean), [])
def mX2_put : ji_M := (yX2_put, cX2_put, 2, none, [])
def mX2_empty : ji_M := (yX2_empty, cX2_empty, 1, none, [])
def mX2_signAt : ji_M := (yX2_signAt, cX2_signAt, 2, (some .char), [])
def mX2_firstFault : ji_M := (yX2_firstFault, cX2_firstFault, 3, (some .int), [])
def mX2_isWhole : ji_M := (yX2_isWhole, cX2_isWhole, 2, (some .boolean), [])
def mX2_wordsOfList : ji_M := (yX2_wordsOfList, cX2_wordsOfList, 1, (some .int), [])
def mX2_timesOf : ji_M := (yX2_timesOf, cX2_timesOf, 4, (some .int), [])
def mX2_beginsWith : ji_M := (yX2_beginsWith, cX2_beginsWith, 6, (some .boolean), [])
def mX2_padded : ji_M := (yX2_padded, cX2_padded, 5, (some (.array .char)), [])
def mX2_toNote : ji_M := (yX2_toNote, cX2_toNote, 3, (some (.object "BookPager$Words")), [])
def mX2_toBook : ji_M := (yX2_toBook, cX2_toBook, 9, (some (.object "BookPager$Book")), [])
def mX3_init : ji_M := (yX3_init, cX3_init, 4, none, [])
def mX3_lay : ji_M := (yX3_lay, cX3_lay, 4, none, [])
def mX3_measureNotes : ji_M := (yX3_measureNotes, cX3_measureNotes, 3, none, [])
def mX3_breakLines : ji_M := (yX3_breakLines, cX3_breakLines, 7, none, [])
def mX3_referencesOf : ji_M := (yX3_referencesOf, cX3_referencesOf, 6, (some .int), [])
def mX3_measureLines : ji_M := (yX3_measureLines, cX3_measureLines, 2, none, [])
def mX3_gapOf : ji_M := (yX3_gapOf, cX3_gapOf, 2, (some .int), [])
def mX3_isAllowedBreak : ji_M := (yX3_isAllowedBreak, cX3_isAllowedBreak, 2, (some .boolean), [])
def mX3_breakPages : ji_M := (yX3_breakPages, cX3_breakPages, 4, none, [])
def mX3_styleOf : ji_M := (yX3_styleOf, cX3_styleOf, 2, (some .int), [])
def mX3_textOf : ji_M := (yX3_textOf, cX3_textOf, 2, (some (.object "BookPager$Words")), [])
def mX3_firstIndentOf : ji_M := (yX3_firstIndentOf, cX3_firstIndentOf, 2, (some .int), [])
def mX3_laterIndentOf : ji_M := (yX3_laterIndentOf, cX3_laterIndentOf, 2, (some .int), [])
def mX3_lines : ji_M := (yX3_lines, cX3_lines, 1, (some .int), [])
def mX3_pages : ji_M := (yX3_pages, cX3_pages, 1, (some .int), [])
def mX3_firstWordOfLine : ji_M := (yX3_firstWordOfLine, cX3_firstWordOfLine, 2, (some .int), [])
def mX3_paragraphOfLine : ji_M := (yX3_paragraphOfLine, cX3_paragraphOfLine, 2, (some .int), [])
def mX3_indentOfLine : ji_M := (yX3_indentOfLine, cX3_indentOfLine, 2, (some .int), [])
def mX3_gapBefore : ji_M := (yX3_gapBefore, cX3_gapBefore, 2, (some .int), [])
def mX3_mayBreakBefore : ji_M := (yX3_mayBreakBefore, cX3_mayBreakBefore, 2, (some .boolean), [])
def mX3_notesOfLine : ji_M := (yX3_notesOfLine, cX3_notesOfLine, 2, (some .int), [])
def mX3_pageOfLine : ji_M := (yX3_pageOfLine, cX3_pageOfLine, 2, (some .int), [])
def mX3_firstLineOfPage : ji_M := (yX3_firstLineOfPage, cX3_firstLineOfPage, 2, (some .int), [])
def mX3_beginsParagraph : ji_M := (yX3_beginsParagraph, cX3_beginsParagraph, 2, (some .boolean), [])
def mX3_linesOfParagraph : ji_M := (yX3_linesOfParagraph, cX3_linesOfParagraph, 4, (some .int), [])
def mX3_columnsOfLine : ji_M := (yX3_columnsOfLine, cX3_columnsOfLine, 5, (some .int), [])
def mX3_rowsOfNotes : ji_M := (yX3_rowsOfNotes, cX3_rowsOfNotes, 4, (some .int), [])
def mX3_breakFrom : ji_M := (yX3_breakFrom, cX3_breakFrom, 6, (some .int), [])
def mX3_keptBreak : ji_M := (yX3_keptBreak, cX3_keptBreak, 4, (some .int), [])
def mX3_farthestBefore : ji_M := (yX3_farthestBefore, cX3_farthestBefore, 3, (some .int), [])
def mX3_rowsBetween : ji_M := (yX3_rowsBetween, cX3_rowsBetween, 5, (some .int), [])
def mX3_rowOfLine : ji_M := (yX3_rowOfLine, cX3_rowOfLine, 2, (some .int), [])
def mX3_rowsOfPage : ji_M := (yX3_rowsOfPage, cX3_rowsOfPage, 2, (some .int), [])
def mX3_notesOfPage : ji_M := (yX3_notesOfPage, cX3_notesOfPage, 5, (some .int), [])
def mX3_noteRowsOfPage : ji_M := (yX3_noteRowsOfPage, cX3_noteRowsOfPage, 2, (some .int), [])
def mX3_noteOnPage : ji_M := (yX3_noteOnPage, cX3_noteOnPage, 6, (some .int), [])
def mX3_placeOfPage : ji_M := (yX3_placeOfPage, cX3_placeOfPage, 2, (some .int), [])
def mX3_pageAt : ji_M := (yX3_pageAt, cX3_pageAt, 3, (some .int), [])
def mX3_signAt : ji_M := (yX3_signAt, cX3_signAt, 8, (some .int), [])
def mX3_signOfNotes : ji_M := (yX3_signOfNotes, cX3_signOfNotes, 8, (some .int), [])
def mX4_init : ji_M := (yX4_init, cX4_init, 1, none, [])
def mX4_reset : ji_M := (yX4_reset, cX4_reset, 1, none, [])
def mX4_copy : ji_M := (yX4_copy, cX4_copy, 2, none, [])
def mX4_reader : ji_M := (yX4_reader, cX4_reader, 1, (some .int), [])
def mX4_setReader : ji_M := (yX4_setReader, cX4_setReader, 2, none, [])
def mX4_jumps : ji_M := (yX4_jumps, cX4_jumps, 1, (some .int), [])
def mX4_jumpTo : ji_M := (yX4_jumpTo, cX4_jumpTo, 2, none, [])
def mX4_jumpBack : ji_M := (yX4_jumpBack, cX4_jumpBack, 1, none, [])
def mX4_annotations : ji_M := (yX4_annotations, cX4_annotations, 1, (some .int), [])
def mX4_addAnnotation : ji_M := (yX4_addAnnotation, cX4_addAnnotation, 5, (some .int), [])
def mX4_dropAnnotation : ji_M := (yX4_dropAnnotation, cX4_dropAnnotation, 3, none, [])
def mX4_exists : ji_M := (yX4_exists, cX4_exists, 2, (some .boolean), [])
def mX4_fromOf : ji_M := (yX4_fromOf, cX4_fromOf, 2, (some .int), [])
def mX4_toOf : ji_M := (yX4_toOf, cX4_toOf, 2, (some .int), [])
def mX4_colorOf : ji_M := (yX4_colorOf, cX4_colorOf, 2, (some .int), [])
def mX4_isLost : ji_M := (yX4_isLost, cX4_isLost, 2, (some .boolean), [])
def mX4_lostAnnotations : ji_M := (yX4_lostAnnotations, cX4_lostAnnotations, 3, (some .int), [])
def mX4_annotationsBetween : ji_M := (yX4_annotationsBetween, cX4_annotationsBetween, 6, (some .int), [])
def mX4_openGap : ji_M := (yX4_openGap, cX4_openGap, 5, none, [])
def mX4_opened : ji_M := (yX4_opened, cX4_opened, 3, (some .int), [])
def mX4_closeGap : ji_M := (yX4_closeGap, cX4_closeGap, 5, none, [])
def mX4_closed : ji_M := (yX4_closed, cX4_closed, 4, (some .int), [])
def mX4_cutAt : ji_M := (yX4_cutAt, cX4_cutAt, 4, none, [])
def mX5_init : ji_M := (yX5_init, cX5_init, 1, none, [])
def mX5_begin : ji_M := (yX5_begin, cX5_begin, 2, none, [])
def mX5_beginParagraph : ji_M := (yX5_beginParagraph, cX5_beginParagraph, 1, none, [])
def mX5_beginWord : ji_M := (yX5_beginWord, cX5_beginWord, 1, none, [])
def mX5_takes : ji_M := (yX5_takes, cX5_takes, 5, (some .boolean), [])
def mX5_mayEnd : ji_M := (yX5_mayEnd, cX5_mayEnd, 1, (some .boolean), [])
def mX5_isDigit : ji_M := (yX5_isDigit, cX5_isDigit, 1, (some .boolean), [])
def mX5_isSignOfWord : ji_M := (yX5_isSignOfWord, cX5_isSignOfWord, 1, (some .boolean), [])
def mX6_init : ji_M := (yX6_init, cX6_init, 7, none, [])
def mX6_size : ji_M := (yX6_size, cX6_size, 1, (some .int), [])
def mX6_length : ji_M := (yX6_length, cX6_length, 1, (some .int), [])
def mX6_startOf : ji_M := (yX6_startOf, cX6_startOf, 2, (some .int), [])
def mX6_endOf : ji_M := (yX6_endOf, cX6_endOf, 3, (some .int), [])
def mX6_signAt : ji_M := (yX6_signAt, cX6_signAt, 2, (some .int), [])
def mX6_referenceOf : ji_M := (yX6_referenceOf, cX6_referenceOf, 3, (some .int), [])
def mX6_lineEnd : ji_M := (yX6_lineEnd, cX6_lineEnd, 6, (some .int), [])
def mX6_firstOfLine : ji_M := (yX6_firstOfLine, cX6_firstOfLine, 5, (some .int), [])
def mX6_linesWithin : ji_M := (yX6_linesWithin, cX6_linesWithin, 4, (some .int), [])
def mX6_signOfLine : ji_M := (yX6_signOfLine, cX6_signOfLine, 6, (some .int), [])
def mX6_spliced : ji_M := (yX6_spliced, cX6_spliced, 5, (some (.object "BookPager$Words")), [])
def mX7_init : ji_M := (yX7_init, cX7_init, 1, none, [])
def mX7_append : ji_M := (yX7_append, cX7_append, 2, (some .int), [])
def mX7_clearInput : ji_M := (yX7_clearInput, cX7_clearInput, 2, (some .int), [])
def mX7_firstError : ji_M := (yX7_firstError, cX7_firstError, 2, (some .int), [])
def mX7_load : ji_M := (yX7_load, cX7_load, 1, (some .int), [])
def mX7_setNote : ji_M := (yX7_setNote, cX7_setNote, 3, (some .int), [])
def mX7_removeNote : ji_M := (yX7_removeNote, cX7_removeNote, 3, (some .int), [])
def mX7_setSize : ji_M := (yX7_setSize, cX7_setSize, 3, (some .int), [])
def mX7_setStyle : ji_M := (yX7_setStyle, cX7_setStyle, 4, (some .int), [])
def mX7_page : ji_M := (yX7_page, cX7_page, 3, (some .int), [])
def mX7_line : ji_M := (yX7_line, cX7_line, 3, (some .int), [])
def mX7_shown : ji_M := (yX7_shown, cX7_shown, 4, (some .int), [])
def mX7_noteOn : ji_M := (yX7_noteOn, cX7_noteOn, 4, (some .int), [])
def mX7_pageOf : ji_M := (yX7_pageOf, cX7_pageOf, 3, (some .int), [])
def mX7_floating : ji_M := (yX7_floating, cX7_floating, 3, (some .int), [])
def mX7_go : ji_M := (yX7_go, cX7_go, 3, (some .int), [])
def mX7_turn : ji_M := (yX7_turn, cX7_turn, 3, (some .int), [])
def mX7_back : ji_M := (yX7_back, cX7_back, 1, (some .int), [])
def mX7_find : ji_M := (yX7_find, cX7_find, 3, (some .int), [])
def mX7_count : ji_M := (yX7_count, cX7_count, 2, (some .int), [])
def mX7_paragraph : ji_M := (yX7_paragraph, cX7_paragraph, 3, (some .int), [])
def mX7_letter : ji_M := (yX7_letter, cX7_letter, 3, (some .int), [])
def mX7_annotate : ji_M := (yX7_annotate, cX7_annotate, 6, (some .int), [])
def mX7_annotation : ji_M := (yX7_annotation, cX7_annotation, 3, (some .int), [])
def mX7_removeAnnotation : ji_M := (yX7_removeAnnotation, cX7_removeAnnotation, 2, (some .int), [])
def mX7_insert : ji_M := (yX7_insert, cX7_insert, 7, (some .int), [])
def mX7_delete : ji_M := (yX7_delete, cX7_delete, 8, (some .int), [])
def mX7_split : ji_M := (yX7_split, cX7_split, 3, (some .int), [])
def mX7_join : ji_M := (yX7_join, cX7_join, 2, (some .int), [])
def mX7_undo : ji_M := (yX7_undo, cX7_undo, 2, (some .int), [])
def mX7_ifSize : ji_M := (yX7_ifSize, cX7_ifSize, 4, (some .int), [])
def mX7_fit : ji_M := (yX7_fit, cX7_fit, 3, (some .int), [])
def mX7_fullness : ji_M := (yX7_fullness, cX7_fullness, 4, (some .double), [])
def mX7_digest : ji_M := (yX7_digest, cX7_digest, 7, (some .long), [])
def mX7_mixed : ji_M := (yX7_mixed, cX7_mixed, 3, (some .long), [])
def mX7_mixedParagraphs : ji_M := (yX7_mixedParagraphs, cX7_mixedParagraphs, 8, (some .long), [])
def mX7_mixedLines : ji_M := (yX7_mixedLines, cX7_mixedLines, 7, (some .long), [])
def mX7_mixedPages : ji_M := (yX7_mixedPages, cX7_mixedPages, 7, (some .long), [])
def mX7_mixedAnnotations : ji_M := (yX7_mixedAnnotations, cX7_mixedAnnotations, 7, (some .long), [])
def mX7_mixedInput : ji_M := (yX7_mixedInput, cX7_mixedInput, 6, (some .long), [])
def mX7_countOf : ji_M := (yX7_countOf, cX7_countOf, 2, (some .int), [])
def mX7_thousandthsRead : ji_M := (yX7_thousandthsRead, cX7_thousandthsRead, 2, (some .int), [])
def mX7_paragraphProperty : ji_M := (yX7_paragraphProperty, cX7_paragraphProperty, 3, (some .int), [])
def mX7_lineProperty : ji_M := (yX7_lineProperty, cX7_lineProperty, 4, (some .int), [])
def mX7_pageProperty : ji_M := (yX7_pageProperty, cX7_pageProperty, 3, (some .int), [])
def mX7_annotationProperty : ji_M := (yX7_annotationProperty, cX7_annotationProperty, 5, (some .int), [])
def mX7_presentPage : ji_M := (yX7_presentPage, cX7_presentPage, 1, (some .int), [])
def mX7_wordsOfNote : ji_M := (yX7_wordsOfNote, cX7_wordsOfNote, 3, (some .int), [])
def mX7_wordBehindReader : ji_M := (yX7_wordBehindReader, cX7_wordBehindReader, 3, (some .int), [])
def mX7_wordBeforeReader : ji_M := (yX7_wordBeforeReader, cX7_wordBeforeReader, 3, (some .int), [])
def mX7_refresh : ji_M := (yX7_refresh, cX7_refresh, 1, none, [])
def mX7_checkNote : ji_M := (yX7_checkNote, cX7_checkNote, 1, none, [])
def mX7_checkSize : ji_M := (yX7_checkSize, cX7_checkSize, 2, none, [])
def mX7_checkWhat : ji_M := (yX7_checkWhat, cX7_checkWhat, 2, none, [])
def mX7_checkWordList : ji_M := (yX7_checkWordList, cX7_checkWordList, 1, none, [])
def mX7_checkPage : ji_M := (yX7_checkPage, cX7_checkPage, 2, none, [])
def mX7_checkLine : ji_M := (yX7_checkLine, cX7_checkLine, 2, none, [])
def mX7_checkParagraph : ji_M := (yX7_checkParagraph, cX7_checkParagraph, 2, none, [])
def mX7_checkOffset : ji_M := (yX7_checkOffset, cX7_checkOffset, 3, none, [])
def mX7_checkAnnotation : ji_M := (yX7_checkAnnotation, cX7_checkAnnotation, 2, none, [])
def mX8_init : ji_M := (yX8_init, cX8_init, 1, none, [])
def mX8_thrown : ji_M := (yX8_thrown, cX8_thrown, 1, (some .int), [])
def mX8_within : ji_M := (yX8_within, cX8_within, 3, (some .boolean), [])
def mX8_append : ji_M := (yX8_append, cX8_append, 2, (some .int), [])
def mX8_clearInput : ji_M := (yX8_clearInput, cX8_clearInput, 2, (some .int), [])
def mX8_isSign : ji_M := (yX8_isSign, cX8_isSign, 1, (some .boolean), [])
def mX8_isWordOver : ji_M := (yX8_isWordOver, cX8_isWordOver, 1, (some .boolean), [])
def mX8_fresh : ji_M := (yX8_fresh, cX8_fresh, 2, (some .boolean), [])
def mX8_takesPlain : ji_M := (yX8_takesPlain, cX8_takesPlain, 3, (some .boolean), [])
def mX8_takes : ji_M := (yX8_takes, cX8_takes, 4, (some .boolean), [])
def mX8_rightLength : ji_M := (yX8_rightLength, cX8_rightLength, 3, (some .int), [])
def mX8_isText : ji_M := (yX8_isText, cX8_isText, 2, (some .boolean), [])
def mX8_firstError : ji_M := (yX8_firstError, cX8_firstError, 2, (some .int), [])
def mX8_layBook : ji_M := (yX8_layBook, cX8_layBook, 4, none, [])
def mX8_load : ji_M := (yX8_load, cX8_load, 1, (some .int), [])
def mX8_noteWords : ji_M := (yX8_noteWords, cX8_noteWords, 4, (some .int), [])
def mX8_setNote : ji_M := (yX8_setNote, cX8_setNote, 4, (some .int), [])
def mX8_removeNote : ji_M := (yX8_removeNote, cX8_removeNote, 3, (some .int), [])
def mX8_sizeOf : ji_M := (yX8_sizeOf, cX8_sizeOf, 2, (some .int), [])
def mX8_charOf : ji_M := (yX8_charOf, cX8_charOf, 4, (some .int), [])
def mX8_wordEnd : ji_M := (yX8_wordEnd, cX8_wordEnd, 4, (some .int), [])
def mX8_lineEnd : ji_M := (yX8_lineEnd, cX8_lineEnd, 8, (some .int), [])
def mX8_wordsOf : ji_M := (yX8_wordsOf, cX8_wordsOf, 4, (some .int), [])
def mX8_startOf : ji_M := (yX8_startOf, cX8_startOf, 5, (some .int), [])
def mX8_indentOf : ji_M := (yX8_indentOf, cX8_indentOf, 3, (some .int), [])
def mX8_layLines : ji_M := (yX8_layLines, cX8_layLines, 4, none, [])
def mX8_isFirst : ji_M := (yX8_isFirst, cX8_isFirst, 2, (some .boolean), [])
def mX8_gapBefore : ji_M := (yX8_gapBefore, cX8_gapBefore, 2, (some .int), [])
def mX8_notesOn : ji_M := (yX8_notesOn, cX8_notesOn, 6, (some .int), [])
def mX8_noteLines : ji_M := (yX8_noteLines, cX8_noteLines, 4, (some .int), [])
def mX8_isShownNote : ji_M := (yX8_isShownNote, cX8_isShownNote, 3, (some .boolean), [])
def mX8_noteRows : ji_M := (yX8_noteRows, cX8_noteRows, 4, (some .int), [])
def mX8_rowsOf : ji_M := (yX8_rowsOf, cX8_rowsOf, 5, (some .int), [])
def mX8_need : ji_M := (yX8_need, cX8_need, 3, (some .int), [])
def mX8_isLast : ji_M := (yX8_isLast, cX8_isLast, 2, (some .boolean), [])
def mX8_mayBreak : ji_M := (yX8_mayBreak, cX8_mayBreak, 5, (some .boolean), [])
def mX8_breakOf : ji_M := (yX8_breakOf, cX8_breakOf, 4, (some .int), [])
def mX8_layPages : ji_M := (yX8_layPages, cX8_layPages, 4, none, [])
def mX8_layAll : ji_M := (yX8_layAll, cX8_layAll, 1, none, [])
def mX8_pageAt : ji_M := (yX8_pageAt, cX8_pageAt, 3, (some .int), [])
def mX8_lineAt : ji_M := (yX8_lineAt, cX8_lineAt, 5, (some .int), [])
def mX8_pageWith : ji_M := (yX8_pageWith, cX8_pageWith, 3, (some .int), [])
def mX8_here : ji_M := (yX8_here, cX8_here, 1, (some .int), [])
def mX8_setSize : ji_M := (yX8_setSize, cX8_setSize, 3, (some .int), [])
def mX8_setStyle : ji_M := (yX8_setStyle, cX8_setStyle, 5, (some .int), [])
def mX8_isPage : ji_M := (yX8_isPage, cX8_isPage, 2, (some .boolean), [])
def mX8_firstOf : ji_M := (yX8_firstOf, cX8_firstOf, 2, (some .int), [])
def mX8_bits : ji_M := (yX8_bits, cX8_bits, 4, (some .int), [])
def mX8_endOf : ji_M := (yX8_endOf, cX8_endOf, 2, (some .int), [])
def mX8_isMarked : ji_M := (yX8_isMarked, cX8_isMarked, 4, (some .boolean), [])
def mX8_annotationsOn : ji_M := (yX8_annotationsOn, cX8_annotationsOn, 7, (some .int), [])
def mX8_pageNow : ji_M := (yX8_pageNow, cX8_pageNow, 5, (some .int), [])
def mX8_page : ji_M := (yX8_page, cX8_page, 3, (some .int), [])
def mX8_rowAt : ji_M := (yX8_rowAt, cX8_rowAt, 3, (some .int), [])
def mX8_wordsBetween : ji_M := (yX8_wordsBetween, cX8_wordsBetween, 6, (some .int), [])
def mX8_lineNow : ji_M := (yX8_lineNow, cX8_lineNow, 4, (some .int), [])
def mX8_isLine : ji_M := (yX8_isLine, cX8_isLine, 2, (some .boolean), [])
def mX8_line : ji_M := (yX8_line, cX8_line, 3, (some .int), [])
def mX8_lineChar : ji_M := (yX8_lineChar, cX8_lineChar, 5, (some .int), [])
def mX8_noteChar : ji_M := (yX8_noteChar, cX8_noteChar, 8, (some .int), [])
def mX8_shownNow : ji_M := (yX8_shownNow, cX8_shownNow, 10, (some .int), [])
def mX8_shown : ji_M := (yX8_shown, cX8_shown, 4, (some .int), [])
def mX8_noteAt : ji_M := (yX8_noteAt, cX8_noteAt, 5, (some .int), [])
def mX8_noteOn : ji_M := (yX8_noteOn, cX8_noteOn, 5, (some .int), [])
def mX8_isPosition : ji_M := (yX8_isPosition, cX8_isPosition, 3, (some .boolean), [])
def mX8_pageOf : ji_M := (yX8_pageOf, cX8_pageOf, 3, (some .int), [])
def mX8_backwards : ji_M := (yX8_backwards, cX8_backwards, 3, (some .int), [])
def mX8_floating : ji_M := (yX8_floating, cX8_floating, 3, (some .int), [])
def mX8_move : ji_M := (yX8_move, cX8_move, 3, none, [])
def mX8_keepJump : ji_M := (yX8_keepJump, cX8_keepJump, 2, none, [])
def mX8_go : ji_M := (yX8_go, cX8_go, 3, (some .int), [])
def mX8_turn : ji_M := (yX8_turn, cX8_turn, 3, (some .int), [])
def mX8_back : ji_M := (yX8_back, cX8_back, 1, (some .int), [])
def mX8_isWanted : ji_M := (yX8_isWanted, cX8_isWanted, 5, (some .boolean), [])
def mX8_findNow : ji_M := (yX8_findNow, cX8_findNow, 8, (some .int), [])
def mX8_find : ji_M := (yX8_find, cX8_find, 2, (some .int), [])
def mX8_allWords : ji_M := (yX8_allWords, cX8_allWords, 3, (some .int), [])
def mX8_letters : ji_M := (yX8_letters, cX8_letters, 4, (some .int), [])
def mX8_lost : ji_M := (yX8_lost, cX8_lost, 3, (some .int), [])
def mX8_counted : ji_M := (yX8_counted, cX8_counted, 2, (some .int), [])
def mX8_count : ji_M := (yX8_count, cX8_count, 2, (some .int), [])
def mX8_linesIn : ji_M := (yX8_linesIn, cX8_linesIn, 4, (some .int), [])
def mX8_paragraphNow : ji_M := (yX8_paragraphNow, cX8_paragraphNow, 3, (some .int), [])
def mX8_isParagraph : ji_M := (yX8_isParagraph, cX8_isParagraph, 2, (some .boolean), [])
def mX8_paragraph : ji_M := (yX8_paragraph, cX8_paragraph, 3, (some .int), [])
def mX8_letter : ji_M := (yX8_letter, cX8_letter, 3, (some .int), [])
def mX8_annotate : ji_M := (yX8_annotate, cX8_annotate, 7, (some .int), [])
def mX8_isAnnotation : ji_M := (yX8_isAnnotation, cX8_isAnnotation, 2, (some .boolean), [])
def mX8_annotationNow : ji_M := (yX8_annotationNow, cX8_annotationNow, 4, (some .int), [])
def mX8_annotation : ji_M := (yX8_annotation, cX8_annotation, 3, (some .int), [])
def mX8_removeAnnotation : ji_M := (yX8_removeAnnotation, cX8_removeAnnotation, 3, (some .int), [])
def mX8_keep : ji_M := (yX8_keep, cX8_keep, 2, none, [])
def mX8_undo : ji_M := (yX8_undo, cX8_undo, 2, (some .int), [])
def mX8_open : ji_M := (yX8_open, cX8_open, 7, none, [])
def mX8_listWords : ji_M := (yX8_listWords, cX8_listWords, 3, (some .int), [])
def mX8_putIn : ji_M := (yX8_putIn, cX8_putIn, 7, none, [])
def mX8_insert : ji_M := (yX8_insert, cX8_insert, 4, (some .int), [])
def mX8_behind : ji_M := (yX8_behind, cX8_behind, 3, (some .int), [])
def mX8_close : ji_M := (yX8_close, cX8_close, 7, none, [])
def mX8_delete : ji_M := (yX8_delete, cX8_delete, 8, (some .int), [])
def mX8_renumber : ji_M := (yX8_renumber, cX8_renumber, 5, none, [])
def mX8_copyParagraph : ji_M := (yX8_copyParagraph, cX8_copyParagraph, 4, none, [])
def mX8_splitAnnotation : ji_M := (yX8_splitAnnotation, cX8_splitAnnotation, 4, none, [])
def mX8_divide : ji_M := (yX8_divide, cX8_divide, 6, none, [])
def mX8_split : ji_M := (yX8_split, cX8_split, 4, (some .int), [])
def mX8_unite : ji_M := (yX8_unite, cX8_unite, 5, none, [])
def mX8_join : ji_M := (yX8_join, cX8_join, 3, (some .int), [])
def mX8_ifSize : ji_M := (yX8_ifSize, cX8_ifSize, 4, (some .int), [])
def mX8_fitNow : ji_M := (yX8_fitNow, cX8_fitNow, 3, (some .int), [])
def mX8_fit : ji_M := (yX8_fit, cX8_fit, 2, (some .int), [])
def mX8_fullness : ji_M := (yX8_fullness, cX8_fullness, 3, (some .double), [])
def mX8_mix : ji_M := (yX8_mix, cX8_mix, 3, none, [])
def mX8_mixParagraphs : ji_M := (yX8_mixParagraphs, cX8_mixParagraphs, 3, none, [])
def mX8_mixLayout : ji_M := (yX8_mixLayout, cX8_mixLayout, 2, none, [])
def mX8_digest : ji_M := (yX8_digest, cX8_digest, 2, (some .long), [])
def mL_append : ji_M := (yL_append, cL_append, 4, (some .int), [(0, 9, 12, 13), (0, 9, 15, 15)])
def mL_load : ji_M := (yL_load, cL_load, 3, (some .int), [(0, 8, 11, 15)])
def mL_setNote : ji_M := (yL_setNote, cL_setNote, 4, (some .int), [(0, 9, 12, 24), (0, 9, 15, 15)])
def mL_removeNote : ji_M := (yL_removeNote, cL_removeNote, 4, (some .int), [(0, 9, 12, 24), (0, 9, 15, 15)])
def mL_setSize : ji_M := (yL_setSize, cL_setSize, 5, (some .int), [(0, 10, 13, 13)])
def mL_setStyle : ji_M := (yL_setStyle, cL_setStyle, 5, (some .int), [(0, 10, 13, 13)])
def mL_page : ji_M := (yL_page, cL_page, 5, (some .int), [(0, 10, 13, 24), (0, 10, 17, 13)])
def mL_line : ji_M := (yL_line, cL_line, 5, (some .int), [(0, 10, 13, 24), (0, 10, 17, 13)])
def mL_shown : ji_M := (yL_shown, cL_shown, 6, (some .int), [(0, 12, 15, 24), (0, 12, 19, 13)])
def mL_noteOn : ji_M := (yL_noteOn, cL_noteOn, 5, (some .int), [(0, 10, 13, 24)])
def mL_pageOf : ji_M := (yL_pageOf, cL_pageOf, 5, (some .int), [(0, 10, 13, 24)])
def mL_floating : ji_M := (yL_floating, cL_floating, 5, (some .int), [(0, 10, 13, 24)])
def mL_go : ji_M := (yL_go, cL_go, 5, (some .int), [(0, 10, 13, 24)])
def mL_back : ji_M := (yL_back, cL_back, 3, (some .int), [(0, 8, 11, 15)])
def mL_find : ji_M := (yL_find, cL_find, 4, (some .int), [(0, 9, 12, 15)])
def mL_count : ji_M := (yL_count, cL_count, 4, (some .int), [(0, 9, 12, 13)])
def mL_paragraph : ji_M := (yL_paragraph, cL_paragraph, 5, (some .int), [(0, 10, 13, 24), (0, 10, 17, 13)])
def mL_letter : ji_M := (yL_letter, cL_letter, 5, (some .int), [(0, 10, 13, 24)])
def mL_annotate : ji_M := (yL_annotate, cL_annotate, 7, (some .int), [(0, 14, 17, 24), (0, 14, 21, 13), (0, 14, 25, 15)])
def mL_annotation : ji_M := (yL_annotation, cL_annotation, 5, (some .int), [(0, 10, 13, 24), (0, 10, 17, 13)])
def mL_removeAnnotation : ji_M := (yL_removeAnnotation, cL_removeAnnotation, 4, (some .int), [(0, 9, 12, 24)])
def mL_insert : ji_M := (yL_insert, cL_insert, 5, (some .int), [(0, 10, 13, 24), (0, 10, 17, 15)])
def mL_delete : ji_M := (yL_delete, cL_delete, 6, (some .int), [(0, 12, 15, 24), (0, 12, 19, 15)])
def mL_split : ji_M := (yL_split, cL_split, 5, (some .int), [(0, 10, 13, 24), (0, 10, 17, 15)])
def mL_join : ji_M := (yL_join, cL_join, 4, (some .int), [(0, 9, 12, 24), (0, 9, 15, 15)])
def mL_undo : ji_M := (yL_undo, cL_undo, 3, (some .int), [(0, 8, 11, 15)])
def mL_ifSize : ji_M := (yL_ifSize, cL_ifSize, 6, (some .int), [(0, 12, 15, 13)])
def mL_fit : ji_M := (yL_fit, cL_fit, 4, (some .int), [(0, 9, 12, 13)])
def mL_law : ji_M := (yL_law, cL_law, 9, (some .boolean), [])
theorem wX0_init : ji_mw mX0_init 3 := ⟨⟨List.mem_of_getElem? (i := 217) (by decide +kernel), by decide +kernel⟩, ⟨List.mem_of_getElem? (i := 130) (by decide +kernel), by decide +kernel⟩, by decide, by decide, by decide +kernel, by decide, rfl⟩
theorem iX0_init : ji_in (.instanceMethod yX0_init) := ⟨List.mem_of_getElem? (i := 216) (by decide +kernel), by decide +kernel⟩
theorem wX0_words : ji_mw mX0_words 0 := ⟨⟨List.mem_of_getElem? (i := 461) (by decide +kernel), by decide +kernel⟩, ⟨List.mem_of_getElem? (i := 130) (by decide +kernel), by decide +kernel⟩, by decide, by decide, by decide +kernel, by decide, rfl⟩
theorem vX0_words : ji_mv mX0_words := ⟨⟨List.mem_of_getElem? (i := 459) (by decide +kernel), by decide +kernel⟩, ⟨List.mem_of_getElem? (i := 460) (by decide +kernel), by decide +kernel⟩⟩
theorem wX0_paragraphs : ji_mw mX0_paragraphs 0 := ⟨⟨List.mem_of_getElem? (i := 465) (by decide +kernel), by decide +kernel⟩, ⟨List.mem_of_getElem? (i := 130) (by decide +kernel), by decide +kernel⟩, by decide, by decide, by decide +kernel, by decide, rfl⟩
theorem vX0_paragraphs : ji_mv mX0_paragraphs := ⟨⟨List.mem_of_getElem? (i := 463) (by decide +kernel), by decide +kernel⟩, ⟨List.mem_of_getElem? (i := 464) (by decide +kernel), by decide +kernel⟩⟩
theorem wX0_kindOf : ji_mw mX0_kindOf 1 := ⟨⟨List.mem_of_getElem? (i := 477) (by decide +kernel), by decide +kernel⟩, ⟨List.mem_of_getElem? (i := 130) (by decide +kernel), by decide +kernel⟩, by decide, by decide, by decide +kernel, by decide, rfl⟩
theorem vX0_kindOf : ji_mv mX0_kindOf := ⟨⟨List.mem_of_getElem? (i := 475) (by decide +kernel), by decide +kernel⟩, ⟨List.mem_of_getElem? (i := 476) (by decide +kernel), by decide +kernel⟩⟩
theorem wX0_firstWordOf : ji_mw mX0_firstWordOf 1 := ⟨⟨List.mem_of_getElem? (i := 469) (by decide +kernel), by decide +kernel⟩, ⟨List.mem_of_getElem? (i := 130) (by decide +kernel), by decide +kernel⟩, by decide, by decide, by decide +kernel, by decide, rfl⟩
theorem vX0_firstWordOf : ji_mv mX0_firstWordOf := ⟨⟨List.mem_of_getElem? (i := 467) (by decide +kernel), by decide +kernel⟩, ⟨List.mem_of_getElem? (i := 468) (by decide +kernel), by decide +kernel⟩⟩
theorem wX0_wordsOf : ji_mw mX0_wordsOf 1 := ⟨⟨List.mem_of_getElem? (i := 700) (by decide +kernel), by decide +kernel⟩, ⟨List.mem_of_getElem? (i := 130) (by decide +kernel), by decide +kernel⟩, by decide, by decide, by decide +kernel, by decide, rfl⟩
theorem vX0_wordsOf : ji_mv mX0_wordsOf := ⟨⟨List.mem_of_getElem? (i := 698) (by decide +kernel), by decide +kernel⟩, ⟨List.mem_of_getElem? (i := 699) (by decide +kernel), by decide +kernel⟩⟩
theorem wX0_placeOfWord : ji_mw mX0_placeOfWord 2 := ⟨⟨List.mem_of_getElem? (i := 1226) (by decide +kernel), by decide +kernel⟩, ⟨List.mem_of_getElem? (i := 130) (by decide +kernel), by decide +kernel⟩, by decide, by decide, by decide +kernel, by decide, rfl⟩
theorem vX0_placeOfWord : ji_mv mX0_placeOfWord := ⟨⟨List.mem_of_getElem? (i := 1224) (by decide +kernel), by decide +kernel⟩, ⟨List.mem_of_getElem? (i := 1225) (by decide +kernel), by decide +kernel⟩⟩
theorem wX0_startOf : ji_mw mX0_startOf 1 := ⟨⟨List.mem_of_getElem? (i := 641) (by decide +kernel), by decide +kernel⟩, ⟨List.mem_of_getElem? (i := 130) (by decide +kernel), by decide +kernel⟩, by decide, by decide, by decide +kernel, by decide, rfl⟩
theorem vX0_startOf : ji_mv mX0_startOf := ⟨⟨List.mem_of_getElem? (i := 639) (by decide +kernel), by decide +kernel⟩, ⟨List.mem_of_getElem? (i := 640) (by decide +kernel), by decide +kernel⟩⟩
theorem wX0_endOf : ji_mw mX0_endOf 1 := ⟨⟨List.mem_of_getElem? (i := 708) (by decide +kernel), by decide +kernel⟩, ⟨List.mem_of_getElem? (i := 130) (by decide +kernel), by decide +kernel⟩, by decide, by decide, by decide +kernel, by decide, rfl⟩
theorem vX0_endOf : ji_mv mX0_endOf := ⟨⟨List.mem_of_getElem? (i := 706) (by decide +kernel), by decide +kernel⟩, ⟨List.mem_of_getElem? (i := 707) (by decide +kernel), by decide +kernel⟩⟩
theorem wX0_lengthOf : ji_mw mX0_lengthOf 1 := ⟨⟨List.mem_of_getElem? (i := 704) (by decide +kernel), by decide +kernel⟩, ⟨List.mem_of_getElem? (i := 130) (by decide +kernel), by decide +kernel⟩, by decide, by decide, by decide +kernel, by decide, rfl⟩
theorem vX0_lengthOf : ji_mv mX0_lengthOf := ⟨⟨List.mem_of_getElem? (i := 702) (by decide +kernel), by decide +kernel⟩, ⟨List.mem_of_getElem? (i := 703) (by decide +kernel), by decide +kernel⟩⟩
theorem wX0_characters : ji_mw mX0_characters 0 := ⟨⟨List.mem_of_getElem? (i := 620) (by decide +kernel), by decide +kernel⟩, ⟨List.mem_of_getElem? (i := 130) (by decide +kernel), by decide +kernel⟩, by decide, by decide, by decide +kernel, by decide, rfl⟩
theorem vX0_characters : ji_mv mX0_characters := ⟨⟨List.mem_of_getElem? (i := 618) (by decide +kernel), by decide +kernel⟩, ⟨List.mem_of_getElem? (i := 619) (by decide +kernel), by decide +kernel⟩⟩
theorem wX0_charactersBefore : ji_mw mX0_charactersBefore 1 := ⟨⟨List.mem_of_getElem? (i := 683) (by decide +kernel), by decide +kernel⟩, ⟨List.mem_of_getElem? (i := 130) (by decide +kernel), by decide +kernel⟩, by decide, by decide, by decide +kernel, by decide, rfl⟩
theorem vX0_charactersBefore : ji_mv mX0_charactersBefore := ⟨⟨List.mem_of_getElem? (i := 681) (by decide +kernel), by decide +kernel⟩, ⟨List.mem_of_getElem? (i := 682) (by decide +kernel), by decide +kernel⟩⟩
theorem wX0_paragraphAt : ji_mw mX0_paragraphAt 1 := ⟨⟨List.mem_of_getElem? (i := 637) (by decide +kernel), by decide +kernel⟩, ⟨List.mem_of_getElem? (i := 130) (by decide +kernel), by decide +kernel⟩, by decide, by decide, by decide +kernel, by decide, rfl⟩
theorem vX0_paragraphAt : ji_mv mX0_paragraphAt := ⟨⟨List.mem_of_getElem? (i := 635) (by decide +kernel), by decide +kernel⟩, ⟨List.mem_of_getElem? (i := 636) (by decide +kernel), by decide +kernel⟩⟩
theorem wX0_positionOf : ji_mw mX0_positionOf 1 := ⟨⟨List.mem_of_getElem? (i := 633) (by decide +kernel), by decide +kernel⟩, ⟨List.mem_of_getElem? (i := 130) (by decide +kernel), by decide +kernel⟩, by decide, by decide, by decide +kernel, by decide, rfl⟩
theorem vX0_positionOf : ji_mv mX0_positionOf := ⟨⟨List.mem_of_getElem? (i := 631) (by decide +kernel), by decide +kernel⟩, ⟨List.mem_of_getElem? (i := 632) (by decide +kernel), by decide +kernel⟩⟩
theorem wX0_withInserted : ji_mw mX0_withInserted 3 := ⟨⟨List.mem_of_getElem? (i := 1231) (by decide +kernel), by decide +kernel⟩, ⟨List.mem_of_getElem? (i := 130) (by decide +kernel), by decide +kernel⟩, by decide, by decide, by decide +kernel, by decide, rfl⟩
theorem vX0_withInserted : ji_mv mX0_withInserted := ⟨⟨List.mem_of_getElem? (i := 1229) (by decide +kernel), by decide +kernel⟩, ⟨List.mem_of_getElem? (i := 1230) (by decide +kernel), by decide +kernel⟩⟩
theorem wX0_withDeleted : ji_mw mX0_withDeleted 3 := ⟨⟨List.mem_of_getElem? (i := 1272) (by decide +kernel), by decide +kernel⟩, ⟨List.mem_of_getElem? (i := 130) (by decide +kernel), by decide +kernel⟩, by decide, by decide, by decide +kernel, by decide, rfl⟩
theorem vX0_withDeleted : ji_mv mX0_withDeleted := ⟨⟨List.mem_of_getElem? (i := 1270) (by decide +kernel), by decide +kernel⟩, ⟨List.mem_of_getElem? (i := 1271) (by decide +kernel), by decide +kernel⟩⟩
theorem wX0_withWords : ji_mw mX0_withWords 2 := ⟨⟨List.mem_of_getElem? (i := 1242) (by decide +kernel), by decide +kernel⟩, ⟨List.mem_of_getElem? (i := 130) (by decide +kernel), by decide +kernel⟩, by decide, by decide, by decide +kernel, by decide, rfl⟩
theorem vX0_withWords : ji_mv mX0_withWords := ⟨⟨List.mem_of_getElem? (i := 1241) (by decide +kernel), by decide +kernel⟩, ⟨List.mem_of_getElem? (i := 48) (by decide +kernel), by decide +kernel⟩⟩
theorem wX0_withSplit : ji_mw mX0_withSplit 2 := ⟨⟨List.mem_of_getElem? (i := 1296) (by decide +kernel), by decide +kernel⟩, ⟨List.mem_of_getElem? (i := 130) (by decide +kernel), by decide +kernel⟩, by decide, by decide, by decide +kernel, by decide, rfl⟩
theorem vX0_withSplit : ji_mv mX0_withSplit := ⟨⟨List.mem_of_getElem? (i := 1294) (by decide +kernel), by decide +kernel⟩, ⟨List.mem_of_getElem? (i := 1295) (by decide +kernel), by decide +kernel⟩⟩
theorem wX0_withJoined : ji_mw mX0_withJoined 1 := ⟨⟨List.mem_of_getElem? (i := 1309) (by decide +kernel), by decide +kernel⟩, ⟨List.mem_of_getElem? (i := 130) (by decide +kernel), by decide +kernel⟩, by decide, by decide, by decide +kernel, by decide, rfl⟩
theorem vX0_withJoined : ji_mv mX0_withJoined := ⟨⟨List.mem_of_getElem? (i := 1307) (by decide +kernel), by decide +kernel⟩, ⟨List.mem_of_getElem? (i := 1308) (by decide +kernel), by decide +kernel⟩⟩
theorem wX1_init : ji_mw mX1_init 0 := ⟨⟨List.mem_of_getElem? (i := 261) (by decide +kernel), by decide +kernel⟩, ⟨List.mem_of_getElem? (i := 133) (by decide +kernel), by decide +kernel⟩, by decide, by decide, by decide +kernel, by decide, rfl⟩
theorem iX1_init : ji_in (.instanceMethod yX1_init) := ⟨List.mem_of_getElem? (i := 260) (by decide +kernel), by decide +kernel⟩
theorem wX1_edits : ji_mw mX1_edits 0 := ⟨⟨List.mem_of_getElem? (i := 675) (by decide +kernel), by decide +kernel⟩, ⟨List.mem_of_getElem? (i := 133) (by decide +kernel), by decide +kernel⟩, by decide, by decide, by decide +kernel, by decide, rfl⟩
theorem vX1_edits : ji_mv mX1_edits := ⟨⟨List.mem_of_getElem? (i := 673) (by decide +kernel), by decide +kernel⟩, ⟨List.mem_of_getElem? (i := 674) (by decide +kernel), by decide +kernel⟩⟩
theorem wX1_forget : ji_mw mX1_forget 0 := ⟨⟨List.mem_of_getElem? (i := 923) (by decide +kernel), by decide +kernel⟩, ⟨List.mem_of_getElem? (i := 133) (by decide +kernel), by decide +kernel⟩, by decide, by decide, by decide +kernel, by decide, rfl⟩
theorem vX1_forget : ji_mv mX1_forget := ⟨⟨List.mem_of_getElem? (i := 921) (by decide +kernel), by decide +kernel⟩, ⟨List.mem_of_getElem? (i := 922) (by decide +kernel), by decide +kernel⟩⟩
theorem wX1_keep : ji_mw mX1_keep 2 := ⟨⟨List.mem_of_getElem? (i := 1214) (by decide +kernel), by decide +kernel⟩, ⟨List.mem_of_getElem? (i := 133) (by decide +kernel), by decide +kernel⟩, by decide, by decide, by decide +kernel, by decide, rfl⟩
theorem vX1_keep : ji_mv mX1_keep := ⟨⟨List.mem_of_getElem? (i := 1212) (by decide +kernel), by decide +kernel⟩, ⟨List.mem_of_getElem? (i := 1213) (by decide +kernel), by decide +kernel⟩⟩
theorem wX1_forgetOldest : ji_mw mX1_forgetOldest 0 := ⟨⟨List.mem_of_getElem? (i := 1218) (by decide +kernel), by decide +kernel⟩, ⟨List.mem_of_getElem? (i := 133) (by decide +kernel), by decide +kernel⟩, by decide, by decide, by decide +kernel, by decide, rfl⟩
theorem vX1_forgetOldest : ji_mv mX1_forgetOldest := ⟨⟨List.mem_of_getElem? (i := 1217) (by decide +kernel), by decide +kernel⟩, ⟨List.mem_of_getElem? (i := 47) (by decide +kernel), by decide +kernel⟩⟩
theorem wX1_latestBook : ji_mw mX1_latestBook 0 := ⟨⟨List.mem_of_getElem? (i := 1320) (by decide +kernel), by decide +kernel⟩, ⟨List.mem_of_getElem? (i := 133) (by decide +kernel), by decide +kernel⟩, by decide, by decide, by decide +kernel, by decide, rfl⟩
theorem vX1_latestBook : ji_mv mX1_latestBook := ⟨⟨List.mem_of_getElem? (i := 1318) (by decide +kernel), by decide +kernel⟩, ⟨List.mem_of_getElem? (i := 1319) (by decide +kernel), by decide +kernel⟩⟩
theorem wX1_bringBack : ji_mw mX1_bringBack 1 := ⟨⟨List.mem_of_getElem? (i := 1325) (by decide +kernel), by decide +kernel⟩, ⟨List.mem_of_getElem? (i := 133) (by decide +kernel), by decide +kernel⟩, by decide, by decide, by decide +kernel, by decide, rfl⟩
theorem vX1_bringBack : ji_mv mX1_bringBack := ⟨⟨List.mem_of_getElem? (i := 1323) (by decide +kernel), by decide +kernel⟩, ⟨List.mem_of_getElem? (i := 1324) (by decide +kernel), by decide +kernel⟩⟩
theorem wX2_init : ji_mw mX2_init 0 := ⟨⟨List.mem_of_getElem? (i := 157) (by decide +kernel), by decide +kernel⟩, ⟨List.mem_of_getElem? (i := 128) (by decide +kernel), by decide +kernel⟩, by decide, by decide, by decide +kernel, by decide, rfl⟩
theorem iX2_init : ji_in (.instanceMethod yX2_init) := ⟨List.mem_of_getElem? (i := 156) (by decide +kernel), by decide +kernel⟩
theorem wX2_length : ji_mw mX2_length 0 := ⟨⟨List.mem_of_getElem? (i := 375) (by decide +kernel), by decide +kernel⟩, ⟨List.mem_of_getElem? (i := 128) (by decide +kernel), by decide +kernel⟩, by decide, by decide, by decide +kernel, by decide, rfl⟩
theorem vX2_length : ji_mv mX2_length := ⟨⟨List.mem_of_getElem? (i := 373) (by decide +kernel), by decide +kernel⟩, ⟨List.mem_of_getElem? (i := 374) (by decide +kernel), by decide +kernel⟩⟩
theorem wX2_isFull : ji_mw mX2_isFull 0 := ⟨⟨List.mem_of_getElem? (i := 866) (by decide +kernel), by decide +kernel⟩, ⟨List.mem_of_getElem? (i := 128) (by decide +kernel), by decide +kernel⟩, by decide, by decide, by decide +kernel, by decide, rfl⟩
theorem vX2_isFull : ji_mv mX2_isFull := ⟨⟨List.mem_of_getElem? (i := 864) (by decide +kernel), by decide +kernel⟩, ⟨List.mem_of_getElem? (i := 865) (by decide +kernel), by decide +kernel⟩⟩
theorem wX2_put : ji_mw mX2_put 1 := ⟨⟨List.mem_of_getElem? (i := 886) (by decide +kernel), by decide +kernel⟩, ⟨List.mem_of_getElem? (i := 128) (by decide +kernel), by decide +kernel⟩, by decide, by decide, by decide +kernel, by decide, rfl⟩
theorem vX2_put : ji_mv mX2_put := ⟨⟨List.mem_of_getElem? (i := 884) (by decide +kernel), by decide +kernel⟩, ⟨List.mem_of_getElem? (i := 885) (by decide +kernel), by decide +kernel⟩⟩
theorem wX2_empty : ji_mw mX2_empty 0 := ⟨⟨List.mem_of_getElem? (i := 379) (by decide +kernel), by decide +kernel⟩, ⟨List.mem_of_getElem? (i := 128) (by decide +kernel), by decide +kernel⟩, by decide, by decide, by decide +kernel, by decide, rfl⟩
theorem vX2_empty : ji_mv mX2_empty := ⟨⟨List.mem_of_getElem? (i := 377) (by decide +kernel), by decide +kernel⟩, ⟨List.mem_of_getElem? (i := 378) (by decide +kernel), by decide +kernel⟩⟩
theorem wX2_signAt : ji_mw mX2_signAt 1 := ⟨⟨List.mem_of_getElem? (i := 403) (by decide +kernel), by decide +kernel⟩, ⟨List.mem_of_getElem? (i := 128) (by decide +kernel), by decide +kernel⟩, by decide, by decide, by decide +kernel, by decide, rfl⟩
theorem vX2_signAt : ji_mv mX2_signAt := ⟨⟨List.mem_of_getElem? (i := 401) (by decide +kernel), by decide +kernel⟩, ⟨List.mem_of_getElem? (i := 402) (by decide +kernel), by decide +kernel⟩⟩
theorem wX2_firstFault : ji_mw mX2_firstFault 1 := ⟨⟨List.mem_of_getElem? (i := 387) (by decide +kernel), by decide +kernel⟩, ⟨List.mem_of_getElem? (i := 128) (by decide +kernel), by decide +kernel⟩, by decide, by decide, by decide +kernel, by decide, rfl⟩
theorem vX2_firstFault : ji_mv mX2_firstFault := ⟨⟨List.mem_of_getElem? (i := 385) (by decide +kernel), by decide +kernel⟩, ⟨List.mem_of_getElem? (i := 386) (by decide +kernel), by decide +kernel⟩⟩
theorem wX2_isWhole : ji_mw mX2_isWhole 1 := ⟨⟨List.mem_of_getElem? (i := 897) (by decide +kernel), by decide +kernel⟩, ⟨List.mem_of_getElem? (i := 128) (by decide +kernel), by decide +kernel⟩, by decide, by decide, by decide +kernel, by decide, rfl⟩
theorem vX2_isWhole : ji_mv mX2_isWhole := ⟨⟨List.mem_of_getElem? (i := 895) (by decide +kernel), by decide +kernel⟩, ⟨List.mem_of_getElem? (i := 896) (by decide +kernel), by decide +kernel⟩⟩
theorem wX2_wordsOfList : ji_mw mX2_wordsOfList 0 := ⟨⟨List.mem_of_getElem? (i := 1209) (by decide +kernel), by decide +kernel⟩, ⟨List.mem_of_getElem? (i := 128) (by decide +kernel), by decide +kernel⟩, by decide, by decide, by decide +kernel, by decide, rfl⟩
theorem vX2_wordsOfList : ji_mv mX2_wordsOfList := ⟨⟨List.mem_of_getElem? (i := 1207) (by decide +kernel), by decide +kernel⟩, ⟨List.mem_of_getElem? (i := 1208) (by decide +kernel), by decide +kernel⟩⟩
theorem wX2_timesOf : ji_mw mX2_timesOf 1 := ⟨⟨List.mem_of_getElem? (i := 911) (by decide +kernel), by decide +kernel⟩, ⟨List.mem_of_getElem? (i := 128) (by decide +kernel), by decide +kernel⟩, by decide, by decide, by decide +kernel, by decide, rfl⟩
theorem vX2_timesOf : ji_mv mX2_timesOf := ⟨⟨List.mem_of_getElem? (i := 910) (by decide +kernel), by decide +kernel⟩, ⟨List.mem_of_getElem? (i := 37) (by decide +kernel), by decide +kernel⟩⟩
theorem wX2_beginsWith : ji_mw mX2_beginsWith 2 := ⟨⟨List.mem_of_getElem? (i := 1132) (by decide +kernel), by decide +kernel⟩, ⟨List.mem_of_getElem? (i := 128) (by decide +kernel), by decide +kernel⟩, by decide, by decide, by decide +kernel, by decide, rfl⟩
theorem vX2_beginsWith : ji_mv mX2_beginsWith := ⟨⟨List.mem_of_getElem? (i := 1130) (by decide +kernel), by decide +kernel⟩, ⟨List.mem_of_getElem? (i := 1131) (by decide +kernel), by decide +kernel⟩⟩
theorem wX2_padded : ji_mw mX2_padded 2 := ⟨⟨List.mem_of_getElem? (i := 963) (by decide +kernel), by decide +kernel⟩, ⟨List.mem_of_getElem? (i := 128) (by decide +kernel), by decide +kernel⟩, by decide, by decide, by decide +kernel, by decide, rfl⟩
theorem vX2_padded : ji_mv mX2_padded := ⟨⟨List.mem_of_getElem? (i := 961) (by decide +kernel), by decide +kernel⟩, ⟨List.mem_of_getElem? (i := 962) (by decide +kernel), by decide +kernel⟩⟩
theorem wX2_toNote : ji_mw mX2_toNote 1 := ⟨⟨List.mem_of_getElem? (i := 959) (by decide +kernel), by decide +kernel⟩, ⟨List.mem_of_getElem? (i := 128) (by decide +kernel), by decide +kernel⟩, by decide, by decide, by decide +kernel, by decide, rfl⟩
theorem vX2_toNote : ji_mv mX2_toNote := ⟨⟨List.mem_of_getElem? (i := 957) (by decide +kernel), by decide +kernel⟩, ⟨List.mem_of_getElem? (i := 958) (by decide +kernel), by decide +kernel⟩⟩
theorem wX2_toBook : ji_mw mX2_toBook 0 := ⟨⟨List.mem_of_getElem? (i := 907) (by decide +kernel), by decide +kernel⟩, ⟨List.mem_of_getElem? (i := 128) (by decide +kernel), by decide +kernel⟩, by decide, by decide, by decide +kernel, by decide, rfl⟩
theorem vX2_toBook : ji_mv mX2_toBook := ⟨⟨List.mem_of_getElem? (i := 905) (by decide +kernel), by decide +kernel⟩, ⟨List.mem_of_getElem? (i := 906) (by decide +kernel), by decide +kernel⟩⟩
theorem wX3_init : ji_mw mX3_init 3 := ⟨⟨List.mem_of_getElem? (i := 282) (by decide +kernel), by decide +kernel⟩, ⟨List.mem_of_getElem? (i := 134) (by decide +kernel), by decide +kernel⟩, by decide, by decide, by decide +kernel, by decide, rfl⟩
theorem iX3_init : ji_in (.instanceMethod yX3_init) := ⟨List.mem_of_getElem? (i := 281) (by decide +kernel), by decide +kernel⟩
theorem wX3_lay : ji_mw mX3_lay 3 := ⟨⟨List.mem_of_getElem? (i := 425) (by decide +kernel), by decide +kernel⟩, ⟨List.mem_of_getElem? (i := 134) (by decide +kernel), by decide +kernel⟩, by decide, by decide, by decide +kernel, by decide, rfl⟩
theorem vX3_lay : ji_mv mX3_lay := ⟨⟨List.mem_of_getElem? (i := 423) (by decide +kernel), by decide +kernel⟩, ⟨List.mem_of_getElem? (i := 424) (by decide +kernel), by decide +kernel⟩⟩
theorem wX3_measureNotes : ji_mw mX3_measureNotes 0 := ⟨⟨List.mem_of_getElem? (i := 429) (by decide +kernel), by decide +kernel⟩, ⟨List.mem_of_getElem? (i := 134) (by decide +kernel), by decide +kernel⟩, by decide, by decide, by decide +kernel, by decide, rfl⟩
theorem vX3_measureNotes : ji_mv mX3_measureNotes := ⟨⟨List.mem_of_getElem? (i := 428) (by decide +kernel), by decide +kernel⟩, ⟨List.mem_of_getElem? (i := 3) (by decide +kernel), by decide +kernel⟩⟩
theorem wX3_breakLines : ji_mw mX3_breakLines 0 := ⟨⟨List.mem_of_getElem? (i := 457) (by decide +kernel), by decide +kernel⟩, ⟨List.mem_of_getElem? (i := 134) (by decide +kernel), by decide +kernel⟩, by decide, by decide, by decide +kernel, by decide, rfl⟩
theorem vX3_breakLines : ji_mv mX3_breakLines := ⟨⟨List.mem_of_getElem? (i := 456) (by decide +kernel), by decide +kernel⟩, ⟨List.mem_of_getElem? (i := 5) (by decide +kernel), by decide +kernel⟩⟩
theorem wX3_referencesOf : ji_mw mX3_referencesOf 2 := ⟨⟨List.mem_of_getElem? (i := 490) (by decide +kernel), by decide +kernel⟩, ⟨List.mem_of_getElem? (i := 134) (by decide +kernel), by decide +kernel⟩, by decide, by decide, by decide +kernel, by decide, rfl⟩
theorem vX3_referencesOf : ji_mv mX3_referencesOf := ⟨⟨List.mem_of_getElem? (i := 489) (by decide +kernel), by decide +kernel⟩, ⟨List.mem_of_getElem? (i := 9) (by decide +kernel), by decide +kernel⟩⟩
theorem wX3_measureLines : ji_mw mX3_measureLines 0 := ⟨⟨List.mem_of_getElem? (i := 503) (by decide +kernel), by decide +kernel⟩, ⟨List.mem_of_getElem? (i := 134) (by decide +kernel), by decide +kernel⟩, by decide, by decide, by decide +kernel, by decide, rfl⟩
theorem vX3_measureLines : ji_mv mX3_measureLines := ⟨⟨List.mem_of_getElem? (i := 502) (by decide +kernel), by decide +kernel⟩, ⟨List.mem_of_getElem? (i := 10) (by decide +kernel), by decide +kernel⟩⟩
theorem wX3_gapOf : ji_mw mX3_gapOf 1 := ⟨⟨List.mem_of_getElem? (i := 515) (by decide +kernel), by decide +kernel⟩, ⟨List.mem_of_getElem? (i := 134) (by decide +kernel), by decide +kernel⟩, by decide, by decide, by decide +kernel, by decide, rfl⟩
theorem vX3_gapOf : ji_mv mX3_gapOf := ⟨⟨List.mem_of_getElem? (i := 514) (by decide +kernel), by decide +kernel⟩, ⟨List.mem_of_getElem? (i := 12) (by decide +kernel), by decide +kernel⟩⟩
theorem wX3_isAllowedBreak : ji_mw mX3_isAllowedBreak 1 := ⟨⟨List.mem_of_getElem? (i := 519) (by decide +kernel), by decide +kernel⟩, ⟨List.mem_of_getElem? (i := 134) (by decide +kernel), by decide +kernel⟩, by decide, by decide, by decide +kernel, by decide, rfl⟩
theorem vX3_isAllowedBreak : ji_mv mX3_isAllowedBreak := ⟨⟨List.mem_of_getElem? (i := 518) (by decide +kernel), by decide +kernel⟩, ⟨List.mem_of_getElem? (i := 13) (by decide +kernel), by decide +kernel⟩⟩
theorem wX3_breakPages : ji_mw mX3_breakPages 0 := ⟨⟨List.mem_of_getElem? (i := 523) (by decide +kernel), by decide +kernel⟩, ⟨List.mem_of_getElem? (i := 134) (by decide +kernel), by decide +kernel⟩, by decide, by decide, by decide +kernel, by decide, rfl⟩
theorem vX3_breakPages : ji_mv mX3_breakPages := ⟨⟨List.mem_of_getElem? (i := 522) (by decide +kernel), by decide +kernel⟩, ⟨List.mem_of_getElem? (i := 14) (by decide +kernel), by decide +kernel⟩⟩
theorem wX3_styleOf : ji_mw mX3_styleOf 1 := ⟨⟨List.mem_of_getElem? (i := 481) (by decide +kernel), by decide +kernel⟩, ⟨List.mem_of_getElem? (i := 134) (by decide +kernel), by decide +kernel⟩, by decide, by decide, by decide +kernel, by decide, rfl⟩
theorem vX3_styleOf : ji_mv mX3_styleOf := ⟨⟨List.mem_of_getElem? (i := 480) (by decide +kernel), by decide +kernel⟩, ⟨List.mem_of_getElem? (i := 7) (by decide +kernel), by decide +kernel⟩⟩
theorem wX3_textOf : ji_mw mX3_textOf 1 := ⟨⟨List.mem_of_getElem? (i := 433) (by decide +kernel), by decide +kernel⟩, ⟨List.mem_of_getElem? (i := 134) (by decide +kernel), by decide +kernel⟩, by decide, by decide, by decide +kernel, by decide, rfl⟩
theorem vX3_textOf : ji_mv mX3_textOf := ⟨⟨List.mem_of_getElem? (i := 432) (by decide +kernel), by decide +kernel⟩, ⟨List.mem_of_getElem? (i := 4) (by decide +kernel), by decide +kernel⟩⟩
theorem wX3_firstIndentOf : ji_mw mX3_firstIndentOf 1 := ⟨⟨List.mem_of_getElem? (i := 473) (by decide +kernel), by decide +kernel⟩, ⟨List.mem_of_getElem? (i := 134) (by decide +kernel), by decide +kernel⟩, by decide, by decide, by decide +kernel, by decide, rfl⟩
theorem vX3_firstIndentOf : ji_mv mX3_firstIndentOf := ⟨⟨List.mem_of_getElem? (i := 472) (by decide +kernel), by decide +kernel⟩, ⟨List.mem_of_getElem? (i := 6) (by decide +kernel), by decide +kernel⟩⟩
theorem wX3_laterIndentOf : ji_mw mX3_laterIndentOf 1 := ⟨⟨List.mem_of_getElem? (i := 485) (by decide +kernel), by decide +kernel⟩, ⟨List.mem_of_getElem? (i := 134) (by decide +kernel), by decide +kernel⟩, by decide, by decide, by decide +kernel, by decide, rfl⟩
theorem vX3_laterIndentOf : ji_mv mX3_laterIndentOf := ⟨⟨List.mem_of_getElem? (i := 484) (by decide +kernel), by decide +kernel⟩, ⟨List.mem_of_getElem? (i := 8) (by decide +kernel), by decide +kernel⟩⟩
theorem wX3_lines : ji_mw mX3_lines 0 := ⟨⟨List.mem_of_getElem? (i := 629) (by decide +kernel), by decide +kernel⟩, ⟨List.mem_of_getElem? (i := 134) (by decide +kernel), by decide +kernel⟩, by decide, by decide, by decide +kernel, by decide, rfl⟩
theorem vX3_lines : ji_mv mX3_lines := ⟨⟨List.mem_of_getElem? (i := 627) (by decide +kernel), by decide +kernel⟩, ⟨List.mem_of_getElem? (i := 628) (by decide +kernel), by decide +kernel⟩⟩
theorem wX3_pages : ji_mw mX3_pages 0 := ⟨⟨List.mem_of_getElem? (i := 572) (by decide +kernel), by decide +kernel⟩, ⟨List.mem_of_getElem? (i := 134) (by decide +kernel), by decide +kernel⟩, by decide, by decide, by decide +kernel, by decide, rfl⟩
theorem vX3_pages : ji_mv mX3_pages := ⟨⟨List.mem_of_getElem? (i := 570) (by decide +kernel), by decide +kernel⟩, ⟨List.mem_of_getElem? (i := 571) (by decide +kernel), by decide +kernel⟩⟩
theorem wX3_firstWordOfLine : ji_mw mX3_firstWordOfLine 1 := ⟨⟨List.mem_of_getElem? (i := 563) (by decide +kernel), by decide +kernel⟩, ⟨List.mem_of_getElem? (i := 134) (by decide +kernel), by decide +kernel⟩, by decide, by decide, by decide +kernel, by decide, rfl⟩
theorem vX3_firstWordOfLine : ji_mv mX3_firstWordOfLine := ⟨⟨List.mem_of_getElem? (i := 561) (by decide +kernel), by decide +kernel⟩, ⟨List.mem_of_getElem? (i := 562) (by decide +kernel), by decide +kernel⟩⟩
theorem wX3_paragraphOfLine : ji_mw mX3_paragraphOfLine 1 := ⟨⟨List.mem_of_getElem? (i := 511) (by decide +kernel), by decide +kernel⟩, ⟨List.mem_of_getElem? (i := 134) (by decide +kernel), by decide +kernel⟩, by decide, by decide, by decide +kernel, by decide, rfl⟩
theorem vX3_paragraphOfLine : ji_mv mX3_paragraphOfLine := ⟨⟨List.mem_of_getElem? (i := 509) (by decide +kernel), by decide +kernel⟩, ⟨List.mem_of_getElem? (i := 510) (by decide +kernel), by decide +kernel⟩⟩
theorem wX3_indentOfLine : ji_mw mX3_indentOfLine 1 := ⟨⟨List.mem_of_getElem? (i := 734) (by decide +kernel), by decide +kernel⟩, ⟨List.mem_of_getElem? (i := 134) (by decide +kernel), by decide +kernel⟩, by decide, by decide, by decide +kernel, by decide, rfl⟩
theorem vX3_indentOfLine : ji_mv mX3_indentOfLine := ⟨⟨List.mem_of_getElem? (i := 733) (by decide +kernel), by decide +kernel⟩, ⟨List.mem_of_getElem? (i := 29) (by decide +kernel), by decide +kernel⟩⟩
theorem wX3_gapBefore : ji_mw mX3_gapBefore 1 := ⟨⟨List.mem_of_getElem? (i := 535) (by decide +kernel), by decide +kernel⟩, ⟨List.mem_of_getElem? (i := 134) (by decide +kernel), by decide +kernel⟩, by decide, by decide, by decide +kernel, by decide, rfl⟩
theorem vX3_gapBefore : ji_mv mX3_gapBefore := ⟨⟨List.mem_of_getElem? (i := 534) (by decide +kernel), by decide +kernel⟩, ⟨List.mem_of_getElem? (i := 16) (by decide +kernel), by decide +kernel⟩⟩
theorem wX3_mayBreakBefore : ji_mw mX3_mayBreakBefore 1 := ⟨⟨List.mem_of_getElem? (i := 547) (by decide +kernel), by decide +kernel⟩, ⟨List.mem_of_getElem? (i := 134) (by decide +kernel), by decide +kernel⟩, by decide, by decide, by decide +kernel, by decide, rfl⟩
theorem vX3_mayBreakBefore : ji_mv mX3_mayBreakBefore := ⟨⟨List.mem_of_getElem? (i := 546) (by decide +kernel), by decide +kernel⟩, ⟨List.mem_of_getElem? (i := 19) (by decide +kernel), by decide +kernel⟩⟩
theorem wX3_notesOfLine : ji_mw mX3_notesOfLine 1 := ⟨⟨List.mem_of_getElem? (i := 531) (by decide +kernel), by decide +kernel⟩, ⟨List.mem_of_getElem? (i := 134) (by decide +kernel), by decide +kernel⟩, by decide, by decide, by decide +kernel, by decide, rfl⟩
theorem vX3_notesOfLine : ji_mv mX3_notesOfLine := ⟨⟨List.mem_of_getElem? (i := 530) (by decide +kernel), by decide +kernel⟩, ⟨List.mem_of_getElem? (i := 15) (by decide +kernel), by decide +kernel⟩⟩
theorem wX3_pageOfLine : ji_mw mX3_pageOfLine 1 := ⟨⟨List.mem_of_getElem? (i := 568) (by decide +kernel), by decide +kernel⟩, ⟨List.mem_of_getElem? (i := 134) (by decide +kernel), by decide +kernel⟩, by decide, by decide, by decide +kernel, by decide, rfl⟩
theorem vX3_pageOfLine : ji_mv mX3_pageOfLine := ⟨⟨List.mem_of_getElem? (i := 566) (by decide +kernel), by decide +kernel⟩, ⟨List.mem_of_getElem? (i := 567) (by decide +kernel), by decide +kernel⟩⟩
theorem wX3_firstLineOfPage : ji_mw mX3_firstLineOfPage 1 := ⟨⟨List.mem_of_getElem? (i := 580) (by decide +kernel), by decide +kernel⟩, ⟨List.mem_of_getElem? (i := 134) (by decide +kernel), by decide +kernel⟩, by decide, by decide, by decide +kernel, by decide, rfl⟩
theorem vX3_firstLineOfPage : ji_mv mX3_firstLineOfPage := ⟨⟨List.mem_of_getElem? (i := 578) (by decide +kernel), by decide +kernel⟩, ⟨List.mem_of_getElem? (i := 579) (by decide +kernel), by decide +kernel⟩⟩
theorem wX3_beginsParagraph : ji_mw mX3_beginsParagraph 1 := ⟨⟨List.mem_of_getElem? (i := 507) (by decide +kernel), by decide +kernel⟩, ⟨List.mem_of_getElem? (i := 134) (by decide +kernel), by decide +kernel⟩, by decide, by decide, by decide +kernel, by decide, rfl⟩
theorem vX3_beginsParagraph : ji_mv mX3_beginsParagraph := ⟨⟨List.mem_of_getElem? (i := 506) (by decide +kernel), by decide +kernel⟩, ⟨List.mem_of_getElem? (i := 11) (by decide +kernel), by decide +kernel⟩⟩
theorem wX3_linesOfParagraph : ji_mw mX3_linesOfParagraph 1 := ⟨⟨List.mem_of_getElem? (i := 712) (by decide +kernel), by decide +kernel⟩, ⟨List.mem_of_getElem? (i := 134) (by decide +kernel), by decide +kernel⟩, by decide, by decide, by decide +kernel, by decide, rfl⟩
theorem vX3_linesOfParagraph : ji_mv mX3_linesOfParagraph := ⟨⟨List.mem_of_getElem? (i := 710) (by decide +kernel), by decide +kernel⟩, ⟨List.mem_of_getElem? (i := 711) (by decide +kernel), by decide +kernel⟩⟩
theorem wX3_columnsOfLine : ji_mw mX3_columnsOfLine 1 := ⟨⟨List.mem_of_getElem? (i := 730) (by decide +kernel), by decide +kernel⟩, ⟨List.mem_of_getElem? (i := 134) (by decide +kernel), by decide +kernel⟩, by decide, by decide, by decide +kernel, by decide, rfl⟩
theorem vX3_columnsOfLine : ji_mv mX3_columnsOfLine := ⟨⟨List.mem_of_getElem? (i := 728) (by decide +kernel), by decide +kernel⟩, ⟨List.mem_of_getElem? (i := 729) (by decide +kernel), by decide +kernel⟩⟩
theorem wX3_rowsOfNotes : ji_mw mX3_rowsOfNotes 1 := ⟨⟨List.mem_of_getElem? (i := 539) (by decide +kernel), by decide +kernel⟩, ⟨List.mem_of_getElem? (i := 134) (by decide +kernel), by decide +kernel⟩, by decide, by decide, by decide +kernel, by decide, rfl⟩
theorem vX3_rowsOfNotes : ji_mv mX3_rowsOfNotes := ⟨⟨List.mem_of_getElem? (i := 538) (by decide +kernel), by decide +kernel⟩, ⟨List.mem_of_getElem? (i := 17) (by decide +kernel), by decide +kernel⟩⟩
theorem wX3_breakFrom : ji_mw mX3_breakFrom 1 := ⟨⟨List.mem_of_getElem? (i := 527) (by decide +kernel), by decide +kernel⟩, ⟨List.mem_of_getElem? (i := 134) (by decide +kernel), by decide +kernel⟩, by decide, by decide, by decide +kernel, by decide, rfl⟩
theorem vX3_breakFrom : ji_mv mX3_breakFrom := ⟨⟨List.mem_of_getElem? (i := 525) (by decide +kernel), by decide +kernel⟩, ⟨List.mem_of_getElem? (i := 526) (by decide +kernel), by decide +kernel⟩⟩
theorem wX3_keptBreak : ji_mw mX3_keptBreak 2 := ⟨⟨List.mem_of_getElem? (i := 543) (by decide +kernel), by decide +kernel⟩, ⟨List.mem_of_getElem? (i := 134) (by decide +kernel), by decide +kernel⟩, by decide, by decide, by decide +kernel, by decide, rfl⟩
theorem vX3_keptBreak : ji_mv mX3_keptBreak := ⟨⟨List.mem_of_getElem? (i := 542) (by decide +kernel), by decide +kernel⟩, ⟨List.mem_of_getElem? (i := 18) (by decide +kernel), by decide +kernel⟩⟩
theorem wX3_farthestBefore : ji_mw mX3_farthestBefore 1 := ⟨⟨List.mem_of_getElem? (i := 1090) (by decide +kernel), by decide +kernel⟩, ⟨List.mem_of_getElem? (i := 134) (by decide +kernel), by decide +kernel⟩, by decide, by decide, by decide +kernel, by decide, rfl⟩
theorem vX3_farthestBefore : ji_mv mX3_farthestBefore := ⟨⟨List.mem_of_getElem? (i := 1088) (by decide +kernel), by decide +kernel⟩, ⟨List.mem_of_getElem? (i := 1089) (by decide +kernel), by decide +kernel⟩⟩
theorem wX3_rowsBetween : ji_mw mX3_rowsBetween 2 := ⟨⟨List.mem_of_getElem? (i := 596) (by decide +kernel), by decide +kernel⟩, ⟨List.mem_of_getElem? (i := 134) (by decide +kernel), by decide +kernel⟩, by decide, by decide, by decide +kernel, by decide, rfl⟩
theorem vX3_rowsBetween : ji_mv mX3_rowsBetween := ⟨⟨List.mem_of_getElem? (i := 595) (by decide +kernel), by decide +kernel⟩, ⟨List.mem_of_getElem? (i := 21) (by decide +kernel), by decide +kernel⟩⟩
theorem wX3_rowOfLine : ji_mw mX3_rowOfLine 1 := ⟨⟨List.mem_of_getElem? (i := 740) (by decide +kernel), by decide +kernel⟩, ⟨List.mem_of_getElem? (i := 134) (by decide +kernel), by decide +kernel⟩, by decide, by decide, by decide +kernel, by decide, rfl⟩
theorem vX3_rowOfLine : ji_mv mX3_rowOfLine := ⟨⟨List.mem_of_getElem? (i := 738) (by decide +kernel), by decide +kernel⟩, ⟨List.mem_of_getElem? (i := 739) (by decide +kernel), by decide +kernel⟩⟩
theorem wX3_rowsOfPage : ji_mw mX3_rowsOfPage 1 := ⟨⟨List.mem_of_getElem? (i := 592) (by decide +kernel), by decide +kernel⟩, ⟨List.mem_of_getElem? (i := 134) (by decide +kernel), by decide +kernel⟩, by decide, by decide, by decide +kernel, by decide, rfl⟩
theorem vX3_rowsOfPage : ji_mv mX3_rowsOfPage := ⟨⟨List.mem_of_getElem? (i := 590) (by decide +kernel), by decide +kernel⟩, ⟨List.mem_of_getElem? (i := 591) (by decide +kernel), by decide +kernel⟩⟩
theorem wX3_notesOfPage : ji_mw mX3_notesOfPage 1 := ⟨⟨List.mem_of_getElem? (i := 604) (by decide +kernel), by decide +kernel⟩, ⟨List.mem_of_getElem? (i := 134) (by decide +kernel), by decide +kernel⟩, by decide, by decide, by decide +kernel, by decide, rfl⟩
theorem vX3_notesOfPage : ji_mv mX3_notesOfPage := ⟨⟨List.mem_of_getElem? (i := 602) (by decide +kernel), by decide +kernel⟩, ⟨List.mem_of_getElem? (i := 603) (by decide +kernel), by decide +kernel⟩⟩
theorem wX3_noteRowsOfPage : ji_mw mX3_noteRowsOfPage 1 := ⟨⟨List.mem_of_getElem? (i := 600) (by decide +kernel), by decide +kernel⟩, ⟨List.mem_of_getElem? (i := 134) (by decide +kernel), by decide +kernel⟩, by decide, by decide, by decide +kernel, by decide, rfl⟩
theorem vX3_noteRowsOfPage : ji_mv mX3_noteRowsOfPage := ⟨⟨List.mem_of_getElem? (i := 598) (by decide +kernel), by decide +kernel⟩, ⟨List.mem_of_getElem? (i := 599) (by decide +kernel), by decide +kernel⟩⟩
theorem wX3_noteOnPage : ji_mw mX3_noteOnPage 2 := ⟨⟨List.mem_of_getElem? (i := 1060) (by decide +kernel), by decide +kernel⟩, ⟨List.mem_of_getElem? (i := 134) (by decide +kernel), by decide +kernel⟩, by decide, by decide, by decide +kernel, by decide, rfl⟩
theorem vX3_noteOnPage : ji_mv mX3_noteOnPage := ⟨⟨List.mem_of_getElem? (i := 1058) (by decide +kernel), by decide +kernel⟩, ⟨List.mem_of_getElem? (i := 1059) (by decide +kernel), by decide +kernel⟩⟩
theorem wX3_placeOfPage : ji_mw mX3_placeOfPage 1 := ⟨⟨List.mem_of_getElem? (i := 576) (by decide +kernel), by decide +kernel⟩, ⟨List.mem_of_getElem? (i := 134) (by decide +kernel), by decide +kernel⟩, by decide, by decide, by decide +kernel, by decide, rfl⟩
theorem vX3_placeOfPage : ji_mv mX3_placeOfPage := ⟨⟨List.mem_of_getElem? (i := 574) (by decide +kernel), by decide +kernel⟩, ⟨List.mem_of_getElem? (i := 575) (by decide +kernel), by decide +kernel⟩⟩
theorem wX3_pageAt : ji_mw mX3_pageAt 1 := ⟨⟨List.mem_of_getElem? (i := 559) (by decide +kernel), by decide +kernel⟩, ⟨List.mem_of_getElem? (i := 134) (by decide +kernel), by decide +kernel⟩, by decide, by decide, by decide +kernel, by decide, rfl⟩
theorem vX3_pageAt : ji_mv mX3_pageAt := ⟨⟨List.mem_of_getElem? (i := 557) (by decide +kernel), by decide +kernel⟩, ⟨List.mem_of_getElem? (i := 558) (by decide +kernel), by decide +kernel⟩⟩
theorem wX3_signAt : ji_mw mX3_signAt 3 := ⟨⟨List.mem_of_getElem? (i := 1034) (by decide +kernel), by decide +kernel⟩, ⟨List.mem_of_getElem? (i := 134) (by decide +kernel), by decide +kernel⟩, by decide, by decide, by decide +kernel, by decide, rfl⟩
theorem vX3_signAt : ji_mv mX3_signAt := ⟨⟨List.mem_of_getElem? (i := 1032) (by decide +kernel), by decide +kernel⟩, ⟨List.mem_of_getElem? (i := 1033) (by decide +kernel), by decide +kernel⟩⟩
theorem wX3_signOfNotes : ji_mw mX3_signOfNotes 3 := ⟨⟨List.mem_of_getElem? (i := 1045) (by decide +kernel), by decide +kernel⟩, ⟨List.mem_of_getElem? (i := 134) (by decide +kernel), by decide +kernel⟩, by decide, by decide, by decide +kernel, by decide, rfl⟩
theorem vX3_signOfNotes : ji_mv mX3_signOfNotes := ⟨⟨List.mem_of_getElem? (i := 1044) (by decide +kernel), by decide +kernel⟩, ⟨List.mem_of_getElem? (i := 41) (by decide +kernel), by decide +kernel⟩⟩
theorem wX4_init : ji_mw mX4_init 0 := ⟨⟨List.mem_of_getElem? (i := 233) (by decide +kernel), by decide +kernel⟩, ⟨List.mem_of_getElem? (i := 132) (by decide +kernel), by decide +kernel⟩, by decide, by decide, by decide +kernel, by decide, rfl⟩
theorem iX4_init : ji_in (.instanceMethod yX4_init) := ⟨List.mem_of_getElem? (i := 232) (by decide +kernel), by decide +kernel⟩
theorem wX4_reset : ji_mw mX4_reset 0 := ⟨⟨List.mem_of_getElem? (i := 919) (by decide +kernel), by decide +kernel⟩, ⟨List.mem_of_getElem? (i := 132) (by decide +kernel), by decide +kernel⟩, by decide, by decide, by decide +kernel, by decide, rfl⟩
theorem vX4_reset : ji_mv mX4_reset := ⟨⟨List.mem_of_getElem? (i := 917) (by decide +kernel), by decide +kernel⟩, ⟨List.mem_of_getElem? (i := 918) (by decide +kernel), by decide +kernel⟩⟩
theorem wX4_copy : ji_mw mX4_copy 1 := ⟨⟨List.mem_of_getElem? (i := 1222) (by decide +kernel), by decide +kernel⟩, ⟨List.mem_of_getElem? (i := 132) (by decide +kernel), by decide +kernel⟩, by decide, by decide, by decide +kernel, by decide, rfl⟩
theorem vX4_copy : ji_mv mX4_copy := ⟨⟨List.mem_of_getElem? (i := 1220) (by decide +kernel), by decide +kernel⟩, ⟨List.mem_of_getElem? (i := 1221) (by decide +kernel), by decide +kernel⟩⟩
theorem wX4_reader : ji_mw mX4_reader 0 := ⟨⟨List.mem_of_getElem? (i := 555) (by decide +kernel), by decide +kernel⟩, ⟨List.mem_of_getElem? (i := 132) (by decide +kernel), by decide +kernel⟩, by decide, by decide, by decide +kernel, by decide, rfl⟩
theorem vX4_reader : ji_mv mX4_reader := ⟨⟨List.mem_of_getElem? (i := 553) (by decide +kernel), by decide +kernel⟩, ⟨List.mem_of_getElem? (i := 554) (by decide +kernel), by decide +kernel⟩⟩
theorem wX4_setReader : ji_mw mX4_setReader 1 := ⟨⟨List.mem_of_getElem? (i := 584) (by decide +kernel), by decide +kernel⟩, ⟨List.mem_of_getElem? (i := 132) (by decide +kernel), by decide +kernel⟩, by decide, by decide, by decide +kernel, by decide, rfl⟩
theorem vX4_setReader : ji_mv mX4_setReader := ⟨⟨List.mem_of_getElem? (i := 582) (by decide +kernel), by decide +kernel⟩, ⟨List.mem_of_getElem? (i := 583) (by decide +kernel), by decide +kernel⟩⟩
theorem wX4_jumps : ji_mw mX4_jumps 0 := ⟨⟨List.mem_of_getElem? (i := 671) (by decide +kernel), by decide +kernel⟩, ⟨List.mem_of_getElem? (i := 132) (by decide +kernel), by decide +kernel⟩, by decide, by decide, by decide +kernel, by decide, rfl⟩
theorem vX4_jumps : ji_mv mX4_jumps := ⟨⟨List.mem_of_getElem? (i := 669) (by decide +kernel), by decide +kernel⟩, ⟨List.mem_of_getElem? (i := 670) (by decide +kernel), by decide +kernel⟩⟩
theorem wX4_jumpTo : ji_mw mX4_jumpTo 1 := ⟨⟨List.mem_of_getElem? (i := 1101) (by decide +kernel), by decide +kernel⟩, ⟨List.mem_of_getElem? (i := 132) (by decide +kernel), by decide +kernel⟩, by decide, by decide, by decide +kernel, by decide, rfl⟩
theorem vX4_jumpTo : ji_mv mX4_jumpTo := ⟨⟨List.mem_of_getElem? (i := 1099) (by decide +kernel), by decide +kernel⟩, ⟨List.mem_of_getElem? (i := 1100) (by decide +kernel), by decide +kernel⟩⟩
theorem wX4_jumpBack : ji_mw mX4_jumpBack 0 := ⟨⟨List.mem_of_getElem? (i := 1116) (by decide +kernel), by decide +kernel⟩, ⟨List.mem_of_getElem? (i := 132) (by decide +kernel), by decide +kernel⟩, by decide, by decide, by decide +kernel, by decide, rfl⟩
theorem vX4_jumpBack : ji_mv mX4_jumpBack := ⟨⟨List.mem_of_getElem? (i := 1114) (by decide +kernel), by decide +kernel⟩, ⟨List.mem_of_getElem? (i := 1115) (by decide +kernel), by decide +kernel⟩⟩
theorem wX4_annotations : ji_mw mX4_annotations 0 := ⟨⟨List.mem_of_getElem? (i := 647) (by decide +kernel), by decide +kernel⟩, ⟨List.mem_of_getElem? (i := 132) (by decide +kernel), by decide +kernel⟩, by decide, by decide, by decide +kernel, by decide, rfl⟩
theorem vX4_annotations : ji_mv mX4_annotations := ⟨⟨List.mem_of_getElem? (i := 645) (by decide +kernel), by decide +kernel⟩, ⟨List.mem_of_getElem? (i := 646) (by decide +kernel), by decide +kernel⟩⟩
theorem wX4_addAnnotation : ji_mw mX4_addAnnotation 3 := ⟨⟨List.mem_of_getElem? (i := 1174) (by decide +kernel), by decide +kernel⟩, ⟨List.mem_of_getElem? (i := 132) (by decide +kernel), by decide +kernel⟩, by decide, by decide, by decide +kernel, by decide, rfl⟩
theorem vX4_addAnnotation : ji_mv mX4_addAnnotation := ⟨⟨List.mem_of_getElem? (i := 1172) (by decide +kernel), by decide +kernel⟩, ⟨List.mem_of_getElem? (i := 1173) (by decide +kernel), by decide +kernel⟩⟩
theorem wX4_dropAnnotation : ji_mw mX4_dropAnnotation 1 := ⟨⟨List.mem_of_getElem? (i := 1197) (by decide +kernel), by decide +kernel⟩, ⟨List.mem_of_getElem? (i := 132) (by decide +kernel), by decide +kernel⟩, by decide, by decide, by decide +kernel, by decide, rfl⟩
theorem vX4_dropAnnotation : ji_mv mX4_dropAnnotation := ⟨⟨List.mem_of_getElem? (i := 1195) (by decide +kernel), by decide +kernel⟩, ⟨List.mem_of_getElem? (i := 1196) (by decide +kernel), by decide +kernel⟩⟩
theorem wX4_exists : ji_mw mX4_exists 1 := ⟨⟨List.mem_of_getElem? (i := 663) (by decide +kernel), by decide +kernel⟩, ⟨List.mem_of_getElem? (i := 132) (by decide +kernel), by decide +kernel⟩, by decide, by decide, by decide +kernel, by decide, rfl⟩
theorem vX4_exists : ji_mv mX4_exists := ⟨⟨List.mem_of_getElem? (i := 662) (by decide +kernel), by decide +kernel⟩, ⟨List.mem_of_getElem? (i := 23) (by decide +kernel), by decide +kernel⟩⟩
theorem wX4_fromOf : ji_mw mX4_fromOf 1 := ⟨⟨List.mem_of_getElem? (i := 659) (by decide +kernel), by decide +kernel⟩, ⟨List.mem_of_getElem? (i := 132) (by decide +kernel), by decide +kernel⟩, by decide, by decide, by decide +kernel, by decide, rfl⟩
theorem vX4_fromOf : ji_mv mX4_fromOf := ⟨⟨List.mem_of_getElem? (i := 657) (by decide +kernel), by decide +kernel⟩, ⟨List.mem_of_getElem? (i := 658) (by decide +kernel), by decide +kernel⟩⟩
theorem wX4_toOf : ji_mw mX4_toOf 1 := ⟨⟨List.mem_of_getElem? (i := 667) (by decide +kernel), by decide +kernel⟩, ⟨List.mem_of_getElem? (i := 132) (by decide +kernel), by decide +kernel⟩, by decide, by decide, by decide +kernel, by decide, rfl⟩
theorem vX4_toOf : ji_mv mX4_toOf := ⟨⟨List.mem_of_getElem? (i := 665) (by decide +kernel), by decide +kernel⟩, ⟨List.mem_of_getElem? (i := 666) (by decide +kernel), by decide +kernel⟩⟩
theorem wX4_colorOf : ji_mw mX4_colorOf 1 := ⟨⟨List.mem_of_getElem? (i := 775) (by decide +kernel), by decide +kernel⟩, ⟨List.mem_of_getElem? (i := 132) (by decide +kernel), by decide +kernel⟩, by decide, by decide, by decide +kernel, by decide, rfl⟩
theorem vX4_colorOf : ji_mv mX4_colorOf := ⟨⟨List.mem_of_getElem? (i := 773) (by decide +kernel), by decide +kernel⟩, ⟨List.mem_of_getElem? (i := 774) (by decide +kernel), by decide +kernel⟩⟩
theorem wX4_isLost : ji_mw mX4_isLost 1 := ⟨⟨List.mem_of_getElem? (i := 655) (by decide +kernel), by decide +kernel⟩, ⟨List.mem_of_getElem? (i := 132) (by decide +kernel), by decide +kernel⟩, by decide, by decide, by decide +kernel, by decide, rfl⟩
theorem vX4_isLost : ji_mv mX4_isLost := ⟨⟨List.mem_of_getElem? (i := 653) (by decide +kernel), by decide +kernel⟩, ⟨List.mem_of_getElem? (i := 654) (by decide +kernel), by decide +kernel⟩⟩
theorem wX4_lostAnnotations : ji_mw mX4_lostAnnotations 0 := ⟨⟨List.mem_of_getElem? (i := 651) (by decide +kernel), by decide +kernel⟩, ⟨List.mem_of_getElem? (i := 132) (by decide +kernel), by decide +kernel⟩, by decide, by decide, by decide +kernel, by decide, rfl⟩
theorem vX4_lostAnnotations : ji_mv mX4_lostAnnotations := ⟨⟨List.mem_of_getElem? (i := 649) (by decide +kernel), by decide +kernel⟩, ⟨List.mem_of_getElem? (i := 650) (by decide +kernel), by decide +kernel⟩⟩
theorem wX4_annotationsBetween : ji_mw mX4_annotationsBetween 2 := ⟨⟨List.mem_of_getElem? (i := 760) (by decide +kernel), by decide +kernel⟩, ⟨List.mem_of_getElem? (i := 132) (by decide +kernel), by decide +kernel⟩, by decide, by decide, by decide +kernel, by decide, rfl⟩
theorem vX4_annotationsBetween : ji_mv mX4_annotationsBetween := ⟨⟨List.mem_of_getElem? (i := 758) (by decide +kernel), by decide +kernel⟩, ⟨List.mem_of_getElem? (i := 759) (by decide +kernel), by decide +kernel⟩⟩
theorem wX4_openGap : ji_mw mX4_openGap 2 := ⟨⟨List.mem_of_getElem? (i := 1256) (by decide +kernel), by decide +kernel⟩, ⟨List.mem_of_getElem? (i := 132) (by decide +kernel), by decide +kernel⟩, by decide, by decide, by decide +kernel, by decide, rfl⟩
theorem vX4_openGap : ji_mv mX4_openGap := ⟨⟨List.mem_of_getElem? (i := 1254) (by decide +kernel), by decide +kernel⟩, ⟨List.mem_of_getElem? (i := 1255) (by decide +kernel), by decide +kernel⟩⟩
theorem wX4_opened : ji_mw mX4_opened 3 := ⟨⟨List.mem_of_getElem? (i := 1259) (by decide +kernel), by decide +kernel⟩, ⟨List.mem_of_getElem? (i := 132) (by decide +kernel), by decide +kernel⟩, by decide, by decide, by decide +kernel, by decide, rfl⟩
theorem sX4_opened : ji_in (.static yX4_opened) := ⟨List.mem_of_getElem? (i := 1258) (by decide +kernel), by decide +kernel⟩
theorem wX4_closeGap : ji_mw mX4_closeGap 3 := ⟨⟨List.mem_of_getElem? (i := 1276) (by decide +kernel), by decide +kernel⟩, ⟨List.mem_of_getElem? (i := 132) (by decide +kernel), by decide +kernel⟩, by decide, by decide, by decide +kernel, by decide, rfl⟩
theorem vX4_closeGap : ji_mv mX4_closeGap := ⟨⟨List.mem_of_getElem? (i := 1274) (by decide +kernel), by decide +kernel⟩, ⟨List.mem_of_getElem? (i := 1275) (by decide +kernel), by decide +kernel⟩⟩
theorem wX4_closed : ji_mw mX4_closed 4 := ⟨⟨List.mem_of_getElem? (i := 1279) (by decide +kernel), by decide +kernel⟩, ⟨List.mem_of_getElem? (i := 132) (by decide +kernel), by decide +kernel⟩, by decide, by decide, by decide +kernel, by decide, rfl⟩
theorem sX4_closed : ji_in (.static yX4_closed) := ⟨List.mem_of_getElem? (i := 1278) (by decide +kernel), by decide +kernel⟩
theorem wX4_cutAt : ji_mw mX4_cutAt 1 := ⟨⟨List.mem_of_getElem? (i := 1292) (by decide +kernel), by decide +kernel⟩, ⟨List.mem_of_getElem? (i := 132) (by decide +kernel), by decide +kernel⟩, by decide, by decide, by decide +kernel, by decide, rfl⟩
theorem vX4_cutAt : ji_mv mX4_cutAt := ⟨⟨List.mem_of_getElem? (i := 1290) (by decide +kernel), by decide +kernel⟩, ⟨List.mem_of_getElem? (i := 1291) (by decide +kernel), by decide +kernel⟩⟩
theorem wX5_init : ji_mw mX5_init 0 := ⟨⟨List.mem_of_getElem? (i := 163) (by decide +kernel), by decide +kernel⟩, ⟨List.mem_of_getElem? (i := 129) (by decide +kernel), by decide +kernel⟩, by decide, by decide, by decide +kernel, by decide, rfl⟩
theorem iX5_init : ji_in (.instanceMethod yX5_init) := ⟨List.mem_of_getElem? (i := 162) (by decide +kernel), by decide +kernel⟩
theorem wX5_begin : ji_mw mX5_begin 1 := ⟨⟨List.mem_of_getElem? (i := 391) (by decide +kernel), by decide +kernel⟩, ⟨List.mem_of_getElem? (i := 129) (by decide +kernel), by decide +kernel⟩, by decide, by decide, by decide +kernel, by decide, rfl⟩
theorem vX5_begin : ji_mv mX5_begin := ⟨⟨List.mem_of_getElem? (i := 389) (by decide +kernel), by decide +kernel⟩, ⟨List.mem_of_getElem? (i := 390) (by decide +kernel), by decide +kernel⟩⟩
theorem wX5_beginParagraph : ji_mw mX5_beginParagraph 0 := ⟨⟨List.mem_of_getElem? (i := 395) (by decide +kernel), by decide +kernel⟩, ⟨List.mem_of_getElem? (i := 129) (by decide +kernel), by decide +kernel⟩, by decide, by decide, by decide +kernel, by decide, rfl⟩
theorem vX5_beginParagraph : ji_mv mX5_beginParagraph := ⟨⟨List.mem_of_getElem? (i := 394) (by decide +kernel), by decide +kernel⟩, ⟨List.mem_of_getElem? (i := 0) (by decide +kernel), by decide +kernel⟩⟩
theorem wX5_beginWord : ji_mw mX5_beginWord 0 := ⟨⟨List.mem_of_getElem? (i := 399) (by decide +kernel), by decide +kernel⟩, ⟨List.mem_of_getElem? (i := 129) (by decide +kernel), by decide +kernel⟩, by decide, by decide, by decide +kernel, by decide, rfl⟩
theorem vX5_beginWord : ji_mv mX5_beginWord := ⟨⟨List.mem_of_getElem? (i := 398) (by decide +kernel), by decide +kernel⟩, ⟨List.mem_of_getElem? (i := 1) (by decide +kernel), by decide +kernel⟩⟩
theorem wX5_takes : ji_mw mX5_takes 1 := ⟨⟨List.mem_of_getElem? (i := 407) (by decide +kernel), by decide +kernel⟩, ⟨List.mem_of_getElem? (i := 129) (by decide +kernel), by decide +kernel⟩, by decide, by decide, by decide +kernel, by decide, rfl⟩
theorem vX5_takes : ji_mv mX5_takes := ⟨⟨List.mem_of_getElem? (i := 405) (by decide +kernel), by decide +kernel⟩, ⟨List.mem_of_getElem? (i := 406) (by decide +kernel), by decide +kernel⟩⟩
theorem wX5_mayEnd : ji_mw mX5_mayEnd 0 := ⟨⟨List.mem_of_getElem? (i := 902) (by decide +kernel), by decide +kernel⟩, ⟨List.mem_of_getElem? (i := 129) (by decide +kernel), by decide +kernel⟩, by decide, by decide, by decide +kernel, by decide, rfl⟩
theorem vX5_mayEnd : ji_mv mX5_mayEnd := ⟨⟨List.mem_of_getElem? (i := 900) (by decide +kernel), by decide +kernel⟩, ⟨List.mem_of_getElem? (i := 901) (by decide +kernel), by decide +kernel⟩⟩
theorem wX5_isDigit : ji_mw mX5_isDigit 1 := ⟨⟨List.mem_of_getElem? (i := 410) (by decide +kernel), by decide +kernel⟩, ⟨List.mem_of_getElem? (i := 129) (by decide +kernel), by decide +kernel⟩, by decide, by decide, by decide +kernel, by decide, rfl⟩
theorem sX5_isDigit : ji_in (.static yX5_isDigit) := ⟨List.mem_of_getElem? (i := 409) (by decide +kernel), by decide +kernel⟩
theorem wX5_isSignOfWord : ji_mw mX5_isSignOfWord 1 := ⟨⟨List.mem_of_getElem? (i := 413) (by decide +kernel), by decide +kernel⟩, ⟨List.mem_of_getElem? (i := 129) (by decide +kernel), by decide +kernel⟩, by decide, by decide, by decide +kernel, by decide, rfl⟩
theorem sX5_isSignOfWord : ji_in (.static yX5_isSignOfWord) := ⟨List.mem_of_getElem? (i := 412) (by decide +kernel), by decide +kernel⟩
theorem wX6_init : ji_mw mX6_init 1 := ⟨⟨List.mem_of_getElem? (i := 205) (by decide +kernel), by decide +kernel⟩, ⟨List.mem_of_getElem? (i := 131) (by decide +kernel), by decide +kernel⟩, by decide, by decide, by decide +kernel, by decide, rfl⟩
theorem iX6_init : ji_in (.instanceMethod yX6_init) := ⟨List.mem_of_getElem? (i := 204) (by decide +kernel), by decide +kernel⟩
theorem wX6_size : ji_mw mX6_size 0 := ⟨⟨List.mem_of_getElem? (i := 441) (by decide +kernel), by decide +kernel⟩, ⟨List.mem_of_getElem? (i := 131) (by decide +kernel), by decide +kernel⟩, by decide, by decide, by decide +kernel, by decide, rfl⟩
theorem vX6_size : ji_mv mX6_size := ⟨⟨List.mem_of_getElem? (i := 439) (by decide +kernel), by decide +kernel⟩, ⟨List.mem_of_getElem? (i := 440) (by decide +kernel), by decide +kernel⟩⟩
theorem wX6_length : ji_mw mX6_length 0 := ⟨⟨List.mem_of_getElem? (i := 624) (by decide +kernel), by decide +kernel⟩, ⟨List.mem_of_getElem? (i := 131) (by decide +kernel), by decide +kernel⟩, by decide, by decide, by decide +kernel, by decide, rfl⟩
theorem vX6_length : ji_mv mX6_length := ⟨⟨List.mem_of_getElem? (i := 622) (by decide +kernel), by decide +kernel⟩, ⟨List.mem_of_getElem? (i := 623) (by decide +kernel), by decide +kernel⟩⟩
theorem wX6_startOf : ji_mw mX6_startOf 1 := ⟨⟨List.mem_of_getElem? (i := 449) (by decide +kernel), by decide +kernel⟩, ⟨List.mem_of_getElem? (i := 131) (by decide +kernel), by decide +kernel⟩, by decide, by decide, by decide +kernel, by decide, rfl⟩
theorem vX6_startOf : ji_mv mX6_startOf := ⟨⟨List.mem_of_getElem? (i := 447) (by decide +kernel), by decide +kernel⟩, ⟨List.mem_of_getElem? (i := 448) (by decide +kernel), by decide +kernel⟩⟩
theorem wX6_endOf : ji_mw mX6_endOf 1 := ⟨⟨List.mem_of_getElem? (i := 453) (by decide +kernel), by decide +kernel⟩, ⟨List.mem_of_getElem? (i := 131) (by decide +kernel), by decide +kernel⟩, by decide, by decide, by decide +kernel, by decide, rfl⟩
theorem vX6_endOf : ji_mv mX6_endOf := ⟨⟨List.mem_of_getElem? (i := 451) (by decide +kernel), by decide +kernel⟩, ⟨List.mem_of_getElem? (i := 452) (by decide +kernel), by decide +kernel⟩⟩
theorem wX6_signAt : ji_mw mX6_signAt 1 := ⟨⟨List.mem_of_getElem? (i := 498) (by decide +kernel), by decide +kernel⟩, ⟨List.mem_of_getElem? (i := 131) (by decide +kernel), by decide +kernel⟩, by decide, by decide, by decide +kernel, by decide, rfl⟩
theorem vX6_signAt : ji_mv mX6_signAt := ⟨⟨List.mem_of_getElem? (i := 496) (by decide +kernel), by decide +kernel⟩, ⟨List.mem_of_getElem? (i := 497) (by decide +kernel), by decide +kernel⟩⟩
theorem wX6_referenceOf : ji_mw mX6_referenceOf 1 := ⟨⟨List.mem_of_getElem? (i := 494) (by decide +kernel), by decide +kernel⟩, ⟨List.mem_of_getElem? (i := 131) (by decide +kernel), by decide +kernel⟩, by decide, by decide, by decide +kernel, by decide, rfl⟩
theorem vX6_referenceOf : ji_mv mX6_referenceOf := ⟨⟨List.mem_of_getElem? (i := 492) (by decide +kernel), by decide +kernel⟩, ⟨List.mem_of_getElem? (i := 493) (by decide +kernel), by decide +kernel⟩⟩
theorem wX6_lineEnd : ji_mw mX6_lineEnd 3 := ⟨⟨List.mem_of_getElem? (i := 445) (by decide +kernel), by decide +kernel⟩, ⟨List.mem_of_getElem? (i := 131) (by decide +kernel), by decide +kernel⟩, by decide, by decide, by decide +kernel, by decide, rfl⟩
theorem vX6_lineEnd : ji_mv mX6_lineEnd := ⟨⟨List.mem_of_getElem? (i := 443) (by decide +kernel), by decide +kernel⟩, ⟨List.mem_of_getElem? (i := 444) (by decide +kernel), by decide +kernel⟩⟩
theorem wX6_firstOfLine : ji_mw mX6_firstOfLine 2 := ⟨⟨List.mem_of_getElem? (i := 1049) (by decide +kernel), by decide +kernel⟩, ⟨List.mem_of_getElem? (i := 131) (by decide +kernel), by decide +kernel⟩, by decide, by decide, by decide +kernel, by decide, rfl⟩
theorem vX6_firstOfLine : ji_mv mX6_firstOfLine := ⟨⟨List.mem_of_getElem? (i := 1047) (by decide +kernel), by decide +kernel⟩, ⟨List.mem_of_getElem? (i := 1048) (by decide +kernel), by decide +kernel⟩⟩
theorem wX6_linesWithin : ji_mw mX6_linesWithin 1 := ⟨⟨List.mem_of_getElem? (i := 437) (by decide +kernel), by decide +kernel⟩, ⟨List.mem_of_getElem? (i := 131) (by decide +kernel), by decide +kernel⟩, by decide, by decide, by decide +kernel, by decide, rfl⟩
theorem vX6_linesWithin : ji_mv mX6_linesWithin := ⟨⟨List.mem_of_getElem? (i := 435) (by decide +kernel), by decide +kernel⟩, ⟨List.mem_of_getElem? (i := 436) (by decide +kernel), by decide +kernel⟩⟩
theorem wX6_signOfLine : ji_mw mX6_signOfLine 4 := ⟨⟨List.mem_of_getElem? (i := 1038) (by decide +kernel), by decide +kernel⟩, ⟨List.mem_of_getElem? (i := 131) (by decide +kernel), by decide +kernel⟩, by decide, by decide, by decide +kernel, by decide, rfl⟩
theorem vX6_signOfLine : ji_mv mX6_signOfLine := ⟨⟨List.mem_of_getElem? (i := 1036) (by decide +kernel), by decide +kernel⟩, ⟨List.mem_of_getElem? (i := 1037) (by decide +kernel), by decide +kernel⟩⟩
theorem wX6_spliced : ji_mw mX6_spliced 3 := ⟨⟨List.mem_of_getElem? (i := 1235) (by decide +kernel), by decide +kernel⟩, ⟨List.mem_of_getElem? (i := 131) (by decide +kernel), by decide +kernel⟩, by decide, by decide, by decide +kernel, by decide, rfl⟩
theorem vX6_spliced : ji_mv mX6_spliced := ⟨⟨List.mem_of_getElem? (i := 1233) (by decide +kernel), by decide +kernel⟩, ⟨List.mem_of_getElem? (i := 1234) (by decide +kernel), by decide +kernel⟩⟩
theorem wX7_init : ji_mw mX7_init 0 := ⟨⟨List.mem_of_getElem? (i := 149) (by decide +kernel), by decide +kernel⟩, ⟨List.mem_of_getElem? (i := 127) (by decide +kernel), by decide +kernel⟩, by decide, by decide, by decide +kernel, by decide, rfl⟩
theorem iX7_init : ji_in (.instanceMethod yX7_init) := ⟨List.mem_of_getElem? (i := 148) (by decide +kernel), by decide +kernel⟩
theorem wX7_append : ji_mw mX7_append 1 := ⟨⟨List.mem_of_getElem? (i := 794) (by decide +kernel), by decide +kernel⟩, ⟨List.mem_of_getElem? (i := 127) (by decide +kernel), by decide +kernel⟩, by decide, by decide, by decide +kernel, by decide, rfl⟩
theorem vX7_append : ji_mv mX7_append := ⟨⟨List.mem_of_getElem? (i := 792) (by decide +kernel), by decide +kernel⟩, ⟨List.mem_of_getElem? (i := 793) (by decide +kernel), by decide +kernel⟩⟩
theorem wX7_clearInput : ji_mw mX7_clearInput 0 := ⟨⟨List.mem_of_getElem? (i := 371) (by decide +kernel), by decide +kernel⟩, ⟨List.mem_of_getElem? (i := 127) (by decide +kernel), by decide +kernel⟩, by decide, by decide, by decide +kernel, by decide, rfl⟩
theorem vX7_clearInput : ji_mv mX7_clearInput := ⟨⟨List.mem_of_getElem? (i := 369) (by decide +kernel), by decide +kernel⟩, ⟨List.mem_of_getElem? (i := 370) (by decide +kernel), by decide +kernel⟩⟩
theorem wX7_firstError : ji_mw mX7_firstError 1 := ⟨⟨List.mem_of_getElem? (i := 383) (by decide +kernel), by decide +kernel⟩, ⟨List.mem_of_getElem? (i := 127) (by decide +kernel), by decide +kernel⟩, by decide, by decide, by decide +kernel, by decide, rfl⟩
theorem vX7_firstError : ji_mv mX7_firstError := ⟨⟨List.mem_of_getElem? (i := 381) (by decide +kernel), by decide +kernel⟩, ⟨List.mem_of_getElem? (i := 382) (by decide +kernel), by decide +kernel⟩⟩
theorem wX7_load : ji_mw mX7_load 0 := ⟨⟨List.mem_of_getElem? (i := 893) (by decide +kernel), by decide +kernel⟩, ⟨List.mem_of_getElem? (i := 127) (by decide +kernel), by decide +kernel⟩, by decide, by decide, by decide +kernel, by decide, rfl⟩
theorem vX7_load : ji_mv mX7_load := ⟨⟨List.mem_of_getElem? (i := 891) (by decide +kernel), by decide +kernel⟩, ⟨List.mem_of_getElem? (i := 892) (by decide +kernel), by decide +kernel⟩⟩
theorem wX7_setNote : ji_mw mX7_setNote 1 := ⟨⟨List.mem_of_getElem? (i := 931) (by decide +kernel), by decide +kernel⟩, ⟨List.mem_of_getElem? (i := 127) (by decide +kernel), by decide +kernel⟩, by decide, by decide, by decide +kernel, by decide, rfl⟩
theorem vX7_setNote : ji_mv mX7_setNote := ⟨⟨List.mem_of_getElem? (i := 929) (by decide +kernel), by decide +kernel⟩, ⟨List.mem_of_getElem? (i := 930) (by decide +kernel), by decide +kernel⟩⟩
theorem wX7_removeNote : ji_mw mX7_removeNote 1 := ⟨⟨List.mem_of_getElem? (i := 970) (by decide +kernel), by decide +kernel⟩, ⟨List.mem_of_getElem? (i := 127) (by decide +kernel), by decide +kernel⟩, by decide, by decide, by decide +kernel, by decide, rfl⟩
theorem vX7_removeNote : ji_mv mX7_removeNote := ⟨⟨List.mem_of_getElem? (i := 968) (by decide +kernel), by decide +kernel⟩, ⟨List.mem_of_getElem? (i := 969) (by decide +kernel), by decide +kernel⟩⟩
theorem wX7_setSize : ji_mw mX7_setSize 2 := ⟨⟨List.mem_of_getElem? (i := 978) (by decide +kernel), by decide +kernel⟩, ⟨List.mem_of_getElem? (i := 127) (by decide +kernel), by decide +kernel⟩, by decide, by decide, by decide +kernel, by decide, rfl⟩
theorem vX7_setSize : ji_mv mX7_setSize := ⟨⟨List.mem_of_getElem? (i := 976) (by decide +kernel), by decide +kernel⟩, ⟨List.mem_of_getElem? (i := 977) (by decide +kernel), by decide +kernel⟩⟩
theorem wX7_setStyle : ji_mw mX7_setStyle 2 := ⟨⟨List.mem_of_getElem? (i := 990) (by decide +kernel), by decide +kernel⟩, ⟨List.mem_of_getElem? (i := 127) (by decide +kernel), by decide +kernel⟩, by decide, by decide, by decide +kernel, by decide, rfl⟩
theorem vX7_setStyle : ji_mv mX7_setStyle := ⟨⟨List.mem_of_getElem? (i := 988) (by decide +kernel), by decide +kernel⟩, ⟨List.mem_of_getElem? (i := 989) (by decide +kernel), by decide +kernel⟩⟩
theorem wX7_page : ji_mw mX7_page 2 := ⟨⟨List.mem_of_getElem? (i := 1001) (by decide +kernel), by decide +kernel⟩, ⟨List.mem_of_getElem? (i := 127) (by decide +kernel), by decide +kernel⟩, by decide, by decide, by decide +kernel, by decide, rfl⟩
theorem vX7_page : ji_mv mX7_page := ⟨⟨List.mem_of_getElem? (i := 999) (by decide +kernel), by decide +kernel⟩, ⟨List.mem_of_getElem? (i := 1000) (by decide +kernel), by decide +kernel⟩⟩
theorem wX7_line : ji_mw mX7_line 2 := ⟨⟨List.mem_of_getElem? (i := 1017) (by decide +kernel), by decide +kernel⟩, ⟨List.mem_of_getElem? (i := 127) (by decide +kernel), by decide +kernel⟩, by decide, by decide, by decide +kernel, by decide, rfl⟩
theorem vX7_line : ji_mv mX7_line := ⟨⟨List.mem_of_getElem? (i := 1015) (by decide +kernel), by decide +kernel⟩, ⟨List.mem_of_getElem? (i := 1016) (by decide +kernel), by decide +kernel⟩⟩
theorem wX7_shown : ji_mw mX7_shown 3 := ⟨⟨List.mem_of_getElem? (i := 1029) (by decide +kernel), by decide +kernel⟩, ⟨List.mem_of_getElem? (i := 127) (by decide +kernel), by decide +kernel⟩, by decide, by decide, by decide +kernel, by decide, rfl⟩
theorem vX7_shown : ji_mv mX7_shown := ⟨⟨List.mem_of_getElem? (i := 1027) (by decide +kernel), by decide +kernel⟩, ⟨List.mem_of_getElem? (i := 1028) (by decide +kernel), by decide +kernel⟩⟩
theorem wX7_noteOn : ji_mw mX7_noteOn 2 := ⟨⟨List.mem_of_getElem? (i := 1056) (by decide +kernel), by decide +kernel⟩, ⟨List.mem_of_getElem? (i := 127) (by decide +kernel), by decide +kernel⟩, by decide, by decide, by decide +kernel, by decide, rfl⟩
theorem vX7_noteOn : ji_mv mX7_noteOn := ⟨⟨List.mem_of_getElem? (i := 1054) (by decide +kernel), by decide +kernel⟩, ⟨List.mem_of_getElem? (i := 1055) (by decide +kernel), by decide +kernel⟩⟩
theorem wX7_pageOf : ji_mw mX7_pageOf 2 := ⟨⟨List.mem_of_getElem? (i := 1068) (by decide +kernel), by decide +kernel⟩, ⟨List.mem_of_getElem? (i := 127) (by decide +kernel), by decide +kernel⟩, by decide, by decide, by decide +kernel, by decide, rfl⟩
theorem vX7_pageOf : ji_mv mX7_pageOf := ⟨⟨List.mem_of_getElem? (i := 1066) (by decide +kernel), by decide +kernel⟩, ⟨List.mem_of_getElem? (i := 1067) (by decide +kernel), by decide +kernel⟩⟩
theorem wX7_floating : ji_mw mX7_floating 2 := ⟨⟨List.mem_of_getElem? (i := 1085) (by decide +kernel), by decide +kernel⟩, ⟨List.mem_of_getElem? (i := 127) (by decide +kernel), by decide +kernel⟩, by decide, by decide, by decide +kernel, by decide, rfl⟩
theorem vX7_floating : ji_mv mX7_floating := ⟨⟨List.mem_of_getElem? (i := 1083) (by decide +kernel), by decide +kernel⟩, ⟨List.mem_of_getElem? (i := 1084) (by decide +kernel), by decide +kernel⟩⟩
theorem wX7_go : ji_mw mX7_go 2 := ⟨⟨List.mem_of_getElem? (i := 1097) (by decide +kernel), by decide +kernel⟩, ⟨List.mem_of_getElem? (i := 127) (by decide +kernel), by decide +kernel⟩, by decide, by decide, by decide +kernel, by decide, rfl⟩
theorem vX7_go : ji_mv mX7_go := ⟨⟨List.mem_of_getElem? (i := 1095) (by decide +kernel), by decide +kernel⟩, ⟨List.mem_of_getElem? (i := 1096) (by decide +kernel), by decide +kernel⟩⟩
theorem wX7_turn : ji_mw mX7_turn 1 := ⟨⟨List.mem_of_getElem? (i := 417) (by decide +kernel), by decide +kernel⟩, ⟨List.mem_of_getElem? (i := 127) (by decide +kernel), by decide +kernel⟩, by decide, by decide, by decide +kernel, by decide, rfl⟩
theorem vX7_turn : ji_mv mX7_turn := ⟨⟨List.mem_of_getElem? (i := 415) (by decide +kernel), by decide +kernel⟩, ⟨List.mem_of_getElem? (i := 416) (by decide +kernel), by decide +kernel⟩⟩
theorem wX7_back : ji_mw mX7_back 0 := ⟨⟨List.mem_of_getElem? (i := 1111) (by decide +kernel), by decide +kernel⟩, ⟨List.mem_of_getElem? (i := 127) (by decide +kernel), by decide +kernel⟩, by decide, by decide, by decide +kernel, by decide, rfl⟩
theorem vX7_back : ji_mv mX7_back := ⟨⟨List.mem_of_getElem? (i := 1109) (by decide +kernel), by decide +kernel⟩, ⟨List.mem_of_getElem? (i := 1110) (by decide +kernel), by decide +kernel⟩⟩
theorem wX7_find : ji_mw mX7_find 1 := ⟨⟨List.mem_of_getElem? (i := 1123) (by decide +kernel), by decide +kernel⟩, ⟨List.mem_of_getElem? (i := 127) (by decide +kernel), by decide +kernel⟩, by decide, by decide, by decide +kernel, by decide, rfl⟩
theorem vX7_find : ji_mv mX7_find := ⟨⟨List.mem_of_getElem? (i := 1121) (by decide +kernel), by decide +kernel⟩, ⟨List.mem_of_getElem? (i := 1122) (by decide +kernel), by decide +kernel⟩⟩
theorem wX7_count : ji_mw mX7_count 1 := ⟨⟨List.mem_of_getElem? (i := 1146) (by decide +kernel), by decide +kernel⟩, ⟨List.mem_of_getElem? (i := 127) (by decide +kernel), by decide +kernel⟩, by decide, by decide, by decide +kernel, by decide, rfl⟩
theorem vX7_count : ji_mv mX7_count := ⟨⟨List.mem_of_getElem? (i := 1144) (by decide +kernel), by decide +kernel⟩, ⟨List.mem_of_getElem? (i := 1145) (by decide +kernel), by decide +kernel⟩⟩
theorem wX7_paragraph : ji_mw mX7_paragraph 2 := ⟨⟨List.mem_of_getElem? (i := 1153) (by decide +kernel), by decide +kernel⟩, ⟨List.mem_of_getElem? (i := 127) (by decide +kernel), by decide +kernel⟩, by decide, by decide, by decide +kernel, by decide, rfl⟩
theorem vX7_paragraph : ji_mv mX7_paragraph := ⟨⟨List.mem_of_getElem? (i := 1151) (by decide +kernel), by decide +kernel⟩, ⟨List.mem_of_getElem? (i := 1152) (by decide +kernel), by decide +kernel⟩⟩
theorem wX7_letter : ji_mw mX7_letter 2 := ⟨⟨List.mem_of_getElem? (i := 1160) (by decide +kernel), by decide +kernel⟩, ⟨List.mem_of_getElem? (i := 127) (by decide +kernel), by decide +kernel⟩, by decide, by decide, by decide +kernel, by decide, rfl⟩
theorem vX7_letter : ji_mv mX7_letter := ⟨⟨List.mem_of_getElem? (i := 1158) (by decide +kernel), by decide +kernel⟩, ⟨List.mem_of_getElem? (i := 1159) (by decide +kernel), by decide +kernel⟩⟩
theorem wX7_annotate : ji_mw mX7_annotate 4 := ⟨⟨List.mem_of_getElem? (i := 1167) (by decide +kernel), by decide +kernel⟩, ⟨List.mem_of_getElem? (i := 127) (by decide +kernel), by decide +kernel⟩, by decide, by decide, by decide +kernel, by decide, rfl⟩
theorem vX7_annotate : ji_mv mX7_annotate := ⟨⟨List.mem_of_getElem? (i := 1165) (by decide +kernel), by decide +kernel⟩, ⟨List.mem_of_getElem? (i := 1166) (by decide +kernel), by decide +kernel⟩⟩
theorem wX7_annotation : ji_mw mX7_annotation 2 := ⟨⟨List.mem_of_getElem? (i := 1181) (by decide +kernel), by decide +kernel⟩, ⟨List.mem_of_getElem? (i := 127) (by decide +kernel), by decide +kernel⟩, by decide, by decide, by decide +kernel, by decide, rfl⟩
theorem vX7_annotation : ji_mv mX7_annotation := ⟨⟨List.mem_of_getElem? (i := 1179) (by decide +kernel), by decide +kernel⟩, ⟨List.mem_of_getElem? (i := 1180) (by decide +kernel), by decide +kernel⟩⟩
theorem wX7_removeAnnotation : ji_mw mX7_removeAnnotation 1 := ⟨⟨List.mem_of_getElem? (i := 1193) (by decide +kernel), by decide +kernel⟩, ⟨List.mem_of_getElem? (i := 127) (by decide +kernel), by decide +kernel⟩, by decide, by decide, by decide +kernel, by decide, rfl⟩
theorem vX7_removeAnnotation : ji_mv mX7_removeAnnotation := ⟨⟨List.mem_of_getElem? (i := 1191) (by decide +kernel), by decide +kernel⟩, ⟨List.mem_of_getElem? (i := 1192) (by decide +kernel), by decide +kernel⟩⟩
theorem wX7_insert : ji_mw mX7_insert 2 := ⟨⟨List.mem_of_getElem? (i := 1204) (by decide +kernel), by decide +kernel⟩, ⟨List.mem_of_getElem? (i := 127) (by decide +kernel), by decide +kernel⟩, by decide, by decide, by decide +kernel, by decide, rfl⟩
theorem vX7_insert : ji_mv mX7_insert := ⟨⟨List.mem_of_getElem? (i := 1202) (by decide +kernel), by decide +kernel⟩, ⟨List.mem_of_getElem? (i := 1203) (by decide +kernel), by decide +kernel⟩⟩
theorem wX7_delete : ji_mw mX7_delete 3 := ⟨⟨List.mem_of_getElem? (i := 1266) (by decide +kernel), by decide +kernel⟩, ⟨List.mem_of_getElem? (i := 127) (by decide +kernel), by decide +kernel⟩, by decide, by decide, by decide +kernel, by decide, rfl⟩
theorem vX7_delete : ji_mv mX7_delete := ⟨⟨List.mem_of_getElem? (i := 1264) (by decide +kernel), by decide +kernel⟩, ⟨List.mem_of_getElem? (i := 1265) (by decide +kernel), by decide +kernel⟩⟩
theorem wX7_split : ji_mw mX7_split 2 := ⟨⟨List.mem_of_getElem? (i := 1286) (by decide +kernel), by decide +kernel⟩, ⟨List.mem_of_getElem? (i := 127) (by decide +kernel), by decide +kernel⟩, by decide, by decide, by decide +kernel, by decide, rfl⟩
theorem vX7_split : ji_mv mX7_split := ⟨⟨List.mem_of_getElem? (i := 1284) (by decide +kernel), by decide +kernel⟩, ⟨List.mem_of_getElem? (i := 1285) (by decide +kernel), by decide +kernel⟩⟩
theorem wX7_join : ji_mw mX7_join 1 := ⟨⟨List.mem_of_getElem? (i := 1304) (by decide +kernel), by decide +kernel⟩, ⟨List.mem_of_getElem? (i := 127) (by decide +kernel), by decide +kernel⟩, by decide, by decide, by decide +kernel, by decide, rfl⟩
theorem vX7_join : ji_mv mX7_join := ⟨⟨List.mem_of_getElem? (i := 1302) (by decide +kernel), by decide +kernel⟩, ⟨List.mem_of_getElem? (i := 1303) (by decide +kernel), by decide +kernel⟩⟩
theorem wX7_undo : ji_mw mX7_undo 0 := ⟨⟨List.mem_of_getElem? (i := 1316) (by decide +kernel), by decide +kernel⟩, ⟨List.mem_of_getElem? (i := 127) (by decide +kernel), by decide +kernel⟩, by decide, by decide, by decide +kernel, by decide, rfl⟩
theorem vX7_undo : ji_mv mX7_undo := ⟨⟨List.mem_of_getElem? (i := 1314) (by decide +kernel), by decide +kernel⟩, ⟨List.mem_of_getElem? (i := 1315) (by decide +kernel), by decide +kernel⟩⟩
theorem wX7_ifSize : ji_mw mX7_ifSize 3 := ⟨⟨List.mem_of_getElem? (i := 1332) (by decide +kernel), by decide +kernel⟩, ⟨List.mem_of_getElem? (i := 127) (by decide +kernel), by decide +kernel⟩, by decide, by decide, by decide +kernel, by decide, rfl⟩
theorem vX7_ifSize : ji_mv mX7_ifSize := ⟨⟨List.mem_of_getElem? (i := 1330) (by decide +kernel), by decide +kernel⟩, ⟨List.mem_of_getElem? (i := 1331) (by decide +kernel), by decide +kernel⟩⟩
theorem wX7_fit : ji_mw mX7_fit 1 := ⟨⟨List.mem_of_getElem? (i := 1339) (by decide +kernel), by decide +kernel⟩, ⟨List.mem_of_getElem? (i := 127) (by decide +kernel), by decide +kernel⟩, by decide, by decide, by decide +kernel, by decide, rfl⟩
theorem vX7_fit : ji_mv mX7_fit := ⟨⟨List.mem_of_getElem? (i := 1337) (by decide +kernel), by decide +kernel⟩, ⟨List.mem_of_getElem? (i := 1338) (by decide +kernel), by decide +kernel⟩⟩
theorem wX7_fullness : ji_mw mX7_fullness 0 := ⟨⟨List.mem_of_getElem? (i := 588) (by decide +kernel), by decide +kernel⟩, ⟨List.mem_of_getElem? (i := 127) (by decide +kernel), by decide +kernel⟩, by decide, by decide, by decide +kernel, by decide, rfl⟩
theorem vX7_fullness : ji_mv mX7_fullness := ⟨⟨List.mem_of_getElem? (i := 586) (by decide +kernel), by decide +kernel⟩, ⟨List.mem_of_getElem? (i := 587) (by decide +kernel), by decide +kernel⟩⟩
theorem wX7_digest : ji_mw mX7_digest 0 := ⟨⟨List.mem_of_getElem? (i := 608) (by decide +kernel), by decide +kernel⟩, ⟨List.mem_of_getElem? (i := 127) (by decide +kernel), by decide +kernel⟩, by decide, by decide, by decide +kernel, by decide, rfl⟩
theorem vX7_digest : ji_mv mX7_digest := ⟨⟨List.mem_of_getElem? (i := 606) (by decide +kernel), by decide +kernel⟩, ⟨List.mem_of_getElem? (i := 607) (by decide +kernel), by decide +kernel⟩⟩
theorem wX7_mixed : ji_mw mX7_mixed 2 := ⟨⟨List.mem_of_getElem? (i := 686) (by decide +kernel), by decide +kernel⟩, ⟨List.mem_of_getElem? (i := 127) (by decide +kernel), by decide +kernel⟩, by decide, by decide, by decide +kernel, by decide, rfl⟩
theorem sX7_mixed : ji_in (.static yX7_mixed) := ⟨List.mem_of_getElem? (i := 685) (by decide +kernel), by decide +kernel⟩
theorem wX7_mixedParagraphs : ji_mw mX7_mixedParagraphs 1 := ⟨⟨List.mem_of_getElem? (i := 691) (by decide +kernel), by decide +kernel⟩, ⟨List.mem_of_getElem? (i := 127) (by decide +kernel), by decide +kernel⟩, by decide, by decide, by decide +kernel, by decide, rfl⟩
theorem vX7_mixedParagraphs : ji_mv mX7_mixedParagraphs := ⟨⟨List.mem_of_getElem? (i := 690) (by decide +kernel), by decide +kernel⟩, ⟨List.mem_of_getElem? (i := 25) (by decide +kernel), by decide +kernel⟩⟩
theorem wX7_mixedLines : ji_mw mX7_mixedLines 1 := ⟨⟨List.mem_of_getElem? (i := 719) (by decide +kernel), by decide +kernel⟩, ⟨List.mem_of_getElem? (i := 127) (by decide +kernel), by decide +kernel⟩, by decide, by decide, by decide +kernel, by decide, rfl⟩
theorem vX7_mixedLines : ji_mv mX7_mixedLines := ⟨⟨List.mem_of_getElem? (i := 718) (by decide +kernel), by decide +kernel⟩, ⟨List.mem_of_getElem? (i := 27) (by decide +kernel), by decide +kernel⟩⟩
theorem wX7_mixedPages : ji_mw mX7_mixedPages 1 := ⟨⟨List.mem_of_getElem? (i := 744) (by decide +kernel), by decide +kernel⟩, ⟨List.mem_of_getElem? (i := 127) (by decide +kernel), by decide +kernel⟩, by decide, by decide, by decide +kernel, by decide, rfl⟩
theorem vX7_mixedPages : ji_mv mX7_mixedPages := ⟨⟨List.mem_of_getElem? (i := 743) (by decide +kernel), by decide +kernel⟩, ⟨List.mem_of_getElem? (i := 30) (by decide +kernel), by decide +kernel⟩⟩
theorem wX7_mixedAnnotations : ji_mw mX7_mixedAnnotations 1 := ⟨⟨List.mem_of_getElem? (i := 764) (by decide +kernel), by decide +kernel⟩, ⟨List.mem_of_getElem? (i := 127) (by decide +kernel), by decide +kernel⟩, by decide, by decide, by decide +kernel, by decide, rfl⟩
theorem vX7_mixedAnnotations : ji_mv mX7_mixedAnnotations := ⟨⟨List.mem_of_getElem? (i := 763) (by decide +kernel), by decide +kernel⟩, ⟨List.mem_of_getElem? (i := 32) (by decide +kernel), by decide +kernel⟩⟩
theorem wX7_mixedInput : ji_mw mX7_mixedInput 1 := ⟨⟨List.mem_of_getElem? (i := 784) (by decide +kernel), by decide +kernel⟩, ⟨List.mem_of_getElem? (i := 127) (by decide +kernel), by decide +kernel⟩, by decide, by decide, by decide +kernel, by decide, rfl⟩
theorem vX7_mixedInput : ji_mv mX7_mixedInput := ⟨⟨List.mem_of_getElem? (i := 783) (by decide +kernel), by decide +kernel⟩, ⟨List.mem_of_getElem? (i := 35) (by decide +kernel), by decide +kernel⟩⟩
theorem wX7_countOf : ji_mw mX7_countOf 1 := ⟨⟨List.mem_of_getElem? (i := 613) (by decide +kernel), by decide +kernel⟩, ⟨List.mem_of_getElem? (i := 127) (by decide +kernel), by decide +kernel⟩, by decide, by decide, by decide +kernel, by decide, rfl⟩
theorem vX7_countOf : ji_mv mX7_countOf := ⟨⟨List.mem_of_getElem? (i := 612) (by decide +kernel), by decide +kernel⟩, ⟨List.mem_of_getElem? (i := 22) (by decide +kernel), by decide +kernel⟩⟩
theorem wX7_thousandthsRead : ji_mw mX7_thousandthsRead 0 := ⟨⟨List.mem_of_getElem? (i := 679) (by decide +kernel), by decide +kernel⟩, ⟨List.mem_of_getElem? (i := 127) (by decide +kernel), by decide +kernel⟩, by decide, by decide, by decide +kernel, by decide, rfl⟩
theorem vX7_thousandthsRead : ji_mv mX7_thousandthsRead := ⟨⟨List.mem_of_getElem? (i := 678) (by decide +kernel), by decide +kernel⟩, ⟨List.mem_of_getElem? (i := 24) (by decide +kernel), by decide +kernel⟩⟩
theorem wX7_paragraphProperty : ji_mw mX7_paragraphProperty 2 := ⟨⟨List.mem_of_getElem? (i := 695) (by decide +kernel), by decide +kernel⟩, ⟨List.mem_of_getElem? (i := 127) (by decide +kernel), by decide +kernel⟩, by decide, by decide, by decide +kernel, by decide, rfl⟩
theorem vX7_paragraphProperty : ji_mv mX7_paragraphProperty := ⟨⟨List.mem_of_getElem? (i := 694) (by decide +kernel), by decide +kernel⟩, ⟨List.mem_of_getElem? (i := 26) (by decide +kernel), by decide +kernel⟩⟩
theorem wX7_lineProperty : ji_mw mX7_lineProperty 2 := ⟨⟨List.mem_of_getElem? (i := 723) (by decide +kernel), by decide +kernel⟩, ⟨List.mem_of_getElem? (i := 127) (by decide +kernel), by decide +kernel⟩, by decide, by decide, by decide +kernel, by decide, rfl⟩
theorem vX7_lineProperty : ji_mv mX7_lineProperty := ⟨⟨List.mem_of_getElem? (i := 722) (by decide +kernel), by decide +kernel⟩, ⟨List.mem_of_getElem? (i := 28) (by decide +kernel), by decide +kernel⟩⟩
theorem wX7_pageProperty : ji_mw mX7_pageProperty 2 := ⟨⟨List.mem_of_getElem? (i := 748) (by decide +kernel), by decide +kernel⟩, ⟨List.mem_of_getElem? (i := 127) (by decide +kernel), by decide +kernel⟩, by decide, by decide, by decide +kernel, by decide, rfl⟩
theorem vX7_pageProperty : ji_mv mX7_pageProperty := ⟨⟨List.mem_of_getElem? (i := 747) (by decide +kernel), by decide +kernel⟩, ⟨List.mem_of_getElem? (i := 31) (by decide +kernel), by decide +kernel⟩⟩
theorem wX7_annotationProperty : ji_mw mX7_annotationProperty 2 := ⟨⟨List.mem_of_getElem? (i := 768) (by decide +kernel), by decide +kernel⟩, ⟨List.mem_of_getElem? (i := 127) (by decide +kernel), by decide +kernel⟩, by decide, by decide, by decide +kernel, by decide, rfl⟩
theorem vX7_annotationProperty : ji_mv mX7_annotationProperty := ⟨⟨List.mem_of_getElem? (i := 767) (by decide +kernel), by decide +kernel⟩, ⟨List.mem_of_getElem? (i := 33) (by decide +kernel), by decide +kernel⟩⟩
theorem wX7_presentPage : ji_mw mX7_presentPage 0 := ⟨⟨List.mem_of_getElem? (i := 551) (by decide +kernel), by decide +kernel⟩, ⟨List.mem_of_getElem? (i := 127) (by decide +kernel), by decide +kernel⟩, by decide, by decide, by decide +kernel, by decide, rfl⟩
theorem vX7_presentPage : ji_mv mX7_presentPage := ⟨⟨List.mem_of_getElem? (i := 550) (by decide +kernel), by decide +kernel⟩, ⟨List.mem_of_getElem? (i := 20) (by decide +kernel), by decide +kernel⟩⟩
theorem wX7_wordsOfNote : ji_mw mX7_wordsOfNote 1 := ⟨⟨List.mem_of_getElem? (i := 780) (by decide +kernel), by decide +kernel⟩, ⟨List.mem_of_getElem? (i := 127) (by decide +kernel), by decide +kernel⟩, by decide, by decide, by decide +kernel, by decide, rfl⟩
theorem vX7_wordsOfNote : ji_mv mX7_wordsOfNote := ⟨⟨List.mem_of_getElem? (i := 779) (by decide +kernel), by decide +kernel⟩, ⟨List.mem_of_getElem? (i := 34) (by decide +kernel), by decide +kernel⟩⟩
theorem wX7_wordBehindReader : ji_mw mX7_wordBehindReader 0 := ⟨⟨List.mem_of_getElem? (i := 1127) (by decide +kernel), by decide +kernel⟩, ⟨List.mem_of_getElem? (i := 127) (by decide +kernel), by decide +kernel⟩, by decide, by decide, by decide +kernel, by decide, rfl⟩
theorem vX7_wordBehindReader : ji_mv mX7_wordBehindReader := ⟨⟨List.mem_of_getElem? (i := 1126) (by decide +kernel), by decide +kernel⟩, ⟨List.mem_of_getElem? (i := 44) (by decide +kernel), by decide +kernel⟩⟩
theorem wX7_wordBeforeReader : ji_mw mX7_wordBeforeReader 0 := ⟨⟨List.mem_of_getElem? (i := 1139) (by decide +kernel), by decide +kernel⟩, ⟨List.mem_of_getElem? (i := 127) (by decide +kernel), by decide +kernel⟩, by decide, by decide, by decide +kernel, by decide, rfl⟩
theorem vX7_wordBeforeReader : ji_mv mX7_wordBeforeReader := ⟨⟨List.mem_of_getElem? (i := 1138) (by decide +kernel), by decide +kernel⟩, ⟨List.mem_of_getElem? (i := 45) (by decide +kernel), by decide +kernel⟩⟩
theorem wX7_refresh : ji_mw mX7_refresh 0 := ⟨⟨List.mem_of_getElem? (i := 421) (by decide +kernel), by decide +kernel⟩, ⟨List.mem_of_getElem? (i := 127) (by decide +kernel), by decide +kernel⟩, by decide, by decide, by decide +kernel, by decide, rfl⟩
theorem vX7_refresh : ji_mv mX7_refresh := ⟨⟨List.mem_of_getElem? (i := 420) (by decide +kernel), by decide +kernel⟩, ⟨List.mem_of_getElem? (i := 2) (by decide +kernel), by decide +kernel⟩⟩
theorem wX7_checkNote : ji_mw mX7_checkNote 1 := ⟨⟨List.mem_of_getElem? (i := 934) (by decide +kernel), by decide +kernel⟩, ⟨List.mem_of_getElem? (i := 127) (by decide +kernel), by decide +kernel⟩, by decide, by decide, by decide +kernel, by decide, rfl⟩
theorem sX7_checkNote : ji_in (.static yX7_checkNote) := ⟨List.mem_of_getElem? (i := 933) (by decide +kernel), by decide +kernel⟩
theorem wX7_checkSize : ji_mw mX7_checkSize 2 := ⟨⟨List.mem_of_getElem? (i := 981) (by decide +kernel), by decide +kernel⟩, ⟨List.mem_of_getElem? (i := 127) (by decide +kernel), by decide +kernel⟩, by decide, by decide, by decide +kernel, by decide, rfl⟩
theorem sX7_checkSize : ji_in (.static yX7_checkSize) := ⟨List.mem_of_getElem? (i := 980) (by decide +kernel), by decide +kernel⟩
theorem wX7_checkWhat : ji_mw mX7_checkWhat 2 := ⟨⟨List.mem_of_getElem? (i := 1009) (by decide +kernel), by decide +kernel⟩, ⟨List.mem_of_getElem? (i := 127) (by decide +kernel), by decide +kernel⟩, by decide, by decide, by decide +kernel, by decide, rfl⟩
theorem sX7_checkWhat : ji_in (.static yX7_checkWhat) := ⟨List.mem_of_getElem? (i := 1008) (by decide +kernel), by decide +kernel⟩
theorem wX7_checkWordList : ji_mw mX7_checkWordList 0 := ⟨⟨List.mem_of_getElem? (i := 954) (by decide +kernel), by decide +kernel⟩, ⟨List.mem_of_getElem? (i := 127) (by decide +kernel), by decide +kernel⟩, by decide, by decide, by decide +kernel, by decide, rfl⟩
theorem vX7_checkWordList : ji_mv mX7_checkWordList := ⟨⟨List.mem_of_getElem? (i := 953) (by decide +kernel), by decide +kernel⟩, ⟨List.mem_of_getElem? (i := 38) (by decide +kernel), by decide +kernel⟩⟩
theorem wX7_checkPage : ji_mw mX7_checkPage 1 := ⟨⟨List.mem_of_getElem? (i := 1005) (by decide +kernel), by decide +kernel⟩, ⟨List.mem_of_getElem? (i := 127) (by decide +kernel), by decide +kernel⟩, by decide, by decide, by decide +kernel, by decide, rfl⟩
theorem vX7_checkPage : ji_mv mX7_checkPage := ⟨⟨List.mem_of_getElem? (i := 1004) (by decide +kernel), by decide +kernel⟩, ⟨List.mem_of_getElem? (i := 39) (by decide +kernel), by decide +kernel⟩⟩
theorem wX7_checkLine : ji_mw mX7_checkLine 1 := ⟨⟨List.mem_of_getElem? (i := 1021) (by decide +kernel), by decide +kernel⟩, ⟨List.mem_of_getElem? (i := 127) (by decide +kernel), by decide +kernel⟩, by decide, by decide, by decide +kernel, by decide, rfl⟩
theorem vX7_checkLine : ji_mv mX7_checkLine := ⟨⟨List.mem_of_getElem? (i := 1020) (by decide +kernel), by decide +kernel⟩, ⟨List.mem_of_getElem? (i := 40) (by decide +kernel), by decide +kernel⟩⟩
theorem wX7_checkParagraph : ji_mw mX7_checkParagraph 1 := ⟨⟨List.mem_of_getElem? (i := 1076) (by decide +kernel), by decide +kernel⟩, ⟨List.mem_of_getElem? (i := 127) (by decide +kernel), by decide +kernel⟩, by decide, by decide, by decide +kernel, by decide, rfl⟩
theorem vX7_checkParagraph : ji_mv mX7_checkParagraph := ⟨⟨List.mem_of_getElem? (i := 1075) (by decide +kernel), by decide +kernel⟩, ⟨List.mem_of_getElem? (i := 43) (by decide +kernel), by decide +kernel⟩⟩
theorem wX7_checkOffset : ji_mw mX7_checkOffset 2 := ⟨⟨List.mem_of_getElem? (i := 1072) (by decide +kernel), by decide +kernel⟩, ⟨List.mem_of_getElem? (i := 127) (by decide +kernel), by decide +kernel⟩, by decide, by decide, by decide +kernel, by decide, rfl⟩
theorem vX7_checkOffset : ji_mv mX7_checkOffset := ⟨⟨List.mem_of_getElem? (i := 1071) (by decide +kernel), by decide +kernel⟩, ⟨List.mem_of_getElem? (i := 42) (by decide +kernel), by decide +kernel⟩⟩
theorem wX7_checkAnnotation : ji_mw mX7_checkAnnotation 1 := ⟨⟨List.mem_of_getElem? (i := 1185) (by decide +kernel), by decide +kernel⟩, ⟨List.mem_of_getElem? (i := 127) (by decide +kernel), by decide +kernel⟩, by decide, by decide, by decide +kernel, by decide, rfl⟩
theorem vX7_checkAnnotation : ji_mv mX7_checkAnnotation := ⟨⟨List.mem_of_getElem? (i := 1184) (by decide +kernel), by decide +kernel⟩, ⟨List.mem_of_getElem? (i := 46) (by decide +kernel), by decide +kernel⟩⟩
theorem wX8_init : ji_mw mX8_init 0 := ⟨⟨List.mem_of_getElem? (i := 1345) (by decide +kernel), by decide +kernel⟩, ⟨List.mem_of_getElem? (i := 135) (by decide +kernel), by decide +kernel⟩, by decide, by decide, by decide +kernel, by decide, rfl⟩
theorem iX8_init : ji_in (.instanceMethod yX8_init) := ⟨List.mem_of_getElem? (i := 1344) (by decide +kernel), by decide +kernel⟩
theorem wX8_thrown : ji_mw mX8_thrown 0 := ⟨⟨List.mem_of_getElem? (i := 1426) (by decide +kernel), by decide +kernel⟩, ⟨List.mem_of_getElem? (i := 135) (by decide +kernel), by decide +kernel⟩, by decide, by decide, by decide +kernel, by decide, rfl⟩
theorem vX8_thrown : ji_mv mX8_thrown := ⟨⟨List.mem_of_getElem? (i := 1424) (by decide +kernel), by decide +kernel⟩, ⟨List.mem_of_getElem? (i := 1425) (by decide +kernel), by decide +kernel⟩⟩
theorem wX8_within : ji_mw mX8_within 3 := ⟨⟨List.mem_of_getElem? (i := 1433) (by decide +kernel), by decide +kernel⟩, ⟨List.mem_of_getElem? (i := 135) (by decide +kernel), by decide +kernel⟩, by decide, by decide, by decide +kernel, by decide, rfl⟩
theorem sX8_within : ji_in (.static yX8_within) := ⟨List.mem_of_getElem? (i := 1432) (by decide +kernel), by decide +kernel⟩
theorem wX8_append : ji_mw mX8_append 1 := ⟨⟨List.mem_of_getElem? (i := 1430) (by decide +kernel), by decide +kernel⟩, ⟨List.mem_of_getElem? (i := 135) (by decide +kernel), by decide +kernel⟩, by decide, by decide, by decide +kernel, by decide, rfl⟩
theorem vX8_append : ji_mv mX8_append := ⟨⟨List.mem_of_getElem? (i := 1428) (by decide +kernel), by decide +kernel⟩, ⟨List.mem_of_getElem? (i := 1429) (by decide +kernel), by decide +kernel⟩⟩
theorem wX8_clearInput : ji_mw mX8_clearInput 0 := ⟨⟨List.mem_of_getElem? (i := 1437) (by decide +kernel), by decide +kernel⟩, ⟨List.mem_of_getElem? (i := 135) (by decide +kernel), by decide +kernel⟩, by decide, by decide, by decide +kernel, by decide, rfl⟩
theorem vX8_clearInput : ji_mv mX8_clearInput := ⟨⟨List.mem_of_getElem? (i := 1435) (by decide +kernel), by decide +kernel⟩, ⟨List.mem_of_getElem? (i := 1436) (by decide +kernel), by decide +kernel⟩⟩
theorem wX8_isSign : ji_mw mX8_isSign 1 := ⟨⟨List.mem_of_getElem? (i := 1464) (by decide +kernel), by decide +kernel⟩, ⟨List.mem_of_getElem? (i := 135) (by decide +kernel), by decide +kernel⟩, by decide, by decide, by decide +kernel, by decide, rfl⟩
theorem sX8_isSign : ji_in (.static yX8_isSign) := ⟨List.mem_of_getElem? (i := 1463) (by decide +kernel), by decide +kernel⟩
theorem wX8_isWordOver : ji_mw mX8_isWordOver 0 := ⟨⟨List.mem_of_getElem? (i := 1453) (by decide +kernel), by decide +kernel⟩, ⟨List.mem_of_getElem? (i := 135) (by decide +kernel), by decide +kernel⟩, by decide, by decide, by decide +kernel, by decide, rfl⟩
theorem vX8_isWordOver : ji_mv mX8_isWordOver := ⟨⟨List.mem_of_getElem? (i := 1452) (by decide +kernel), by decide +kernel⟩, ⟨List.mem_of_getElem? (i := 51) (by decide +kernel), by decide +kernel⟩⟩
theorem wX8_fresh : ji_mw mX8_fresh 1 := ⟨⟨List.mem_of_getElem? (i := 1457) (by decide +kernel), by decide +kernel⟩, ⟨List.mem_of_getElem? (i := 135) (by decide +kernel), by decide +kernel⟩, by decide, by decide, by decide +kernel, by decide, rfl⟩
theorem vX8_fresh : ji_mv mX8_fresh := ⟨⟨List.mem_of_getElem? (i := 1456) (by decide +kernel), by decide +kernel⟩, ⟨List.mem_of_getElem? (i := 52) (by decide +kernel), by decide +kernel⟩⟩
theorem wX8_takesPlain : ji_mw mX8_takesPlain 1 := ⟨⟨List.mem_of_getElem? (i := 1461) (by decide +kernel), by decide +kernel⟩, ⟨List.mem_of_getElem? (i := 135) (by decide +kernel), by decide +kernel⟩, by decide, by decide, by decide +kernel, by decide, rfl⟩
theorem vX8_takesPlain : ji_mv mX8_takesPlain := ⟨⟨List.mem_of_getElem? (i := 1460) (by decide +kernel), by decide +kernel⟩, ⟨List.mem_of_getElem? (i := 53) (by decide +kernel), by decide +kernel⟩⟩
theorem wX8_takes : ji_mw mX8_takes 2 := ⟨⟨List.mem_of_getElem? (i := 1449) (by decide +kernel), by decide +kernel⟩, ⟨List.mem_of_getElem? (i := 135) (by decide +kernel), by decide +kernel⟩, by decide, by decide, by decide +kernel, by decide, rfl⟩
theorem vX8_takes : ji_mv mX8_takes := ⟨⟨List.mem_of_getElem? (i := 1448) (by decide +kernel), by decide +kernel⟩, ⟨List.mem_of_getElem? (i := 50) (by decide +kernel), by decide +kernel⟩⟩
theorem wX8_rightLength : ji_mw mX8_rightLength 1 := ⟨⟨List.mem_of_getElem? (i := 1445) (by decide +kernel), by decide +kernel⟩, ⟨List.mem_of_getElem? (i := 135) (by decide +kernel), by decide +kernel⟩, by decide, by decide, by decide +kernel, by decide, rfl⟩
theorem vX8_rightLength : ji_mv mX8_rightLength := ⟨⟨List.mem_of_getElem? (i := 1444) (by decide +kernel), by decide +kernel⟩, ⟨List.mem_of_getElem? (i := 49) (by decide +kernel), by decide +kernel⟩⟩
theorem wX8_isText : ji_mw mX8_isText 1 := ⟨⟨List.mem_of_getElem? (i := 1472) (by decide +kernel), by decide +kernel⟩, ⟨List.mem_of_getElem? (i := 135) (by decide +kernel), by decide +kernel⟩, by decide, by decide, by decide +kernel, by decide, rfl⟩
theorem vX8_isText : ji_mv mX8_isText := ⟨⟨List.mem_of_getElem? (i := 1471) (by decide +kernel), by decide +kernel⟩, ⟨List.mem_of_getElem? (i := 54) (by decide +kernel), by decide +kernel⟩⟩
theorem wX8_firstError : ji_mw mX8_firstError 1 := ⟨⟨List.mem_of_getElem? (i := 1441) (by decide +kernel), by decide +kernel⟩, ⟨List.mem_of_getElem? (i := 135) (by decide +kernel), by decide +kernel⟩, by decide, by decide, by decide +kernel, by decide, rfl⟩
theorem vX8_firstError : ji_mv mX8_firstError := ⟨⟨List.mem_of_getElem? (i := 1439) (by decide +kernel), by decide +kernel⟩, ⟨List.mem_of_getElem? (i := 1440) (by decide +kernel), by decide +kernel⟩⟩
theorem wX8_layBook : ji_mw mX8_layBook 0 := ⟨⟨List.mem_of_getElem? (i := 1476) (by decide +kernel), by decide +kernel⟩, ⟨List.mem_of_getElem? (i := 135) (by decide +kernel), by decide +kernel⟩, by decide, by decide, by decide +kernel, by decide, rfl⟩
theorem vX8_layBook : ji_mv mX8_layBook := ⟨⟨List.mem_of_getElem? (i := 1475) (by decide +kernel), by decide +kernel⟩, ⟨List.mem_of_getElem? (i := 55) (by decide +kernel), by decide +kernel⟩⟩
theorem wX8_load : ji_mw mX8_load 0 := ⟨⟨List.mem_of_getElem? (i := 1468) (by decide +kernel), by decide +kernel⟩, ⟨List.mem_of_getElem? (i := 135) (by decide +kernel), by decide +kernel⟩, by decide, by decide, by decide +kernel, by decide, rfl⟩
theorem vX8_load : ji_mv mX8_load := ⟨⟨List.mem_of_getElem? (i := 1466) (by decide +kernel), by decide +kernel⟩, ⟨List.mem_of_getElem? (i := 1467) (by decide +kernel), by decide +kernel⟩⟩
theorem wX8_noteWords : ji_mw mX8_noteWords 1 := ⟨⟨List.mem_of_getElem? (i := 1484) (by decide +kernel), by decide +kernel⟩, ⟨List.mem_of_getElem? (i := 135) (by decide +kernel), by decide +kernel⟩, by decide, by decide, by decide +kernel, by decide, rfl⟩
theorem vX8_noteWords : ji_mv mX8_noteWords := ⟨⟨List.mem_of_getElem? (i := 1483) (by decide +kernel), by decide +kernel⟩, ⟨List.mem_of_getElem? (i := 56) (by decide +kernel), by decide +kernel⟩⟩
theorem wX8_setNote : ji_mw mX8_setNote 1 := ⟨⟨List.mem_of_getElem? (i := 1480) (by decide +kernel), by decide +kernel⟩, ⟨List.mem_of_getElem? (i := 135) (by decide +kernel), by decide +kernel⟩, by decide, by decide, by decide +kernel, by decide, rfl⟩
theorem vX8_setNote : ji_mv mX8_setNote := ⟨⟨List.mem_of_getElem? (i := 1478) (by decide +kernel), by decide +kernel⟩, ⟨List.mem_of_getElem? (i := 1479) (by decide +kernel), by decide +kernel⟩⟩
theorem wX8_removeNote : ji_mw mX8_removeNote 1 := ⟨⟨List.mem_of_getElem? (i := 1488) (by decide +kernel), by decide +kernel⟩, ⟨List.mem_of_getElem? (i := 135) (by decide +kernel), by decide +kernel⟩, by decide, by decide, by decide +kernel, by decide, rfl⟩
theorem vX8_removeNote : ji_mv mX8_removeNote := ⟨⟨List.mem_of_getElem? (i := 1486) (by decide +kernel), by decide +kernel⟩, ⟨List.mem_of_getElem? (i := 1487) (by decide +kernel), by decide +kernel⟩⟩
theorem wX8_sizeOf : ji_mw mX8_sizeOf 1 := ⟨⟨List.mem_of_getElem? (i := 1520) (by decide +kernel), by decide +kernel⟩, ⟨List.mem_of_getElem? (i := 135) (by decide +kernel), by decide +kernel⟩, by decide, by decide, by decide +kernel, by decide, rfl⟩
theorem vX8_sizeOf : ji_mv mX8_sizeOf := ⟨⟨List.mem_of_getElem? (i := 1519) (by decide +kernel), by decide +kernel⟩, ⟨List.mem_of_getElem? (i := 63) (by decide +kernel), by decide +kernel⟩⟩
theorem wX8_charOf : ji_mw mX8_charOf 2 := ⟨⟨List.mem_of_getElem? (i := 1524) (by decide +kernel), by decide +kernel⟩, ⟨List.mem_of_getElem? (i := 135) (by decide +kernel), by decide +kernel⟩, by decide, by decide, by decide +kernel, by decide, rfl⟩
theorem vX8_charOf : ji_mv mX8_charOf := ⟨⟨List.mem_of_getElem? (i := 1523) (by decide +kernel), by decide +kernel⟩, ⟨List.mem_of_getElem? (i := 64) (by decide +kernel), by decide +kernel⟩⟩
theorem wX8_wordEnd : ji_mw mX8_wordEnd 2 := ⟨⟨List.mem_of_getElem? (i := 1516) (by decide +kernel), by decide +kernel⟩, ⟨List.mem_of_getElem? (i := 135) (by decide +kernel), by decide +kernel⟩, by decide, by decide, by decide +kernel, by decide, rfl⟩
theorem vX8_wordEnd : ji_mv mX8_wordEnd := ⟨⟨List.mem_of_getElem? (i := 1515) (by decide +kernel), by decide +kernel⟩, ⟨List.mem_of_getElem? (i := 62) (by decide +kernel), by decide +kernel⟩⟩
theorem wX8_lineEnd : ji_mw mX8_lineEnd 4 := ⟨⟨List.mem_of_getElem? (i := 1512) (by decide +kernel), by decide +kernel⟩, ⟨List.mem_of_getElem? (i := 135) (by decide +kernel), by decide +kernel⟩, by decide, by decide, by decide +kernel, by decide, rfl⟩
theorem vX8_lineEnd : ji_mv mX8_lineEnd := ⟨⟨List.mem_of_getElem? (i := 1511) (by decide +kernel), by decide +kernel⟩, ⟨List.mem_of_getElem? (i := 61) (by decide +kernel), by decide +kernel⟩⟩
theorem wX8_wordsOf : ji_mw mX8_wordsOf 1 := ⟨⟨List.mem_of_getElem? (i := 1728) (by decide +kernel), by decide +kernel⟩, ⟨List.mem_of_getElem? (i := 135) (by decide +kernel), by decide +kernel⟩, by decide, by decide, by decide +kernel, by decide, rfl⟩
theorem vX8_wordsOf : ji_mv mX8_wordsOf := ⟨⟨List.mem_of_getElem? (i := 1727) (by decide +kernel), by decide +kernel⟩, ⟨List.mem_of_getElem? (i := 103) (by decide +kernel), by decide +kernel⟩⟩
theorem wX8_startOf : ji_mw mX8_startOf 2 := ⟨⟨List.mem_of_getElem? (i := 1800) (by decide +kernel), by decide +kernel⟩, ⟨List.mem_of_getElem? (i := 135) (by decide +kernel), by decide +kernel⟩, by decide, by decide, by decide +kernel, by decide, rfl⟩
theorem vX8_startOf : ji_mv mX8_startOf := ⟨⟨List.mem_of_getElem? (i := 1799) (by decide +kernel), by decide +kernel⟩, ⟨List.mem_of_getElem? (i := 114) (by decide +kernel), by decide +kernel⟩⟩
theorem wX8_indentOf : ji_mw mX8_indentOf 2 := ⟨⟨List.mem_of_getElem? (i := 1508) (by decide +kernel), by decide +kernel⟩, ⟨List.mem_of_getElem? (i := 135) (by decide +kernel), by decide +kernel⟩, by decide, by decide, by decide +kernel, by decide, rfl⟩
theorem vX8_indentOf : ji_mv mX8_indentOf := ⟨⟨List.mem_of_getElem? (i := 1507) (by decide +kernel), by decide +kernel⟩, ⟨List.mem_of_getElem? (i := 60) (by decide +kernel), by decide +kernel⟩⟩
theorem wX8_layLines : ji_mw mX8_layLines 1 := ⟨⟨List.mem_of_getElem? (i := 1504) (by decide +kernel), by decide +kernel⟩, ⟨List.mem_of_getElem? (i := 135) (by decide +kernel), by decide +kernel⟩, by decide, by decide, by decide +kernel, by decide, rfl⟩
theorem vX8_layLines : ji_mv mX8_layLines := ⟨⟨List.mem_of_getElem? (i := 1503) (by decide +kernel), by decide +kernel⟩, ⟨List.mem_of_getElem? (i := 59) (by decide +kernel), by decide +kernel⟩⟩
theorem wX8_isFirst : ji_mw mX8_isFirst 1 := ⟨⟨List.mem_of_getElem? (i := 1544) (by decide +kernel), by decide +kernel⟩, ⟨List.mem_of_getElem? (i := 135) (by decide +kernel), by decide +kernel⟩, by decide, by decide, by decide +kernel, by decide, rfl⟩
theorem vX8_isFirst : ji_mv mX8_isFirst := ⟨⟨List.mem_of_getElem? (i := 1543) (by decide +kernel), by decide +kernel⟩, ⟨List.mem_of_getElem? (i := 69) (by decide +kernel), by decide +kernel⟩⟩
theorem wX8_gapBefore : ji_mw mX8_gapBefore 1 := ⟨⟨List.mem_of_getElem? (i := 1540) (by decide +kernel), by decide +kernel⟩, ⟨List.mem_of_getElem? (i := 135) (by decide +kernel), by decide +kernel⟩, by decide, by decide, by decide +kernel, by decide, rfl⟩
theorem vX8_gapBefore : ji_mv mX8_gapBefore := ⟨⟨List.mem_of_getElem? (i := 1539) (by decide +kernel), by decide +kernel⟩, ⟨List.mem_of_getElem? (i := 68) (by decide +kernel), by decide +kernel⟩⟩
theorem wX8_notesOn : ji_mw mX8_notesOn 2 := ⟨⟨List.mem_of_getElem? (i := 1548) (by decide +kernel), by decide +kernel⟩, ⟨List.mem_of_getElem? (i := 135) (by decide +kernel), by decide +kernel⟩, by decide, by decide, by decide +kernel, by decide, rfl⟩
theorem vX8_notesOn : ji_mv mX8_notesOn := ⟨⟨List.mem_of_getElem? (i := 1547) (by decide +kernel), by decide +kernel⟩, ⟨List.mem_of_getElem? (i := 70) (by decide +kernel), by decide +kernel⟩⟩
theorem wX8_noteLines : ji_mw mX8_noteLines 1 := ⟨⟨List.mem_of_getElem? (i := 1560) (by decide +kernel), by decide +kernel⟩, ⟨List.mem_of_getElem? (i := 135) (by decide +kernel), by decide +kernel⟩, by decide, by decide, by decide +kernel, by decide, rfl⟩
theorem vX8_noteLines : ji_mv mX8_noteLines := ⟨⟨List.mem_of_getElem? (i := 1559) (by decide +kernel), by decide +kernel⟩, ⟨List.mem_of_getElem? (i := 73) (by decide +kernel), by decide +kernel⟩⟩
theorem wX8_isShownNote : ji_mw mX8_isShownNote 2 := ⟨⟨List.mem_of_getElem? (i := 1556) (by decide +kernel), by decide +kernel⟩, ⟨List.mem_of_getElem? (i := 135) (by decide +kernel), by decide +kernel⟩, by decide, by decide, by decide +kernel, by decide, rfl⟩
theorem vX8_isShownNote : ji_mv mX8_isShownNote := ⟨⟨List.mem_of_getElem? (i := 1555) (by decide +kernel), by decide +kernel⟩, ⟨List.mem_of_getElem? (i := 72) (by decide +kernel), by decide +kernel⟩⟩
theorem wX8_noteRows : ji_mw mX8_noteRows 1 := ⟨⟨List.mem_of_getElem? (i := 1552) (by decide +kernel), by decide +kernel⟩, ⟨List.mem_of_getElem? (i := 135) (by decide +kernel), by decide +kernel⟩, by decide, by decide, by decide +kernel, by decide, rfl⟩
theorem vX8_noteRows : ji_mv mX8_noteRows := ⟨⟨List.mem_of_getElem? (i := 1551) (by decide +kernel), by decide +kernel⟩, ⟨List.mem_of_getElem? (i := 71) (by decide +kernel), by decide +kernel⟩⟩
theorem wX8_rowsOf : ji_mw mX8_rowsOf 2 := ⟨⟨List.mem_of_getElem? (i := 1536) (by decide +kernel), by decide +kernel⟩, ⟨List.mem_of_getElem? (i := 135) (by decide +kernel), by decide +kernel⟩, by decide, by decide, by decide +kernel, by decide, rfl⟩
theorem vX8_rowsOf : ji_mv mX8_rowsOf := ⟨⟨List.mem_of_getElem? (i := 1535) (by decide +kernel), by decide +kernel⟩, ⟨List.mem_of_getElem? (i := 67) (by decide +kernel), by decide +kernel⟩⟩
theorem wX8_need : ji_mw mX8_need 2 := ⟨⟨List.mem_of_getElem? (i := 1532) (by decide +kernel), by decide +kernel⟩, ⟨List.mem_of_getElem? (i := 135) (by decide +kernel), by decide +kernel⟩, by decide, by decide, by decide +kernel, by decide, rfl⟩
theorem vX8_need : ji_mv mX8_need := ⟨⟨List.mem_of_getElem? (i := 1531) (by decide +kernel), by decide +kernel⟩, ⟨List.mem_of_getElem? (i := 66) (by decide +kernel), by decide +kernel⟩⟩
theorem wX8_isLast : ji_mw mX8_isLast 1 := ⟨⟨List.mem_of_getElem? (i := 1568) (by decide +kernel), by decide +kernel⟩, ⟨List.mem_of_getElem? (i := 135) (by decide +kernel), by decide +kernel⟩, by decide, by decide, by decide +kernel, by decide, rfl⟩
theorem vX8_isLast : ji_mv mX8_isLast := ⟨⟨List.mem_of_getElem? (i := 1567) (by decide +kernel), by decide +kernel⟩, ⟨List.mem_of_getElem? (i := 75) (by decide +kernel), by decide +kernel⟩⟩
theorem wX8_mayBreak : ji_mw mX8_mayBreak 1 := ⟨⟨List.mem_of_getElem? (i := 1564) (by decide +kernel), by decide +kernel⟩, ⟨List.mem_of_getElem? (i := 135) (by decide +kernel), by decide +kernel⟩, by decide, by decide, by decide +kernel, by decide, rfl⟩
theorem vX8_mayBreak : ji_mv mX8_mayBreak := ⟨⟨List.mem_of_getElem? (i := 1563) (by decide +kernel), by decide +kernel⟩, ⟨List.mem_of_getElem? (i := 74) (by decide +kernel), by decide +kernel⟩⟩
theorem wX8_breakOf : ji_mw mX8_breakOf 1 := ⟨⟨List.mem_of_getElem? (i := 1528) (by decide +kernel), by decide +kernel⟩, ⟨List.mem_of_getElem? (i := 135) (by decide +kernel), by decide +kernel⟩, by decide, by decide, by decide +kernel, by decide, rfl⟩
theorem vX8_breakOf : ji_mv mX8_breakOf := ⟨⟨List.mem_of_getElem? (i := 1527) (by decide +kernel), by decide +kernel⟩, ⟨List.mem_of_getElem? (i := 65) (by decide +kernel), by decide +kernel⟩⟩
theorem wX8_layPages : ji_mw mX8_layPages 2 := ⟨⟨List.mem_of_getElem? (i := 1500) (by decide +kernel), by decide +kernel⟩, ⟨List.mem_of_getElem? (i := 135) (by decide +kernel), by decide +kernel⟩, by decide, by decide, by decide +kernel, by decide, rfl⟩
theorem vX8_layPages : ji_mv mX8_layPages := ⟨⟨List.mem_of_getElem? (i := 1499) (by decide +kernel), by decide +kernel⟩, ⟨List.mem_of_getElem? (i := 58) (by decide +kernel), by decide +kernel⟩⟩
theorem wX8_layAll : ji_mw mX8_layAll 0 := ⟨⟨List.mem_of_getElem? (i := 1496) (by decide +kernel), by decide +kernel⟩, ⟨List.mem_of_getElem? (i := 135) (by decide +kernel), by decide +kernel⟩, by decide, by decide, by decide +kernel, by decide, rfl⟩
theorem vX8_layAll : ji_mv mX8_layAll := ⟨⟨List.mem_of_getElem? (i := 1495) (by decide +kernel), by decide +kernel⟩, ⟨List.mem_of_getElem? (i := 57) (by decide +kernel), by decide +kernel⟩⟩
theorem wX8_pageAt : ji_mw mX8_pageAt 1 := ⟨⟨List.mem_of_getElem? (i := 1624) (by decide +kernel), by decide +kernel⟩, ⟨List.mem_of_getElem? (i := 135) (by decide +kernel), by decide +kernel⟩, by decide, by decide, by decide +kernel, by decide, rfl⟩
theorem vX8_pageAt : ji_mv mX8_pageAt := ⟨⟨List.mem_of_getElem? (i := 1623) (by decide +kernel), by decide +kernel⟩, ⟨List.mem_of_getElem? (i := 86) (by decide +kernel), by decide +kernel⟩⟩
theorem wX8_lineAt : ji_mw mX8_lineAt 2 := ⟨⟨List.mem_of_getElem? (i := 1668) (by decide +kernel), by decide +kernel⟩, ⟨List.mem_of_getElem? (i := 135) (by decide +kernel), by decide +kernel⟩, by decide, by decide, by decide +kernel, by decide, rfl⟩
theorem vX8_lineAt : ji_mv mX8_lineAt := ⟨⟨List.mem_of_getElem? (i := 1667) (by decide +kernel), by decide +kernel⟩, ⟨List.mem_of_getElem? (i := 94) (by decide +kernel), by decide +kernel⟩⟩
theorem wX8_pageWith : ji_mw mX8_pageWith 2 := ⟨⟨List.mem_of_getElem? (i := 1664) (by decide +kernel), by decide +kernel⟩, ⟨List.mem_of_getElem? (i := 135) (by decide +kernel), by decide +kernel⟩, by decide, by decide, by decide +kernel, by decide, rfl⟩
theorem vX8_pageWith : ji_mv mX8_pageWith := ⟨⟨List.mem_of_getElem? (i := 1663) (by decide +kernel), by decide +kernel⟩, ⟨List.mem_of_getElem? (i := 93) (by decide +kernel), by decide +kernel⟩⟩
theorem wX8_here : ji_mw mX8_here 0 := ⟨⟨List.mem_of_getElem? (i := 1692) (by decide +kernel), by decide +kernel⟩, ⟨List.mem_of_getElem? (i := 135) (by decide +kernel), by decide +kernel⟩, by decide, by decide, by decide +kernel, by decide, rfl⟩
theorem vX8_here : ji_mv mX8_here := ⟨⟨List.mem_of_getElem? (i := 1691) (by decide +kernel), by decide +kernel⟩, ⟨List.mem_of_getElem? (i := 98) (by decide +kernel), by decide +kernel⟩⟩
theorem wX8_setSize : ji_mw mX8_setSize 2 := ⟨⟨List.mem_of_getElem? (i := 1492) (by decide +kernel), by decide +kernel⟩, ⟨List.mem_of_getElem? (i := 135) (by decide +kernel), by decide +kernel⟩, by decide, by decide, by decide +kernel, by decide, rfl⟩
theorem vX8_setSize : ji_mv mX8_setSize := ⟨⟨List.mem_of_getElem? (i := 1490) (by decide +kernel), by decide +kernel⟩, ⟨List.mem_of_getElem? (i := 1491) (by decide +kernel), by decide +kernel⟩⟩
theorem wX8_setStyle : ji_mw mX8_setStyle 2 := ⟨⟨List.mem_of_getElem? (i := 1572) (by decide +kernel), by decide +kernel⟩, ⟨List.mem_of_getElem? (i := 135) (by decide +kernel), by decide +kernel⟩, by decide, by decide, by decide +kernel, by decide, rfl⟩
theorem vX8_setStyle : ji_mv mX8_setStyle := ⟨⟨List.mem_of_getElem? (i := 1570) (by decide +kernel), by decide +kernel⟩, ⟨List.mem_of_getElem? (i := 1571) (by decide +kernel), by decide +kernel⟩⟩
theorem wX8_isPage : ji_mw mX8_isPage 1 := ⟨⟨List.mem_of_getElem? (i := 1580) (by decide +kernel), by decide +kernel⟩, ⟨List.mem_of_getElem? (i := 135) (by decide +kernel), by decide +kernel⟩, by decide, by decide, by decide +kernel, by decide, rfl⟩
theorem vX8_isPage : ji_mv mX8_isPage := ⟨⟨List.mem_of_getElem? (i := 1579) (by decide +kernel), by decide +kernel⟩, ⟨List.mem_of_getElem? (i := 76) (by decide +kernel), by decide +kernel⟩⟩
theorem wX8_firstOf : ji_mw mX8_firstOf 1 := ⟨⟨List.mem_of_getElem? (i := 1588) (by decide +kernel), by decide +kernel⟩, ⟨List.mem_of_getElem? (i := 135) (by decide +kernel), by decide +kernel⟩, by decide, by decide, by decide +kernel, by decide, rfl⟩
theorem vX8_firstOf : ji_mv mX8_firstOf := ⟨⟨List.mem_of_getElem? (i := 1587) (by decide +kernel), by decide +kernel⟩, ⟨List.mem_of_getElem? (i := 78) (by decide +kernel), by decide +kernel⟩⟩
theorem wX8_bits : ji_mw mX8_bits 1 := ⟨⟨List.mem_of_getElem? (i := 1592) (by decide +kernel), by decide +kernel⟩, ⟨List.mem_of_getElem? (i := 135) (by decide +kernel), by decide +kernel⟩, by decide, by decide, by decide +kernel, by decide, rfl⟩
theorem vX8_bits : ji_mv mX8_bits := ⟨⟨List.mem_of_getElem? (i := 1591) (by decide +kernel), by decide +kernel⟩, ⟨List.mem_of_getElem? (i := 79) (by decide +kernel), by decide +kernel⟩⟩
theorem wX8_endOf : ji_mw mX8_endOf 1 := ⟨⟨List.mem_of_getElem? (i := 1604) (by decide +kernel), by decide +kernel⟩, ⟨List.mem_of_getElem? (i := 135) (by decide +kernel), by decide +kernel⟩, by decide, by decide, by decide +kernel, by decide, rfl⟩
theorem vX8_endOf : ji_mv mX8_endOf := ⟨⟨List.mem_of_getElem? (i := 1603) (by decide +kernel), by decide +kernel⟩, ⟨List.mem_of_getElem? (i := 82) (by decide +kernel), by decide +kernel⟩⟩
theorem wX8_isMarked : ji_mw mX8_isMarked 2 := ⟨⟨List.mem_of_getElem? (i := 1600) (by decide +kernel), by decide +kernel⟩, ⟨List.mem_of_getElem? (i := 135) (by decide +kernel), by decide +kernel⟩, by decide, by decide, by decide +kernel, by decide, rfl⟩
theorem vX8_isMarked : ji_mv mX8_isMarked := ⟨⟨List.mem_of_getElem? (i := 1599) (by decide +kernel), by decide +kernel⟩, ⟨List.mem_of_getElem? (i := 81) (by decide +kernel), by decide +kernel⟩⟩
theorem wX8_annotationsOn : ji_mw mX8_annotationsOn 2 := ⟨⟨List.mem_of_getElem? (i := 1596) (by decide +kernel), by decide +kernel⟩, ⟨List.mem_of_getElem? (i := 135) (by decide +kernel), by decide +kernel⟩, by decide, by decide, by decide +kernel, by decide, rfl⟩
theorem vX8_annotationsOn : ji_mv mX8_annotationsOn := ⟨⟨List.mem_of_getElem? (i := 1595) (by decide +kernel), by decide +kernel⟩, ⟨List.mem_of_getElem? (i := 80) (by decide +kernel), by decide +kernel⟩⟩
theorem wX8_pageNow : ji_mw mX8_pageNow 2 := ⟨⟨List.mem_of_getElem? (i := 1584) (by decide +kernel), by decide +kernel⟩, ⟨List.mem_of_getElem? (i := 135) (by decide +kernel), by decide +kernel⟩, by decide, by decide, by decide +kernel, by decide, rfl⟩
theorem vX8_pageNow : ji_mv mX8_pageNow := ⟨⟨List.mem_of_getElem? (i := 1583) (by decide +kernel), by decide +kernel⟩, ⟨List.mem_of_getElem? (i := 77) (by decide +kernel), by decide +kernel⟩⟩
theorem wX8_page : ji_mw mX8_page 2 := ⟨⟨List.mem_of_getElem? (i := 1576) (by decide +kernel), by decide +kernel⟩, ⟨List.mem_of_getElem? (i := 135) (by decide +kernel), by decide +kernel⟩, by decide, by decide, by decide +kernel, by decide, rfl⟩
theorem vX8_page : ji_mv mX8_page := ⟨⟨List.mem_of_getElem? (i := 1574) (by decide +kernel), by decide +kernel⟩, ⟨List.mem_of_getElem? (i := 1575) (by decide +kernel), by decide +kernel⟩⟩
theorem wX8_rowAt : ji_mw mX8_rowAt 1 := ⟨⟨List.mem_of_getElem? (i := 1628) (by decide +kernel), by decide +kernel⟩, ⟨List.mem_of_getElem? (i := 135) (by decide +kernel), by decide +kernel⟩, by decide, by decide, by decide +kernel, by decide, rfl⟩
theorem vX8_rowAt : ji_mv mX8_rowAt := ⟨⟨List.mem_of_getElem? (i := 1627) (by decide +kernel), by decide +kernel⟩, ⟨List.mem_of_getElem? (i := 87) (by decide +kernel), by decide +kernel⟩⟩
theorem wX8_wordsBetween : ji_mw mX8_wordsBetween 3 := ⟨⟨List.mem_of_getElem? (i := 1620) (by decide +kernel), by decide +kernel⟩, ⟨List.mem_of_getElem? (i := 135) (by decide +kernel), by decide +kernel⟩, by decide, by decide, by decide +kernel, by decide, rfl⟩
theorem vX8_wordsBetween : ji_mv mX8_wordsBetween := ⟨⟨List.mem_of_getElem? (i := 1619) (by decide +kernel), by decide +kernel⟩, ⟨List.mem_of_getElem? (i := 85) (by decide +kernel), by decide +kernel⟩⟩
theorem wX8_lineNow : ji_mw mX8_lineNow 2 := ⟨⟨List.mem_of_getElem? (i := 1616) (by decide +kernel), by decide +kernel⟩, ⟨List.mem_of_getElem? (i := 135) (by decide +kernel), by decide +kernel⟩, by decide, by decide, by decide +kernel, by decide, rfl⟩
theorem vX8_lineNow : ji_mv mX8_lineNow := ⟨⟨List.mem_of_getElem? (i := 1615) (by decide +kernel), by decide +kernel⟩, ⟨List.mem_of_getElem? (i := 84) (by decide +kernel), by decide +kernel⟩⟩
theorem wX8_isLine : ji_mw mX8_isLine 1 := ⟨⟨List.mem_of_getElem? (i := 1612) (by decide +kernel), by decide +kernel⟩, ⟨List.mem_of_getElem? (i := 135) (by decide +kernel), by decide +kernel⟩, by decide, by decide, by decide +kernel, by decide, rfl⟩
theorem vX8_isLine : ji_mv mX8_isLine := ⟨⟨List.mem_of_getElem? (i := 1611) (by decide +kernel), by decide +kernel⟩, ⟨List.mem_of_getElem? (i := 83) (by decide +kernel), by decide +kernel⟩⟩
theorem wX8_line : ji_mw mX8_line 2 := ⟨⟨List.mem_of_getElem? (i := 1608) (by decide +kernel), by decide +kernel⟩, ⟨List.mem_of_getElem? (i := 135) (by decide +kernel), by decide +kernel⟩, by decide, by decide, by decide +kernel, by decide, rfl⟩
theorem vX8_line : ji_mv mX8_line := ⟨⟨List.mem_of_getElem? (i := 1606) (by decide +kernel), by decide +kernel⟩, ⟨List.mem_of_getElem? (i := 1607) (by decide +kernel), by decide +kernel⟩⟩
theorem wX8_lineChar : ji_mw mX8_lineChar 4 := ⟨⟨List.mem_of_getElem? (i := 1640) (by decide +kernel), by decide +kernel⟩, ⟨List.mem_of_getElem? (i := 135) (by decide +kernel), by decide +kernel⟩, by decide, by decide, by decide +kernel, by decide, rfl⟩
theorem vX8_lineChar : ji_mv mX8_lineChar := ⟨⟨List.mem_of_getElem? (i := 1639) (by decide +kernel), by decide +kernel⟩, ⟨List.mem_of_getElem? (i := 89) (by decide +kernel), by decide +kernel⟩⟩
theorem wX8_noteChar : ji_mw mX8_noteChar 3 := ⟨⟨List.mem_of_getElem? (i := 1644) (by decide +kernel), by decide +kernel⟩, ⟨List.mem_of_getElem? (i := 135) (by decide +kernel), by decide +kernel⟩, by decide, by decide, by decide +kernel, by decide, rfl⟩
theorem vX8_noteChar : ji_mv mX8_noteChar := ⟨⟨List.mem_of_getElem? (i := 1643) (by decide +kernel), by decide +kernel⟩, ⟨List.mem_of_getElem? (i := 90) (by decide +kernel), by decide +kernel⟩⟩
theorem wX8_shownNow : ji_mw mX8_shownNow 3 := ⟨⟨List.mem_of_getElem? (i := 1636) (by decide +kernel), by decide +kernel⟩, ⟨List.mem_of_getElem? (i := 135) (by decide +kernel), by decide +kernel⟩, by decide, by decide, by decide +kernel, by decide, rfl⟩
theorem vX8_shownNow : ji_mv mX8_shownNow := ⟨⟨List.mem_of_getElem? (i := 1635) (by decide +kernel), by decide +kernel⟩, ⟨List.mem_of_getElem? (i := 88) (by decide +kernel), by decide +kernel⟩⟩
theorem wX8_shown : ji_mw mX8_shown 3 := ⟨⟨List.mem_of_getElem? (i := 1632) (by decide +kernel), by decide +kernel⟩, ⟨List.mem_of_getElem? (i := 135) (by decide +kernel), by decide +kernel⟩, by decide, by decide, by decide +kernel, by decide, rfl⟩
theorem vX8_shown : ji_mv mX8_shown := ⟨⟨List.mem_of_getElem? (i := 1630) (by decide +kernel), by decide +kernel⟩, ⟨List.mem_of_getElem? (i := 1631) (by decide +kernel), by decide +kernel⟩⟩
theorem wX8_noteAt : ji_mw mX8_noteAt 2 := ⟨⟨List.mem_of_getElem? (i := 1652) (by decide +kernel), by decide +kernel⟩, ⟨List.mem_of_getElem? (i := 135) (by decide +kernel), by decide +kernel⟩, by decide, by decide, by decide +kernel, by decide, rfl⟩
theorem vX8_noteAt : ji_mv mX8_noteAt := ⟨⟨List.mem_of_getElem? (i := 1651) (by decide +kernel), by decide +kernel⟩, ⟨List.mem_of_getElem? (i := 91) (by decide +kernel), by decide +kernel⟩⟩
theorem wX8_noteOn : ji_mw mX8_noteOn 2 := ⟨⟨List.mem_of_getElem? (i := 1648) (by decide +kernel), by decide +kernel⟩, ⟨List.mem_of_getElem? (i := 135) (by decide +kernel), by decide +kernel⟩, by decide, by decide, by decide +kernel, by decide, rfl⟩
theorem vX8_noteOn : ji_mv mX8_noteOn := ⟨⟨List.mem_of_getElem? (i := 1646) (by decide +kernel), by decide +kernel⟩, ⟨List.mem_of_getElem? (i := 1647) (by decide +kernel), by decide +kernel⟩⟩
theorem wX8_isPosition : ji_mw mX8_isPosition 2 := ⟨⟨List.mem_of_getElem? (i := 1660) (by decide +kernel), by decide +kernel⟩, ⟨List.mem_of_getElem? (i := 135) (by decide +kernel), by decide +kernel⟩, by decide, by decide, by decide +kernel, by decide, rfl⟩
theorem vX8_isPosition : ji_mv mX8_isPosition := ⟨⟨List.mem_of_getElem? (i := 1659) (by decide +kernel), by decide +kernel⟩, ⟨List.mem_of_getElem? (i := 92) (by decide +kernel), by decide +kernel⟩⟩
theorem wX8_pageOf : ji_mw mX8_pageOf 2 := ⟨⟨List.mem_of_getElem? (i := 1656) (by decide +kernel), by decide +kernel⟩, ⟨List.mem_of_getElem? (i := 135) (by decide +kernel), by decide +kernel⟩, by decide, by decide, by decide +kernel, by decide, rfl⟩
theorem vX8_pageOf : ji_mv mX8_pageOf := ⟨⟨List.mem_of_getElem? (i := 1654) (by decide +kernel), by decide +kernel⟩, ⟨List.mem_of_getElem? (i := 1655) (by decide +kernel), by decide +kernel⟩⟩
theorem wX8_backwards : ji_mw mX8_backwards 1 := ⟨⟨List.mem_of_getElem? (i := 1676) (by decide +kernel), by decide +kernel⟩, ⟨List.mem_of_getElem? (i := 135) (by decide +kernel), by decide +kernel⟩, by decide, by decide, by decide +kernel, by decide, rfl⟩
theorem vX8_backwards : ji_mv mX8_backwards := ⟨⟨List.mem_of_getElem? (i := 1675) (by decide +kernel), by decide +kernel⟩, ⟨List.mem_of_getElem? (i := 95) (by decide +kernel), by decide +kernel⟩⟩
theorem wX8_floating : ji_mw mX8_floating 2 := ⟨⟨List.mem_of_getElem? (i := 1672) (by decide +kernel), by decide +kernel⟩, ⟨List.mem_of_getElem? (i := 135) (by decide +kernel), by decide +kernel⟩, by decide, by decide, by decide +kernel, by decide, rfl⟩
theorem vX8_floating : ji_mv mX8_floating := ⟨⟨List.mem_of_getElem? (i := 1670) (by decide +kernel), by decide +kernel⟩, ⟨List.mem_of_getElem? (i := 1671) (by decide +kernel), by decide +kernel⟩⟩
theorem wX8_move : ji_mw mX8_move 2 := ⟨⟨List.mem_of_getElem? (i := 1688) (by decide +kernel), by decide +kernel⟩, ⟨List.mem_of_getElem? (i := 135) (by decide +kernel), by decide +kernel⟩, by decide, by decide, by decide +kernel, by decide, rfl⟩
theorem vX8_move : ji_mv mX8_move := ⟨⟨List.mem_of_getElem? (i := 1687) (by decide +kernel), by decide +kernel⟩, ⟨List.mem_of_getElem? (i := 97) (by decide +kernel), by decide +kernel⟩⟩
theorem wX8_keepJump : ji_mw mX8_keepJump 0 := ⟨⟨List.mem_of_getElem? (i := 1684) (by decide +kernel), by decide +kernel⟩, ⟨List.mem_of_getElem? (i := 135) (by decide +kernel), by decide +kernel⟩, by decide, by decide, by decide +kernel, by decide, rfl⟩
theorem vX8_keepJump : ji_mv mX8_keepJump := ⟨⟨List.mem_of_getElem? (i := 1683) (by decide +kernel), by decide +kernel⟩, ⟨List.mem_of_getElem? (i := 96) (by decide +kernel), by decide +kernel⟩⟩
theorem wX8_go : ji_mw mX8_go 2 := ⟨⟨List.mem_of_getElem? (i := 1680) (by decide +kernel), by decide +kernel⟩, ⟨List.mem_of_getElem? (i := 135) (by decide +kernel), by decide +kernel⟩, by decide, by decide, by decide +kernel, by decide, rfl⟩
theorem vX8_go : ji_mv mX8_go := ⟨⟨List.mem_of_getElem? (i := 1678) (by decide +kernel), by decide +kernel⟩, ⟨List.mem_of_getElem? (i := 1679) (by decide +kernel), by decide +kernel⟩⟩
theorem wX8_turn : ji_mw mX8_turn 1 := ⟨⟨List.mem_of_getElem? (i := 1696) (by decide +kernel), by decide +kernel⟩, ⟨List.mem_of_getElem? (i := 135) (by decide +kernel), by decide +kernel⟩, by decide, by decide, by decide +kernel, by decide, rfl⟩
theorem vX8_turn : ji_mv mX8_turn := ⟨⟨List.mem_of_getElem? (i := 1694) (by decide +kernel), by decide +kernel⟩, ⟨List.mem_of_getElem? (i := 1695) (by decide +kernel), by decide +kernel⟩⟩
theorem wX8_back : ji_mw mX8_back 0 := ⟨⟨List.mem_of_getElem? (i := 1700) (by decide +kernel), by decide +kernel⟩, ⟨List.mem_of_getElem? (i := 135) (by decide +kernel), by decide +kernel⟩, by decide, by decide, by decide +kernel, by decide, rfl⟩
theorem vX8_back : ji_mv mX8_back := ⟨⟨List.mem_of_getElem? (i := 1698) (by decide +kernel), by decide +kernel⟩, ⟨List.mem_of_getElem? (i := 1699) (by decide +kernel), by decide +kernel⟩⟩
theorem wX8_isWanted : ji_mw mX8_isWanted 2 := ⟨⟨List.mem_of_getElem? (i := 1712) (by decide +kernel), by decide +kernel⟩, ⟨List.mem_of_getElem? (i := 135) (by decide +kernel), by decide +kernel⟩, by decide, by decide, by decide +kernel, by decide, rfl⟩
theorem vX8_isWanted : ji_mv mX8_isWanted := ⟨⟨List.mem_of_getElem? (i := 1711) (by decide +kernel), by decide +kernel⟩, ⟨List.mem_of_getElem? (i := 100) (by decide +kernel), by decide +kernel⟩⟩
theorem wX8_findNow : ji_mw mX8_findNow 1 := ⟨⟨List.mem_of_getElem? (i := 1708) (by decide +kernel), by decide +kernel⟩, ⟨List.mem_of_getElem? (i := 135) (by decide +kernel), by decide +kernel⟩, by decide, by decide, by decide +kernel, by decide, rfl⟩
theorem vX8_findNow : ji_mv mX8_findNow := ⟨⟨List.mem_of_getElem? (i := 1707) (by decide +kernel), by decide +kernel⟩, ⟨List.mem_of_getElem? (i := 99) (by decide +kernel), by decide +kernel⟩⟩
theorem wX8_find : ji_mw mX8_find 1 := ⟨⟨List.mem_of_getElem? (i := 1704) (by decide +kernel), by decide +kernel⟩, ⟨List.mem_of_getElem? (i := 135) (by decide +kernel), by decide +kernel⟩, by decide, by decide, by decide +kernel, by decide, rfl⟩
theorem vX8_find : ji_mv mX8_find := ⟨⟨List.mem_of_getElem? (i := 1702) (by decide +kernel), by decide +kernel⟩, ⟨List.mem_of_getElem? (i := 1703) (by decide +kernel), by decide +kernel⟩⟩
theorem wX8_allWords : ji_mw mX8_allWords 0 := ⟨⟨List.mem_of_getElem? (i := 1724) (by decide +kernel), by decide +kernel⟩, ⟨List.mem_of_getElem? (i := 135) (by decide +kernel), by decide +kernel⟩, by decide, by decide, by decide +kernel, by decide, rfl⟩
theorem vX8_allWords : ji_mv mX8_allWords := ⟨⟨List.mem_of_getElem? (i := 1723) (by decide +kernel), by decide +kernel⟩, ⟨List.mem_of_getElem? (i := 102) (by decide +kernel), by decide +kernel⟩⟩
theorem wX8_letters : ji_mw mX8_letters 1 := ⟨⟨List.mem_of_getElem? (i := 1732) (by decide +kernel), by decide +kernel⟩, ⟨List.mem_of_getElem? (i := 135) (by decide +kernel), by decide +kernel⟩, by decide, by decide, by decide +kernel, by decide, rfl⟩
theorem vX8_letters : ji_mv mX8_letters := ⟨⟨List.mem_of_getElem? (i := 1731) (by decide +kernel), by decide +kernel⟩, ⟨List.mem_of_getElem? (i := 104) (by decide +kernel), by decide +kernel⟩⟩
theorem wX8_lost : ji_mw mX8_lost 0 := ⟨⟨List.mem_of_getElem? (i := 1736) (by decide +kernel), by decide +kernel⟩, ⟨List.mem_of_getElem? (i := 135) (by decide +kernel), by decide +kernel⟩, by decide, by decide, by decide +kernel, by decide, rfl⟩
theorem vX8_lost : ji_mv mX8_lost := ⟨⟨List.mem_of_getElem? (i := 1735) (by decide +kernel), by decide +kernel⟩, ⟨List.mem_of_getElem? (i := 105) (by decide +kernel), by decide +kernel⟩⟩
theorem wX8_counted : ji_mw mX8_counted 1 := ⟨⟨List.mem_of_getElem? (i := 1720) (by decide +kernel), by decide +kernel⟩, ⟨List.mem_of_getElem? (i := 135) (by decide +kernel), by decide +kernel⟩, by decide, by decide, by decide +kernel, by decide, rfl⟩
theorem vX8_counted : ji_mv mX8_counted := ⟨⟨List.mem_of_getElem? (i := 1719) (by decide +kernel), by decide +kernel⟩, ⟨List.mem_of_getElem? (i := 101) (by decide +kernel), by decide +kernel⟩⟩
theorem wX8_count : ji_mw mX8_count 1 := ⟨⟨List.mem_of_getElem? (i := 1716) (by decide +kernel), by decide +kernel⟩, ⟨List.mem_of_getElem? (i := 135) (by decide +kernel), by decide +kernel⟩, by decide, by decide, by decide +kernel, by decide, rfl⟩
theorem vX8_count : ji_mv mX8_count := ⟨⟨List.mem_of_getElem? (i := 1714) (by decide +kernel), by decide +kernel⟩, ⟨List.mem_of_getElem? (i := 1715) (by decide +kernel), by decide +kernel⟩⟩
theorem wX8_linesIn : ji_mw mX8_linesIn 1 := ⟨⟨List.mem_of_getElem? (i := 1752) (by decide +kernel), by decide +kernel⟩, ⟨List.mem_of_getElem? (i := 135) (by decide +kernel), by decide +kernel⟩, by decide, by decide, by decide +kernel, by decide, rfl⟩
theorem vX8_linesIn : ji_mv mX8_linesIn := ⟨⟨List.mem_of_getElem? (i := 1751) (by decide +kernel), by decide +kernel⟩, ⟨List.mem_of_getElem? (i := 108) (by decide +kernel), by decide +kernel⟩⟩
theorem wX8_paragraphNow : ji_mw mX8_paragraphNow 2 := ⟨⟨List.mem_of_getElem? (i := 1748) (by decide +kernel), by decide +kernel⟩, ⟨List.mem_of_getElem? (i := 135) (by decide +kernel), by decide +kernel⟩, by decide, by decide, by decide +kernel, by decide, rfl⟩
theorem vX8_paragraphNow : ji_mv mX8_paragraphNow := ⟨⟨List.mem_of_getElem? (i := 1747) (by decide +kernel), by decide +kernel⟩, ⟨List.mem_of_getElem? (i := 107) (by decide +kernel), by decide +kernel⟩⟩
theorem wX8_isParagraph : ji_mw mX8_isParagraph 1 := ⟨⟨List.mem_of_getElem? (i := 1744) (by decide +kernel), by decide +kernel⟩, ⟨List.mem_of_getElem? (i := 135) (by decide +kernel), by decide +kernel⟩, by decide, by decide, by decide +kernel, by decide, rfl⟩
theorem vX8_isParagraph : ji_mv mX8_isParagraph := ⟨⟨List.mem_of_getElem? (i := 1743) (by decide +kernel), by decide +kernel⟩, ⟨List.mem_of_getElem? (i := 106) (by decide +kernel), by decide +kernel⟩⟩
theorem wX8_paragraph : ji_mw mX8_paragraph 2 := ⟨⟨List.mem_of_getElem? (i := 1740) (by decide +kernel), by decide +kernel⟩, ⟨List.mem_of_getElem? (i := 135) (by decide +kernel), by decide +kernel⟩, by decide, by decide, by decide +kernel, by decide, rfl⟩
theorem vX8_paragraph : ji_mv mX8_paragraph := ⟨⟨List.mem_of_getElem? (i := 1738) (by decide +kernel), by decide +kernel⟩, ⟨List.mem_of_getElem? (i := 1739) (by decide +kernel), by decide +kernel⟩⟩
theorem wX8_letter : ji_mw mX8_letter 2 := ⟨⟨List.mem_of_getElem? (i := 1756) (by decide +kernel), by decide +kernel⟩, ⟨List.mem_of_getElem? (i := 135) (by decide +kernel), by decide +kernel⟩, by decide, by decide, by decide +kernel, by decide, rfl⟩
theorem vX8_letter : ji_mv mX8_letter := ⟨⟨List.mem_of_getElem? (i := 1754) (by decide +kernel), by decide +kernel⟩, ⟨List.mem_of_getElem? (i := 1755) (by decide +kernel), by decide +kernel⟩⟩
theorem wX8_annotate : ji_mw mX8_annotate 4 := ⟨⟨List.mem_of_getElem? (i := 1760) (by decide +kernel), by decide +kernel⟩, ⟨List.mem_of_getElem? (i := 135) (by decide +kernel), by decide +kernel⟩, by decide, by decide, by decide +kernel, by decide, rfl⟩
theorem vX8_annotate : ji_mv mX8_annotate := ⟨⟨List.mem_of_getElem? (i := 1758) (by decide +kernel), by decide +kernel⟩, ⟨List.mem_of_getElem? (i := 1759) (by decide +kernel), by decide +kernel⟩⟩
theorem wX8_isAnnotation : ji_mw mX8_isAnnotation 1 := ⟨⟨List.mem_of_getElem? (i := 1768) (by decide +kernel), by decide +kernel⟩, ⟨List.mem_of_getElem? (i := 135) (by decide +kernel), by decide +kernel⟩, by decide, by decide, by decide +kernel, by decide, rfl⟩
theorem vX8_isAnnotation : ji_mv mX8_isAnnotation := ⟨⟨List.mem_of_getElem? (i := 1767) (by decide +kernel), by decide +kernel⟩, ⟨List.mem_of_getElem? (i := 109) (by decide +kernel), by decide +kernel⟩⟩
theorem wX8_annotationNow : ji_mw mX8_annotationNow 2 := ⟨⟨List.mem_of_getElem? (i := 1772) (by decide +kernel), by decide +kernel⟩, ⟨List.mem_of_getElem? (i := 135) (by decide +kernel), by decide +kernel⟩, by decide, by decide, by decide +kernel, by decide, rfl⟩
theorem vX8_annotationNow : ji_mv mX8_annotationNow := ⟨⟨List.mem_of_getElem? (i := 1771) (by decide +kernel), by decide +kernel⟩, ⟨List.mem_of_getElem? (i := 110) (by decide +kernel), by decide +kernel⟩⟩
theorem wX8_annotation : ji_mw mX8_annotation 2 := ⟨⟨List.mem_of_getElem? (i := 1764) (by decide +kernel), by decide +kernel⟩, ⟨List.mem_of_getElem? (i := 135) (by decide +kernel), by decide +kernel⟩, by decide, by decide, by decide +kernel, by decide, rfl⟩
theorem vX8_annotation : ji_mv mX8_annotation := ⟨⟨List.mem_of_getElem? (i := 1762) (by decide +kernel), by decide +kernel⟩, ⟨List.mem_of_getElem? (i := 1763) (by decide +kernel), by decide +kernel⟩⟩
theorem wX8_removeAnnotation : ji_mw mX8_removeAnnotation 1 := ⟨⟨List.mem_of_getElem? (i := 1776) (by decide +kernel), by decide +kernel⟩, ⟨List.mem_of_getElem? (i := 135) (by decide +kernel), by decide +kernel⟩, by decide, by decide, by decide +kernel, by decide, rfl⟩
theorem vX8_removeAnnotation : ji_mv mX8_removeAnnotation := ⟨⟨List.mem_of_getElem? (i := 1774) (by decide +kernel), by decide +kernel⟩, ⟨List.mem_of_getElem? (i := 1775) (by decide +kernel), by decide +kernel⟩⟩
theorem wX8_keep : ji_mw mX8_keep 0 := ⟨⟨List.mem_of_getElem? (i := 1792) (by decide +kernel), by decide +kernel⟩, ⟨List.mem_of_getElem? (i := 135) (by decide +kernel), by decide +kernel⟩, by decide, by decide, by decide +kernel, by decide, rfl⟩
theorem vX8_keep : ji_mv mX8_keep := ⟨⟨List.mem_of_getElem? (i := 1791) (by decide +kernel), by decide +kernel⟩, ⟨List.mem_of_getElem? (i := 112) (by decide +kernel), by decide +kernel⟩⟩
theorem wX8_undo : ji_mw mX8_undo 0 := ⟨⟨List.mem_of_getElem? (i := 1780) (by decide +kernel), by decide +kernel⟩, ⟨List.mem_of_getElem? (i := 135) (by decide +kernel), by decide +kernel⟩, by decide, by decide, by decide +kernel, by decide, rfl⟩
theorem vX8_undo : ji_mv mX8_undo := ⟨⟨List.mem_of_getElem? (i := 1778) (by decide +kernel), by decide +kernel⟩, ⟨List.mem_of_getElem? (i := 1779) (by decide +kernel), by decide +kernel⟩⟩
theorem wX8_open : ji_mw mX8_open 3 := ⟨⟨List.mem_of_getElem? (i := 1804) (by decide +kernel), by decide +kernel⟩, ⟨List.mem_of_getElem? (i := 135) (by decide +kernel), by decide +kernel⟩, by decide, by decide, by decide +kernel, by decide, rfl⟩
theorem vX8_open : ji_mv mX8_open := ⟨⟨List.mem_of_getElem? (i := 1803) (by decide +kernel), by decide +kernel⟩, ⟨List.mem_of_getElem? (i := 115) (by decide +kernel), by decide +kernel⟩⟩
theorem wX8_listWords : ji_mw mX8_listWords 0 := ⟨⟨List.mem_of_getElem? (i := 1788) (by decide +kernel), by decide +kernel⟩, ⟨List.mem_of_getElem? (i := 135) (by decide +kernel), by decide +kernel⟩, by decide, by decide, by decide +kernel, by decide, rfl⟩
theorem vX8_listWords : ji_mv mX8_listWords := ⟨⟨List.mem_of_getElem? (i := 1787) (by decide +kernel), by decide +kernel⟩, ⟨List.mem_of_getElem? (i := 111) (by decide +kernel), by decide +kernel⟩⟩
theorem wX8_putIn : ji_mw mX8_putIn 2 := ⟨⟨List.mem_of_getElem? (i := 1796) (by decide +kernel), by decide +kernel⟩, ⟨List.mem_of_getElem? (i := 135) (by decide +kernel), by decide +kernel⟩, by decide, by decide, by decide +kernel, by decide, rfl⟩
theorem vX8_putIn : ji_mv mX8_putIn := ⟨⟨List.mem_of_getElem? (i := 1795) (by decide +kernel), by decide +kernel⟩, ⟨List.mem_of_getElem? (i := 113) (by decide +kernel), by decide +kernel⟩⟩
theorem wX8_insert : ji_mw mX8_insert 2 := ⟨⟨List.mem_of_getElem? (i := 1784) (by decide +kernel), by decide +kernel⟩, ⟨List.mem_of_getElem? (i := 135) (by decide +kernel), by decide +kernel⟩, by decide, by decide, by decide +kernel, by decide, rfl⟩
theorem vX8_insert : ji_mv mX8_insert := ⟨⟨List.mem_of_getElem? (i := 1782) (by decide +kernel), by decide +kernel⟩, ⟨List.mem_of_getElem? (i := 1783) (by decide +kernel), by decide +kernel⟩⟩
theorem wX8_behind : ji_mw mX8_behind 3 := ⟨⟨List.mem_of_getElem? (i := 1815) (by decide +kernel), by decide +kernel⟩, ⟨List.mem_of_getElem? (i := 135) (by decide +kernel), by decide +kernel⟩, by decide, by decide, by decide +kernel, by decide, rfl⟩
theorem sX8_behind : ji_in (.static yX8_behind) := ⟨List.mem_of_getElem? (i := 1814) (by decide +kernel), by decide +kernel⟩
theorem wX8_close : ji_mw mX8_close 3 := ⟨⟨List.mem_of_getElem? (i := 1812) (by decide +kernel), by decide +kernel⟩, ⟨List.mem_of_getElem? (i := 135) (by decide +kernel), by decide +kernel⟩, by decide, by decide, by decide +kernel, by decide, rfl⟩
theorem vX8_close : ji_mv mX8_close := ⟨⟨List.mem_of_getElem? (i := 1811) (by decide +kernel), by decide +kernel⟩, ⟨List.mem_of_getElem? (i := 116) (by decide +kernel), by decide +kernel⟩⟩
theorem wX8_delete : ji_mw mX8_delete 3 := ⟨⟨List.mem_of_getElem? (i := 1808) (by decide +kernel), by decide +kernel⟩, ⟨List.mem_of_getElem? (i := 135) (by decide +kernel), by decide +kernel⟩, by decide, by decide, by decide +kernel, by decide, rfl⟩
theorem vX8_delete : ji_mv mX8_delete := ⟨⟨List.mem_of_getElem? (i := 1806) (by decide +kernel), by decide +kernel⟩, ⟨List.mem_of_getElem? (i := 1807) (by decide +kernel), by decide +kernel⟩⟩
theorem wX8_renumber : ji_mw mX8_renumber 2 := ⟨⟨List.mem_of_getElem? (i := 1827) (by decide +kernel), by decide +kernel⟩, ⟨List.mem_of_getElem? (i := 135) (by decide +kernel), by decide +kernel⟩, by decide, by decide, by decide +kernel, by decide, rfl⟩
theorem vX8_renumber : ji_mv mX8_renumber := ⟨⟨List.mem_of_getElem? (i := 1826) (by decide +kernel), by decide +kernel⟩, ⟨List.mem_of_getElem? (i := 118) (by decide +kernel), by decide +kernel⟩⟩
theorem wX8_copyParagraph : ji_mw mX8_copyParagraph 2 := ⟨⟨List.mem_of_getElem? (i := 1831) (by decide +kernel), by decide +kernel⟩, ⟨List.mem_of_getElem? (i := 135) (by decide +kernel), by decide +kernel⟩, by decide, by decide, by decide +kernel, by decide, rfl⟩
theorem vX8_copyParagraph : ji_mv mX8_copyParagraph := ⟨⟨List.mem_of_getElem? (i := 1830) (by decide +kernel), by decide +kernel⟩, ⟨List.mem_of_getElem? (i := 119) (by decide +kernel), by decide +kernel⟩⟩
theorem wX8_splitAnnotation : ji_mw mX8_splitAnnotation 3 := ⟨⟨List.mem_of_getElem? (i := 1835) (by decide +kernel), by decide +kernel⟩, ⟨List.mem_of_getElem? (i := 135) (by decide +kernel), by decide +kernel⟩, by decide, by decide, by decide +kernel, by decide, rfl⟩
theorem vX8_splitAnnotation : ji_mv mX8_splitAnnotation := ⟨⟨List.mem_of_getElem? (i := 1834) (by decide +kernel), by decide +kernel⟩, ⟨List.mem_of_getElem? (i := 120) (by decide +kernel), by decide +kernel⟩⟩
theorem wX8_divide : ji_mw mX8_divide 2 := ⟨⟨List.mem_of_getElem? (i := 1823) (by decide +kernel), by decide +kernel⟩, ⟨List.mem_of_getElem? (i := 135) (by decide +kernel), by decide +kernel⟩, by decide, by decide, by decide +kernel, by decide, rfl⟩
theorem vX8_divide : ji_mv mX8_divide := ⟨⟨List.mem_of_getElem? (i := 1822) (by decide +kernel), by decide +kernel⟩, ⟨List.mem_of_getElem? (i := 117) (by decide +kernel), by decide +kernel⟩⟩
theorem wX8_split : ji_mw mX8_split 2 := ⟨⟨List.mem_of_getElem? (i := 1819) (by decide +kernel), by decide +kernel⟩, ⟨List.mem_of_getElem? (i := 135) (by decide +kernel), by decide +kernel⟩, by decide, by decide, by decide +kernel, by decide, rfl⟩
theorem vX8_split : ji_mv mX8_split := ⟨⟨List.mem_of_getElem? (i := 1817) (by decide +kernel), by decide +kernel⟩, ⟨List.mem_of_getElem? (i := 1818) (by decide +kernel), by decide +kernel⟩⟩
theorem wX8_unite : ji_mw mX8_unite 1 := ⟨⟨List.mem_of_getElem? (i := 1843) (by decide +kernel), by decide +kernel⟩, ⟨List.mem_of_getElem? (i := 135) (by decide +kernel), by decide +kernel⟩, by decide, by decide, by decide +kernel, by decide, rfl⟩
theorem vX8_unite : ji_mv mX8_unite := ⟨⟨List.mem_of_getElem? (i := 1842) (by decide +kernel), by decide +kernel⟩, ⟨List.mem_of_getElem? (i := 121) (by decide +kernel), by decide +kernel⟩⟩
theorem wX8_join : ji_mw mX8_join 1 := ⟨⟨List.mem_of_getElem? (i := 1839) (by decide +kernel), by decide +kernel⟩, ⟨List.mem_of_getElem? (i := 135) (by decide +kernel), by decide +kernel⟩, by decide, by decide, by decide +kernel, by decide, rfl⟩
theorem vX8_join : ji_mv mX8_join := ⟨⟨List.mem_of_getElem? (i := 1837) (by decide +kernel), by decide +kernel⟩, ⟨List.mem_of_getElem? (i := 1838) (by decide +kernel), by decide +kernel⟩⟩
theorem wX8_ifSize : ji_mw mX8_ifSize 3 := ⟨⟨List.mem_of_getElem? (i := 1847) (by decide +kernel), by decide +kernel⟩, ⟨List.mem_of_getElem? (i := 135) (by decide +kernel), by decide +kernel⟩, by decide, by decide, by decide +kernel, by decide, rfl⟩
theorem vX8_ifSize : ji_mv mX8_ifSize := ⟨⟨List.mem_of_getElem? (i := 1845) (by decide +kernel), by decide +kernel⟩, ⟨List.mem_of_getElem? (i := 1846) (by decide +kernel), by decide +kernel⟩⟩
theorem wX8_fitNow : ji_mw mX8_fitNow 1 := ⟨⟨List.mem_of_getElem? (i := 1855) (by decide +kernel), by decide +kernel⟩, ⟨List.mem_of_getElem? (i := 135) (by decide +kernel), by decide +kernel⟩, by decide, by decide, by decide +kernel, by decide, rfl⟩
theorem vX8_fitNow : ji_mv mX8_fitNow := ⟨⟨List.mem_of_getElem? (i := 1854) (by decide +kernel), by decide +kernel⟩, ⟨List.mem_of_getElem? (i := 122) (by decide +kernel), by decide +kernel⟩⟩
theorem wX8_fit : ji_mw mX8_fit 1 := ⟨⟨List.mem_of_getElem? (i := 1851) (by decide +kernel), by decide +kernel⟩, ⟨List.mem_of_getElem? (i := 135) (by decide +kernel), by decide +kernel⟩, by decide, by decide, by decide +kernel, by decide, rfl⟩
theorem vX8_fit : ji_mv mX8_fit := ⟨⟨List.mem_of_getElem? (i := 1849) (by decide +kernel), by decide +kernel⟩, ⟨List.mem_of_getElem? (i := 1850) (by decide +kernel), by decide +kernel⟩⟩
theorem wX8_fullness : ji_mw mX8_fullness 0 := ⟨⟨List.mem_of_getElem? (i := 1859) (by decide +kernel), by decide +kernel⟩, ⟨List.mem_of_getElem? (i := 135) (by decide +kernel), by decide +kernel⟩, by decide, by decide, by decide +kernel, by decide, rfl⟩
theorem vX8_fullness : ji_mv mX8_fullness := ⟨⟨List.mem_of_getElem? (i := 1857) (by decide +kernel), by decide +kernel⟩, ⟨List.mem_of_getElem? (i := 1858) (by decide +kernel), by decide +kernel⟩⟩
theorem wX8_mix : ji_mw mX8_mix 1 := ⟨⟨List.mem_of_getElem? (i := 1868) (by decide +kernel), by decide +kernel⟩, ⟨List.mem_of_getElem? (i := 135) (by decide +kernel), by decide +kernel⟩, by decide, by decide, by decide +kernel, by decide, rfl⟩
theorem vX8_mix : ji_mv mX8_mix := ⟨⟨List.mem_of_getElem? (i := 1867) (by decide +kernel), by decide +kernel⟩, ⟨List.mem_of_getElem? (i := 123) (by decide +kernel), by decide +kernel⟩⟩
theorem wX8_mixParagraphs : ji_mw mX8_mixParagraphs 0 := ⟨⟨List.mem_of_getElem? (i := 1873) (by decide +kernel), by decide +kernel⟩, ⟨List.mem_of_getElem? (i := 135) (by decide +kernel), by decide +kernel⟩, by decide, by decide, by decide +kernel, by decide, rfl⟩
theorem vX8_mixParagraphs : ji_mv mX8_mixParagraphs := ⟨⟨List.mem_of_getElem? (i := 1872) (by decide +kernel), by decide +kernel⟩, ⟨List.mem_of_getElem? (i := 124) (by decide +kernel), by decide +kernel⟩⟩
theorem wX8_mixLayout : ji_mw mX8_mixLayout 0 := ⟨⟨List.mem_of_getElem? (i := 1877) (by decide +kernel), by decide +kernel⟩, ⟨List.mem_of_getElem? (i := 135) (by decide +kernel), by decide +kernel⟩, by decide, by decide, by decide +kernel, by decide, rfl⟩
theorem vX8_mixLayout : ji_mv mX8_mixLayout := ⟨⟨List.mem_of_getElem? (i := 1876) (by decide +kernel), by decide +kernel⟩, ⟨List.mem_of_getElem? (i := 125) (by decide +kernel), by decide +kernel⟩⟩
theorem wX8_digest : ji_mw mX8_digest 0 := ⟨⟨List.mem_of_getElem? (i := 1863) (by decide +kernel), by decide +kernel⟩, ⟨List.mem_of_getElem? (i := 135) (by decide +kernel), by decide +kernel⟩, by decide, by decide, by decide +kernel, by decide, rfl⟩
theorem vX8_digest : ji_mv mX8_digest := ⟨⟨List.mem_of_getElem? (i := 1861) (by decide +kernel), by decide +kernel⟩, ⟨List.mem_of_getElem? (i := 1862) (by decide +kernel), by decide +kernel⟩⟩
theorem sL_append : ji_in (.static yL_append) := ⟨List.mem_of_getElem? (i := 787) (by decide +kernel), by decide +kernel⟩
theorem sL_load : ji_in (.static yL_load) := ⟨List.mem_of_getElem? (i := 888) (by decide +kernel), by decide +kernel⟩
theorem sL_setNote : ji_in (.static yL_setNote) := ⟨List.mem_of_getElem? (i := 925) (by decide +kernel), by decide +kernel⟩
theorem sL_removeNote : ji_in (.static yL_removeNote) := ⟨List.mem_of_getElem? (i := 965) (by decide +kernel), by decide +kernel⟩
theorem sL_setSize : ji_in (.static yL_setSize) := ⟨List.mem_of_getElem? (i := 973) (by decide +kernel), by decide +kernel⟩
theorem sL_setStyle : ji_in (.static yL_setStyle) := ⟨List.mem_of_getElem? (i := 985) (by decide +kernel), by decide +kernel⟩
theorem sL_page : ji_in (.static yL_page) := ⟨List.mem_of_getElem? (i := 996) (by decide +kernel), by decide +kernel⟩
theorem sL_line : ji_in (.static yL_line) := ⟨List.mem_of_getElem? (i := 1012) (by decide +kernel), by decide +kernel⟩
theorem sL_shown : ji_in (.static yL_shown) := ⟨List.mem_of_getElem? (i := 1024) (by decide +kernel), by decide +kernel⟩
theorem sL_noteOn : ji_in (.static yL_noteOn) := ⟨List.mem_of_getElem? (i := 1051) (by decide +kernel), by decide +kernel⟩
theorem sL_pageOf : ji_in (.static yL_pageOf) := ⟨List.mem_of_getElem? (i := 1063) (by decide +kernel), by decide +kernel⟩
theorem sL_floating : ji_in (.static yL_floating) := ⟨List.mem_of_getElem? (i := 1080) (by decide +kernel), by decide +kernel⟩
theorem sL_go : ji_in (.static yL_go) := ⟨List.mem_of_getElem? (i := 1092) (by decide +kernel), by decide +kernel⟩
theorem sL_back : ji_in (.static yL_back) := ⟨List.mem_of_getElem? (i := 1106) (by decide +kernel), by decide +kernel⟩
theorem sL_find : ji_in (.static yL_find) := ⟨List.mem_of_getElem? (i := 1118) (by decide +kernel), by decide +kernel⟩
theorem sL_count : ji_in (.static yL_count) := ⟨List.mem_of_getElem? (i := 1141) (by decide +kernel), by decide +kernel⟩
theorem sL_paragraph : ji_in (.static yL_paragraph) := ⟨List.mem_of_getElem? (i := 1148) (by decide +kernel), by decide +kernel⟩
theorem sL_letter : ji_in (.static yL_letter) := ⟨List.mem_of_getElem? (i := 1155) (by decide +kernel), by decide +kernel⟩
theorem sL_annotate : ji_in (.static yL_annotate) := ⟨List.mem_of_getElem? (i := 1162) (by decide +kernel), by decide +kernel⟩
theorem sL_annotation : ji_in (.static yL_annotation) := ⟨List.mem_of_getElem? (i := 1176) (by decide +kernel), by decide +kernel⟩
theorem sL_removeAnnotation : ji_in (.static yL_removeAnnotation) := ⟨List.mem_of_getElem? (i := 1188) (by decide +kernel), by decide +kernel⟩
theorem sL_insert : ji_in (.static yL_insert) := ⟨List.mem_of_getElem? (i := 1199) (by decide +kernel), by decide +kernel⟩
theorem sL_delete : ji_in (.static yL_delete) := ⟨List.mem_of_getElem? (i := 1261) (by decide +kernel), by decide +kernel⟩
theorem sL_split : ji_in (.static yL_split) := ⟨List.mem_of_getElem? (i := 1281) (by decide +kernel), by decide +kernel⟩
theorem sL_join : ji_in (.static yL_join) := ⟨List.mem_of_getElem? (i := 1299) (by decide +kernel), by decide +kernel⟩
theorem sL_undo : ji_in (.static yL_undo) := ⟨List.mem_of_getElem? (i := 1311) (by decide +kernel), by decide +kernel⟩
theorem sL_ifSize : ji_in (.static yL_ifSize) := ⟨List.mem_of_getElem? (i := 1327) (by decide +kernel), by decide +kernel⟩
theorem sL_fit : ji_in (.static yL_fit) := ⟨List.mem_of_getElem? (i := 1334) (by decide +kernel), by decide +kernel⟩
theorem lX7_3 : ji_in (.methodLink "BookPager" 3 ⟨"java/lang/Object", "<init>", "()V"⟩) := ⟨List.mem_of_getElem? (i := 150) (by decide +kernel), by decide +kernel⟩
theorem lX7_9 : ji_in (.classLink "BookPager" 9 "BookPager$Input") := ⟨List.mem_of_getElem? (i := 153) (by decide +kernel), by decide +kernel⟩
theorem lX7_12 : ji_in (.fieldLink "BookPager" 12 "BookPager" "input" "LBookPager$Input;") := ⟨List.mem_of_getElem? (i := 334) (by decide +kernel), by decide +kernel⟩
theorem lX7_16 : ji_in (.classLink "BookPager" 16 "BookPager$Words") := ⟨List.mem_of_getElem? (i := 198) (by decide +kernel), by decide +kernel⟩
theorem lX7_18 : ji_in (.fieldLink "BookPager" 18 "BookPager" "notes" "[LBookPager$Words;") := ⟨List.mem_of_getElem? (i := 335) (by decide +kernel), by decide +kernel⟩
theorem lX7_22 : ji_in (.fieldLink "BookPager" 22 "BookPager" "style" "[I") := ⟨List.mem_of_getElem? (i := 336) (by decide +kernel), by decide +kernel⟩
theorem lX7_26 : ji_in (.fieldLink "BookPager" 26 "BookPager" "width" "I") := ⟨List.mem_of_getElem? (i := 337) (by decide +kernel), by decide +kernel⟩
theorem lX7_30 : ji_in (.fieldLink "BookPager" 30 "BookPager" "height" "I") := ⟨List.mem_of_getElem? (i := 338) (by decide +kernel), by decide +kernel⟩
theorem lX7_33 : ji_in (.classLink "BookPager" 33 "BookPager$Book") := ⟨List.mem_of_getElem? (i := 200) (by decide +kernel), by decide +kernel⟩
theorem lX7_35 : ji_in (.methodLink "BookPager" 35 ⟨"BookPager$Words", "<init>", "([C)V"⟩) := ⟨List.mem_of_getElem? (i := 203) (by decide +kernel), by decide +kernel⟩
theorem lX7_38 : ji_in (.methodLink "BookPager" 38 ⟨"BookPager$Book", "<init>", "(LBookPager$Words;[I[I)V"⟩) := ⟨List.mem_of_getElem? (i := 215) (by decide +kernel), by decide +kernel⟩
theorem lX7_41 : ji_in (.fieldLink "BookPager" 41 "BookPager" "book" "LBookPager$Book;") := ⟨List.mem_of_getElem? (i := 339) (by decide +kernel), by decide +kernel⟩
theorem lX7_45 : ji_in (.classLink "BookPager" 45 "BookPager$Marks") := ⟨List.mem_of_getElem? (i := 229) (by decide +kernel), by decide +kernel⟩
theorem lX7_48 : ji_in (.fieldLink "BookPager" 48 "BookPager" "marks" "LBookPager$Marks;") := ⟨List.mem_of_getElem? (i := 340) (by decide +kernel), by decide +kernel⟩
theorem lX7_52 : ji_in (.classLink "BookPager" 52 "BookPager$History") := ⟨List.mem_of_getElem? (i := 257) (by decide +kernel), by decide +kernel⟩
theorem lX7_54 : ji_in (.methodLink "BookPager" 54 ⟨"BookPager$History", "<init>", "()V"⟩) := ⟨List.mem_of_getElem? (i := 259) (by decide +kernel), by decide +kernel⟩
theorem lX7_55 : ji_in (.fieldLink "BookPager" 55 "BookPager" "history" "LBookPager$History;") := ⟨List.mem_of_getElem? (i := 341) (by decide +kernel), by decide +kernel⟩
theorem lX7_59 : ji_in (.classLink "BookPager" 59 "BookPager$Layout") := ⟨List.mem_of_getElem? (i := 278) (by decide +kernel), by decide +kernel⟩
theorem lX7_61 : ji_in (.methodLink "BookPager" 61 ⟨"BookPager$Layout", "<init>", "(LBookPager$Book;[LBookPager$Words;[I)V"⟩) := ⟨List.mem_of_getElem? (i := 280) (by decide +kernel), by decide +kernel⟩
theorem lX7_64 : ji_in (.fieldLink "BookPager" 64 "BookPager" "layout" "LBookPager$Layout;") := ⟨List.mem_of_getElem? (i := 342) (by decide +kernel), by decide +kernel⟩
theorem lX7_68 : ji_in (.fieldLink "BookPager" 68 "BookPager" "trial" "LBookPager$Layout;") := ⟨List.mem_of_getElem? (i := 343) (by decide +kernel), by decide +kernel⟩
theorem lX7_71 : ji_in (.fieldLink "BookPager" 71 "BookPager" "stale" "Z") := ⟨List.mem_of_getElem? (i := 344) (by decide +kernel), by decide +kernel⟩
theorem lX7_75 : ji_in (.classLink "BookPager" 75 "java/lang/IllegalArgumentException") := ⟨List.mem_of_getElem? (i := 795) (by decide +kernel), by decide +kernel⟩
theorem lX7_79 : ji_in (.methodLink "BookPager" 79 ⟨"java/lang/IllegalArgumentException", "<init>", "(Ljava/lang/String;)V"⟩) := ⟨List.mem_of_getElem? (i := 837) (by decide +kernel), by decide +kernel⟩
theorem lX7_82 : ji_in (.methodLink "BookPager" 82 ⟨"BookPager$Input", "isFull", "()Z"⟩) := ⟨List.mem_of_getElem? (i := 863) (by decide +kernel), by decide +kernel⟩
theorem lX7_86 : ji_in (.classLink "BookPager" 86 "java/lang/IllegalStateException") := ⟨List.mem_of_getElem? (i := 867) (by decide +kernel), by decide +kernel⟩
theorem lX7_90 : ji_in (.methodLink "BookPager" 90 ⟨"java/lang/IllegalStateException", "<init>", "(Ljava/lang/String;)V"⟩) := ⟨List.mem_of_getElem? (i := 877) (by decide +kernel), by decide +kernel⟩
theorem lX7_91 : ji_in (.methodLink "BookPager" 91 ⟨"BookPager$Input", "put", "(C)V"⟩) := ⟨List.mem_of_getElem? (i := 883) (by decide +kernel), by decide +kernel⟩
theorem lX7_95 : ji_in (.methodLink "BookPager" 95 ⟨"BookPager$Input", "length", "()I"⟩) := ⟨List.mem_of_getElem? (i := 372) (by decide +kernel), by decide +kernel⟩
theorem lX7_99 : ji_in (.methodLink "BookPager" 99 ⟨"BookPager$Input", "empty", "()V"⟩) := ⟨List.mem_of_getElem? (i := 376) (by decide +kernel), by decide +kernel⟩
theorem lX7_102 : ji_in (.methodLink "BookPager" 102 ⟨"BookPager$Input", "firstFault", "(Z)I"⟩) := ⟨List.mem_of_getElem? (i := 384) (by decide +kernel), by decide +kernel⟩
theorem lX7_106 : ji_in (.methodLink "BookPager" 106 ⟨"BookPager$Input", "isWhole", "(Z)Z"⟩) := ⟨List.mem_of_getElem? (i := 894) (by decide +kernel), by decide +kernel⟩
theorem lX7_112 : ji_in (.methodLink "BookPager" 112 ⟨"BookPager$Input", "toBook", "()LBookPager$Book;"⟩) := ⟨List.mem_of_getElem? (i := 904) (by decide +kernel), by decide +kernel⟩
theorem lX7_116 : ji_in (.methodLink "BookPager" 116 ⟨"BookPager$Marks", "reset", "()V"⟩) := ⟨List.mem_of_getElem? (i := 916) (by decide +kernel), by decide +kernel⟩
theorem lX7_119 : ji_in (.methodLink "BookPager" 119 ⟨"BookPager$History", "forget", "()V"⟩) := ⟨List.mem_of_getElem? (i := 920) (by decide +kernel), by decide +kernel⟩
theorem lX7_122 : ji_in (.methodLink "BookPager" 122 ⟨"BookPager$Book", "paragraphs", "()I"⟩) := ⟨List.mem_of_getElem? (i := 614) (by decide +kernel), by decide +kernel⟩
theorem lX7_125 : ji_in (.methodLink "BookPager" 125 ⟨"BookPager", "checkNote", "(I)V"⟩) := ⟨List.mem_of_getElem? (i := 932) (by decide +kernel), by decide +kernel⟩
theorem lX7_129 : ji_in (.methodLink "BookPager" 129 ⟨"BookPager", "checkWordList", "()V"⟩) := ⟨List.mem_of_getElem? (i := 951) (by decide +kernel), by decide +kernel⟩
theorem lX7_132 : ji_in (.methodLink "BookPager" 132 ⟨"BookPager", "wordsOfNote", "(I)I"⟩) := ⟨List.mem_of_getElem? (i := 777) (by decide +kernel), by decide +kernel⟩
theorem lX7_136 : ji_in (.methodLink "BookPager" 136 ⟨"BookPager$Input", "toNote", "(I)LBookPager$Words;"⟩) := ⟨List.mem_of_getElem? (i := 956) (by decide +kernel), by decide +kernel⟩
theorem lX7_142 : ji_in (.methodLink "BookPager" 142 ⟨"BookPager", "checkSize", "(II)V"⟩) := ⟨List.mem_of_getElem? (i := 979) (by decide +kernel), by decide +kernel⟩
theorem lX7_146 : ji_in (.methodLink "BookPager" 146 ⟨"BookPager", "refresh", "()V"⟩) := ⟨List.mem_of_getElem? (i := 418) (by decide +kernel), by decide +kernel⟩
theorem lX7_149 : ji_in (.methodLink "BookPager" 149 ⟨"BookPager$Layout", "pages", "()I"⟩) := ⟨List.mem_of_getElem? (i := 569) (by decide +kernel), by decide +kernel⟩
theorem lX7_152 : ji_in (.fieldLink "BookPager" 152 "BookPager" "STYLE_LIMITS" "[I") := ⟨List.mem_of_getElem? (i := 991) (by decide +kernel), by decide +kernel⟩
theorem lX7_159 : ji_in (.methodLink "BookPager" 159 ⟨"BookPager", "checkPage", "(I)V"⟩) := ⟨List.mem_of_getElem? (i := 1002) (by decide +kernel), by decide +kernel⟩
theorem lX7_162 : ji_in (.methodLink "BookPager" 162 ⟨"BookPager", "checkWhat", "(II)V"⟩) := ⟨List.mem_of_getElem? (i := 1007) (by decide +kernel), by decide +kernel⟩
theorem lX7_165 : ji_in (.methodLink "BookPager" 165 ⟨"BookPager", "pageProperty", "(II)I"⟩) := ⟨List.mem_of_getElem? (i := 745) (by decide +kernel), by decide +kernel⟩
theorem lX7_169 : ji_in (.methodLink "BookPager" 169 ⟨"BookPager", "checkLine", "(I)V"⟩) := ⟨List.mem_of_getElem? (i := 1018) (by decide +kernel), by decide +kernel⟩
theorem lX7_172 : ji_in (.methodLink "BookPager" 172 ⟨"BookPager", "lineProperty", "(II)I"⟩) := ⟨List.mem_of_getElem? (i := 720) (by decide +kernel), by decide +kernel⟩
theorem lX7_177 : ji_in (.methodLink "BookPager" 177 ⟨"BookPager$Layout", "signAt", "(III)I"⟩) := ⟨List.mem_of_getElem? (i := 1031) (by decide +kernel), by decide +kernel⟩
theorem lX7_181 : ji_in (.methodLink "BookPager" 181 ⟨"BookPager$Layout", "noteOnPage", "(II)I"⟩) := ⟨List.mem_of_getElem? (i := 1057) (by decide +kernel), by decide +kernel⟩
theorem lX7_184 : ji_in (.classLink "BookPager" 184 "java/lang/IndexOutOfBoundsException") := ⟨List.mem_of_getElem? (i := 935) (by decide +kernel), by decide +kernel⟩
theorem lX7_188 : ji_in (.methodLink "BookPager" 188 ⟨"java/lang/IndexOutOfBoundsException", "<init>", "(Ljava/lang/String;)V"⟩) := ⟨List.mem_of_getElem? (i := 945) (by decide +kernel), by decide +kernel⟩
theorem lX7_189 : ji_in (.methodLink "BookPager" 189 ⟨"BookPager", "checkOffset", "(II)V"⟩) := ⟨List.mem_of_getElem? (i := 1069) (by decide +kernel), by decide +kernel⟩
theorem lX7_192 : ji_in (.methodLink "BookPager" 192 ⟨"BookPager$Book", "startOf", "(I)I"⟩) := ⟨List.mem_of_getElem? (i := 713) (by decide +kernel), by decide +kernel⟩
theorem lX7_195 : ji_in (.methodLink "BookPager" 195 ⟨"BookPager$Layout", "pageAt", "(I)I"⟩) := ⟨List.mem_of_getElem? (i := 556) (by decide +kernel), by decide +kernel⟩
theorem lX7_198 : ji_in (.methodLink "BookPager" 198 ⟨"BookPager$Layout", "breakFrom", "(I)I"⟩) := ⟨List.mem_of_getElem? (i := 1086) (by decide +kernel), by decide +kernel⟩
theorem lX7_201 : ji_in (.methodLink "BookPager" 201 ⟨"BookPager$Layout", "farthestBefore", "(I)I"⟩) := ⟨List.mem_of_getElem? (i := 1087) (by decide +kernel), by decide +kernel⟩
theorem lX7_204 : ji_in (.methodLink "BookPager" 204 ⟨"BookPager$Marks", "jumpTo", "(I)V"⟩) := ⟨List.mem_of_getElem? (i := 1098) (by decide +kernel), by decide +kernel⟩
theorem lX7_207 : ji_in (.methodLink "BookPager" 207 ⟨"BookPager", "presentPage", "()I"⟩) := ⟨List.mem_of_getElem? (i := 548) (by decide +kernel), by decide +kernel⟩
theorem lX7_210 : ji_in (.methodLink "BookPager" 210 ⟨"BookPager$Layout", "placeOfPage", "(I)I"⟩) := ⟨List.mem_of_getElem? (i := 573) (by decide +kernel), by decide +kernel⟩
theorem lX7_213 : ji_in (.methodLink "BookPager" 213 ⟨"BookPager$Marks", "setReader", "(I)V"⟩) := ⟨List.mem_of_getElem? (i := 581) (by decide +kernel), by decide +kernel⟩
theorem lX7_216 : ji_in (.methodLink "BookPager" 216 ⟨"BookPager$Marks", "jumps", "()I"⟩) := ⟨List.mem_of_getElem? (i := 668) (by decide +kernel), by decide +kernel⟩
theorem lX7_221 : ji_in (.methodLink "BookPager" 221 ⟨"BookPager$Marks", "jumpBack", "()V"⟩) := ⟨List.mem_of_getElem? (i := 1113) (by decide +kernel), by decide +kernel⟩
theorem lX7_224 : ji_in (.methodLink "BookPager" 224 ⟨"BookPager", "wordBehindReader", "()I"⟩) := ⟨List.mem_of_getElem? (i := 1124) (by decide +kernel), by decide +kernel⟩
theorem lX7_227 : ji_in (.methodLink "BookPager" 227 ⟨"BookPager", "wordBeforeReader", "()I"⟩) := ⟨List.mem_of_getElem? (i := 1136) (by decide +kernel), by decide +kernel⟩
theorem lX7_230 : ji_in (.methodLink "BookPager" 230 ⟨"BookPager$Book", "words", "()LBookPager$Words;"⟩) := ⟨List.mem_of_getElem? (i := 615) (by decide +kernel), by decide +kernel⟩
theorem lX7_234 : ji_in (.methodLink "BookPager" 234 ⟨"BookPager$Words", "startOf", "(I)I"⟩) := ⟨List.mem_of_getElem? (i := 1128) (by decide +kernel), by decide +kernel⟩
theorem lX7_235 : ji_in (.methodLink "BookPager" 235 ⟨"BookPager$Book", "positionOf", "(I)I"⟩) := ⟨List.mem_of_getElem? (i := 630) (by decide +kernel), by decide +kernel⟩
theorem lX7_238 : ji_in (.methodLink "BookPager" 238 ⟨"BookPager", "countOf", "(I)I"⟩) := ⟨List.mem_of_getElem? (i := 610) (by decide +kernel), by decide +kernel⟩
theorem lX7_241 : ji_in (.methodLink "BookPager" 241 ⟨"BookPager", "checkParagraph", "(I)V"⟩) := ⟨List.mem_of_getElem? (i := 1073) (by decide +kernel), by decide +kernel⟩
theorem lX7_244 : ji_in (.methodLink "BookPager" 244 ⟨"BookPager", "paragraphProperty", "(II)I"⟩) := ⟨List.mem_of_getElem? (i := 692) (by decide +kernel), by decide +kernel⟩
theorem lX7_247 : ji_in (.methodLink "BookPager" 247 ⟨"BookPager$Words", "signAt", "(I)I"⟩) := ⟨List.mem_of_getElem? (i := 715) (by decide +kernel), by decide +kernel⟩
theorem lX7_249 : ji_in (.methodLink "BookPager" 249 ⟨"BookPager$Book", "lengthOf", "(I)I"⟩) := ⟨List.mem_of_getElem? (i := 701) (by decide +kernel), by decide +kernel⟩
theorem lX7_256 : ji_in (.methodLink "BookPager" 256 ⟨"BookPager$Marks", "annotations", "()I"⟩) := ⟨List.mem_of_getElem? (i := 644) (by decide +kernel), by decide +kernel⟩
theorem lX7_261 : ji_in (.methodLink "BookPager" 261 ⟨"BookPager$Marks", "addAnnotation", "(III)I"⟩) := ⟨List.mem_of_getElem? (i := 1171) (by decide +kernel), by decide +kernel⟩
theorem lX7_264 : ji_in (.methodLink "BookPager" 264 ⟨"BookPager", "checkAnnotation", "(I)V"⟩) := ⟨List.mem_of_getElem? (i := 1182) (by decide +kernel), by decide +kernel⟩
theorem lX7_267 : ji_in (.methodLink "BookPager" 267 ⟨"BookPager", "annotationProperty", "(II)I"⟩) := ⟨List.mem_of_getElem? (i := 765) (by decide +kernel), by decide +kernel⟩
theorem lX7_270 : ji_in (.methodLink "BookPager" 270 ⟨"BookPager$Marks", "dropAnnotation", "(I)V"⟩) := ⟨List.mem_of_getElem? (i := 1194) (by decide +kernel), by decide +kernel⟩
theorem lX7_273 : ji_in (.methodLink "BookPager" 273 ⟨"BookPager$Book", "wordsOf", "(I)I"⟩) := ⟨List.mem_of_getElem? (i := 697) (by decide +kernel), by decide +kernel⟩
theorem lX7_278 : ji_in (.methodLink "BookPager" 278 ⟨"BookPager$Input", "wordsOfList", "()I"⟩) := ⟨List.mem_of_getElem? (i := 1206) (by decide +kernel), by decide +kernel⟩
theorem lX7_283 : ji_in (.methodLink "BookPager" 283 ⟨"BookPager$History", "keep", "(LBookPager$Book;LBookPager$Marks;)V"⟩) := ⟨List.mem_of_getElem? (i := 1211) (by decide +kernel), by decide +kernel⟩
theorem lX7_287 : ji_in (.methodLink "BookPager" 287 ⟨"BookPager$Book", "endOf", "(I)I"⟩) := ⟨List.mem_of_getElem? (i := 714) (by decide +kernel), by decide +kernel⟩
theorem lX7_290 : ji_in (.methodLink "BookPager" 290 ⟨"BookPager$Book", "placeOfWord", "(II)I"⟩) := ⟨List.mem_of_getElem? (i := 1223) (by decide +kernel), by decide +kernel⟩
theorem lX7_293 : ji_in (.methodLink "BookPager" 293 ⟨"BookPager$Input", "padded", "(II)[C"⟩) := ⟨List.mem_of_getElem? (i := 1227) (by decide +kernel), by decide +kernel⟩
theorem lX7_297 : ji_in (.methodLink "BookPager" 297 ⟨"BookPager$Book", "withInserted", "(II[C)LBookPager$Book;"⟩) := ⟨List.mem_of_getElem? (i := 1228) (by decide +kernel), by decide +kernel⟩
theorem lX7_301 : ji_in (.methodLink "BookPager" 301 ⟨"BookPager$Marks", "openGap", "(II)V"⟩) := ⟨List.mem_of_getElem? (i := 1253) (by decide +kernel), by decide +kernel⟩
theorem lX7_308 : ji_in (.methodLink "BookPager" 308 ⟨"BookPager$Book", "withDeleted", "(III)LBookPager$Book;"⟩) := ⟨List.mem_of_getElem? (i := 1269) (by decide +kernel), by decide +kernel⟩
theorem lX7_312 : ji_in (.methodLink "BookPager" 312 ⟨"BookPager$Marks", "closeGap", "(III)V"⟩) := ⟨List.mem_of_getElem? (i := 1273) (by decide +kernel), by decide +kernel⟩
theorem lX7_320 : ji_in (.methodLink "BookPager" 320 ⟨"BookPager$Marks", "cutAt", "(I)V"⟩) := ⟨List.mem_of_getElem? (i := 1289) (by decide +kernel), by decide +kernel⟩
theorem lX7_323 : ji_in (.methodLink "BookPager" 323 ⟨"BookPager$Book", "withSplit", "(II)LBookPager$Book;"⟩) := ⟨List.mem_of_getElem? (i := 1293) (by decide +kernel), by decide +kernel⟩
theorem lX7_329 : ji_in (.methodLink "BookPager" 329 ⟨"BookPager$Book", "withJoined", "(I)LBookPager$Book;"⟩) := ⟨List.mem_of_getElem? (i := 1306) (by decide +kernel), by decide +kernel⟩
theorem lX7_333 : ji_in (.methodLink "BookPager" 333 ⟨"BookPager$History", "latestBook", "()LBookPager$Book;"⟩) := ⟨List.mem_of_getElem? (i := 1317) (by decide +kernel), by decide +kernel⟩
theorem lX7_338 : ji_in (.methodLink "BookPager" 338 ⟨"BookPager$History", "bringBack", "(LBookPager$Marks;)V"⟩) := ⟨List.mem_of_getElem? (i := 1322) (by decide +kernel), by decide +kernel⟩
theorem lX7_342 : ji_in (.methodLink "BookPager" 342 ⟨"BookPager$History", "edits", "()I"⟩) := ⟨List.mem_of_getElem? (i := 672) (by decide +kernel), by decide +kernel⟩
theorem lX7_345 : ji_in (.methodLink "BookPager" 345 ⟨"BookPager$Layout", "lay", "(LBookPager$Book;II)V"⟩) := ⟨List.mem_of_getElem? (i := 422) (by decide +kernel), by decide +kernel⟩
theorem lX7_349 : ji_in (.methodLink "BookPager" 349 ⟨"BookPager$Layout", "lines", "()I"⟩) := ⟨List.mem_of_getElem? (i := 626) (by decide +kernel), by decide +kernel⟩
theorem lX7_352 : ji_in (.methodLink "BookPager" 352 ⟨"BookPager$Marks", "reader", "()I"⟩) := ⟨List.mem_of_getElem? (i := 552) (by decide +kernel), by decide +kernel⟩
theorem lX7_357 : ji_in (.methodLink "BookPager" 357 ⟨"BookPager$Layout", "rowsOfPage", "(I)I"⟩) := ⟨List.mem_of_getElem? (i := 589) (by decide +kernel), by decide +kernel⟩
theorem lX7_360 : ji_in (.methodLink "BookPager" 360 ⟨"BookPager$Layout", "noteRowsOfPage", "(I)I"⟩) := ⟨List.mem_of_getElem? (i := 597) (by decide +kernel), by decide +kernel⟩
theorem lX7_363 : ji_in (.constantLong "BookPager" 363 1931) := ⟨List.mem_of_getElem? (i := 609) (by decide +kernel), by decide +kernel⟩
theorem lX7_365 : ji_in (.methodLink "BookPager" 365 ⟨"BookPager", "mixed", "(JI)J"⟩) := ⟨List.mem_of_getElem? (i := 684) (by decide +kernel), by decide +kernel⟩
theorem lX7_369 : ji_in (.methodLink "BookPager" 369 ⟨"BookPager", "mixedParagraphs", "(J)J"⟩) := ⟨List.mem_of_getElem? (i := 688) (by decide +kernel), by decide +kernel⟩
theorem lX7_373 : ji_in (.methodLink "BookPager" 373 ⟨"BookPager", "mixedLines", "(J)J"⟩) := ⟨List.mem_of_getElem? (i := 716) (by decide +kernel), by decide +kernel⟩
theorem lX7_376 : ji_in (.methodLink "BookPager" 376 ⟨"BookPager", "mixedPages", "(J)J"⟩) := ⟨List.mem_of_getElem? (i := 741) (by decide +kernel), by decide +kernel⟩
theorem lX7_379 : ji_in (.methodLink "BookPager" 379 ⟨"BookPager", "mixedAnnotations", "(J)J"⟩) := ⟨List.mem_of_getElem? (i := 761) (by decide +kernel), by decide +kernel⟩
theorem lX7_382 : ji_in (.methodLink "BookPager" 382 ⟨"BookPager", "mixedInput", "(J)J"⟩) := ⟨List.mem_of_getElem? (i := 781) (by decide +kernel), by decide +kernel⟩
theorem lX7_385 : ji_in (.constantLong "BookPager" 385 31) := ⟨List.mem_of_getElem? (i := 687) (by decide +kernel), by decide +kernel⟩
theorem lX7_387 : ji_in (.methodLink "BookPager" 387 ⟨"BookPager$Input", "signAt", "(I)C"⟩) := ⟨List.mem_of_getElem? (i := 785) (by decide +kernel), by decide +kernel⟩
theorem lX7_390 : ji_in (.methodLink "BookPager" 390 ⟨"BookPager$Words", "size", "()I"⟩) := ⟨List.mem_of_getElem? (i := 616) (by decide +kernel), by decide +kernel⟩
theorem lX7_393 : ji_in (.methodLink "BookPager" 393 ⟨"BookPager$Book", "characters", "()I"⟩) := ⟨List.mem_of_getElem? (i := 617) (by decide +kernel), by decide +kernel⟩
theorem lX7_396 : ji_in (.methodLink "BookPager" 396 ⟨"BookPager$Marks", "lostAnnotations", "()I"⟩) := ⟨List.mem_of_getElem? (i := 648) (by decide +kernel), by decide +kernel⟩
theorem lX7_399 : ji_in (.methodLink "BookPager" 399 ⟨"BookPager", "thousandthsRead", "()I"⟩) := ⟨List.mem_of_getElem? (i := 676) (by decide +kernel), by decide +kernel⟩
theorem lX7_402 : ji_in (.methodLink "BookPager" 402 ⟨"BookPager$Book", "charactersBefore", "(I)I"⟩) := ⟨List.mem_of_getElem? (i := 680) (by decide +kernel), by decide +kernel⟩
theorem lX7_405 : ji_in (.methodLink "BookPager" 405 ⟨"BookPager$Book", "kindOf", "(I)I"⟩) := ⟨List.mem_of_getElem? (i := 696) (by decide +kernel), by decide +kernel⟩
theorem lX7_408 : ji_in (.methodLink "BookPager" 408 ⟨"BookPager$Layout", "linesOfParagraph", "(I)I"⟩) := ⟨List.mem_of_getElem? (i := 709) (by decide +kernel), by decide +kernel⟩
theorem lX7_411 : ji_in (.methodLink "BookPager" 411 ⟨"BookPager$Layout", "paragraphOfLine", "(I)I"⟩) := ⟨List.mem_of_getElem? (i := 724) (by decide +kernel), by decide +kernel⟩
theorem lX7_414 : ji_in (.methodLink "BookPager" 414 ⟨"BookPager$Layout", "firstWordOfLine", "(I)I"⟩) := ⟨List.mem_of_getElem? (i := 725) (by decide +kernel), by decide +kernel⟩
theorem lX7_417 : ji_in (.methodLink "BookPager" 417 ⟨"BookPager$Book", "firstWordOf", "(I)I"⟩) := ⟨List.mem_of_getElem? (i := 726) (by decide +kernel), by decide +kernel⟩
theorem lX7_420 : ji_in (.methodLink "BookPager" 420 ⟨"BookPager$Layout", "columnsOfLine", "(I)I"⟩) := ⟨List.mem_of_getElem? (i := 727) (by decide +kernel), by decide +kernel⟩
theorem lX7_423 : ji_in (.methodLink "BookPager" 423 ⟨"BookPager$Layout", "pageOfLine", "(I)I"⟩) := ⟨List.mem_of_getElem? (i := 736) (by decide +kernel), by decide +kernel⟩
theorem lX7_426 : ji_in (.methodLink "BookPager" 426 ⟨"BookPager$Layout", "rowOfLine", "(I)I"⟩) := ⟨List.mem_of_getElem? (i := 737) (by decide +kernel), by decide +kernel⟩
theorem lX7_429 : ji_in (.methodLink "BookPager" 429 ⟨"BookPager$Layout", "firstLineOfPage", "(I)I"⟩) := ⟨List.mem_of_getElem? (i := 749) (by decide +kernel), by decide +kernel⟩
theorem lX7_432 : ji_in (.methodLink "BookPager" 432 ⟨"BookPager$Layout", "notesOfPage", "(I)I"⟩) := ⟨List.mem_of_getElem? (i := 750) (by decide +kernel), by decide +kernel⟩
theorem lX7_435 : ji_in (.methodLink "BookPager" 435 ⟨"java/lang/Integer", "bitCount", "(I)I"⟩) := ⟨List.mem_of_getElem? (i := 751) (by decide +kernel), by decide +kernel⟩
theorem lX7_440 : ji_in (.methodLink "BookPager" 440 ⟨"BookPager$Marks", "annotationsBetween", "(II)I"⟩) := ⟨List.mem_of_getElem? (i := 757) (by decide +kernel), by decide +kernel⟩
theorem lX7_443 : ji_in (.methodLink "BookPager" 443 ⟨"BookPager$Marks", "fromOf", "(I)I"⟩) := ⟨List.mem_of_getElem? (i := 769) (by decide +kernel), by decide +kernel⟩
theorem lX7_446 : ji_in (.methodLink "BookPager" 446 ⟨"BookPager$Book", "paragraphAt", "(I)I"⟩) := ⟨List.mem_of_getElem? (i := 770) (by decide +kernel), by decide +kernel⟩
theorem lX7_449 : ji_in (.methodLink "BookPager" 449 ⟨"BookPager$Marks", "toOf", "(I)I"⟩) := ⟨List.mem_of_getElem? (i := 771) (by decide +kernel), by decide +kernel⟩
theorem lX7_452 : ji_in (.methodLink "BookPager" 452 ⟨"BookPager$Marks", "colorOf", "(I)I"⟩) := ⟨List.mem_of_getElem? (i := 772) (by decide +kernel), by decide +kernel⟩
theorem lX7_455 : ji_in (.methodLink "BookPager" 455 ⟨"BookPager$Marks", "isLost", "(I)Z"⟩) := ⟨List.mem_of_getElem? (i := 776) (by decide +kernel), by decide +kernel⟩
theorem lX7_459 : ji_in (.methodLink "BookPager" 459 ⟨"BookPager$Input", "beginsWith", "(LBookPager$Words;I)Z"⟩) := ⟨List.mem_of_getElem? (i := 1129) (by decide +kernel), by decide +kernel⟩
theorem lX8_1 : ji_in (.methodLink "BookPagerModel" 1 ⟨"java/lang/Object", "<init>", "()V"⟩) := ⟨List.mem_of_getElem? (i := 1346) (by decide +kernel), by decide +kernel⟩
theorem lX8_7 : ji_in (.fieldLink "BookPagerModel" 7 "BookPagerModel" "z" "[I") := ⟨List.mem_of_getElem? (i := 1348) (by decide +kernel), by decide +kernel⟩
theorem lX8_13 : ji_in (.fieldLink "BookPagerModel" 13 "BookPagerModel" "kept" "[I") := ⟨List.mem_of_getElem? (i := 1349) (by decide +kernel), by decide +kernel⟩
theorem lX8_16 : ji_in (.fieldLink "BookPagerModel" 16 "BookPagerModel" "noteText" "[I") := ⟨List.mem_of_getElem? (i := 1351) (by decide +kernel), by decide +kernel⟩
theorem lX8_19 : ji_in (.fieldLink "BookPagerModel" 19 "BookPagerModel" "noteLength" "[I") := ⟨List.mem_of_getElem? (i := 1352) (by decide +kernel), by decide +kernel⟩
theorem lX8_22 : ji_in (.fieldLink "BookPagerModel" 22 "BookPagerModel" "width" "I") := ⟨List.mem_of_getElem? (i := 1353) (by decide +kernel), by decide +kernel⟩
theorem lX8_26 : ji_in (.fieldLink "BookPagerModel" 26 "BookPagerModel" "height" "I") := ⟨List.mem_of_getElem? (i := 1354) (by decide +kernel), by decide +kernel⟩
theorem lX8_29 : ji_in (.fieldLink "BookPagerModel" 29 "BookPagerModel" "style" "[I") := ⟨List.mem_of_getElem? (i := 1355) (by decide +kernel), by decide +kernel⟩
theorem lX8_32 : ji_in (.fieldLink "BookPagerModel" 32 "BookPagerModel" "buffer" "[I") := ⟨List.mem_of_getElem? (i := 1357) (by decide +kernel), by decide +kernel⟩
theorem lX8_35 : ji_in (.fieldLink "BookPagerModel" 35 "BookPagerModel" "lineOf" "[I") := ⟨List.mem_of_getElem? (i := 1364) (by decide +kernel), by decide +kernel⟩
theorem lX8_38 : ji_in (.fieldLink "BookPagerModel" 38 "BookPagerModel" "lineFrom" "[I") := ⟨List.mem_of_getElem? (i := 1365) (by decide +kernel), by decide +kernel⟩
theorem lX8_41 : ji_in (.fieldLink "BookPagerModel" 41 "BookPagerModel" "lineTo" "[I") := ⟨List.mem_of_getElem? (i := 1366) (by decide +kernel), by decide +kernel⟩
theorem lX8_44 : ji_in (.fieldLink "BookPagerModel" 44 "BookPagerModel" "pageFrom" "[I") := ⟨List.mem_of_getElem? (i := 1370) (by decide +kernel), by decide +kernel⟩
theorem lX8_47 : ji_in (.fieldLink "BookPagerModel" 47 "BookPagerModel" "thrown" "I") := ⟨List.mem_of_getElem? (i := 1347) (by decide +kernel), by decide +kernel⟩
theorem lX8_50 : ji_in (.methodLink "BookPagerModel" 50 ⟨"BookPagerModel", "within", "(III)Z"⟩) := ⟨List.mem_of_getElem? (i := 1431) (by decide +kernel), by decide +kernel⟩
theorem lX8_54 : ji_in (.fieldLink "BookPagerModel" 54 "BookPagerModel" "size" "I") := ⟨List.mem_of_getElem? (i := 1356) (by decide +kernel), by decide +kernel⟩
theorem lX8_57 : ji_in (.fieldLink "BookPagerModel" 57 "BookPagerModel" "readSigns" "I") := ⟨List.mem_of_getElem? (i := 1358) (by decide +kernel), by decide +kernel⟩
theorem lX8_60 : ji_in (.fieldLink "BookPagerModel" 60 "BookPagerModel" "readRef" "I") := ⟨List.mem_of_getElem? (i := 1359) (by decide +kernel), by decide +kernel⟩
theorem lX8_63 : ji_in (.methodLink "BookPagerModel" 63 ⟨"BookPagerModel", "isSign", "(I)Z"⟩) := ⟨List.mem_of_getElem? (i := 1462) (by decide +kernel), by decide +kernel⟩
theorem lX8_67 : ji_in (.fieldLink "BookPagerModel" 67 "BookPagerModel" "mayMark" "Z") := ⟨List.mem_of_getElem? (i := 1362) (by decide +kernel), by decide +kernel⟩
theorem lX8_71 : ji_in (.methodLink "BookPagerModel" 71 ⟨"BookPagerModel", "isWordOver", "()Z"⟩) := ⟨List.mem_of_getElem? (i := 1450) (by decide +kernel), by decide +kernel⟩
theorem lX8_75 : ji_in (.fieldLink "BookPagerModel" 75 "BookPagerModel" "readWords" "I") := ⟨List.mem_of_getElem? (i := 1360) (by decide +kernel), by decide +kernel⟩
theorem lX8_78 : ji_in (.methodLink "BookPagerModel" 78 ⟨"BookPagerModel", "fresh", "(Z)Z"⟩) := ⟨List.mem_of_getElem? (i := 1454) (by decide +kernel), by decide +kernel⟩
theorem lX8_82 : ji_in (.fieldLink "BookPagerModel" 82 "BookPagerModel" "readParagraphs" "I") := ⟨List.mem_of_getElem? (i := 1361) (by decide +kernel), by decide +kernel⟩
theorem lX8_85 : ji_in (.methodLink "BookPagerModel" 85 ⟨"BookPagerModel", "takesPlain", "(I)Z"⟩) := ⟨List.mem_of_getElem? (i := 1458) (by decide +kernel), by decide +kernel⟩
theorem lX8_88 : ji_in (.methodLink "BookPagerModel" 88 ⟨"BookPagerModel", "takes", "(IZ)Z"⟩) := ⟨List.mem_of_getElem? (i := 1446) (by decide +kernel), by decide +kernel⟩
theorem lX8_92 : ji_in (.methodLink "BookPagerModel" 92 ⟨"BookPagerModel", "rightLength", "(Z)I"⟩) := ⟨List.mem_of_getElem? (i := 1442) (by decide +kernel), by decide +kernel⟩
theorem lX8_96 : ji_in (.methodLink "BookPagerModel" 96 ⟨"BookPagerModel", "isText", "(Z)Z"⟩) := ⟨List.mem_of_getElem? (i := 1469) (by decide +kernel), by decide +kernel⟩
theorem lX8_99 : ji_in (.methodLink "BookPagerModel" 99 ⟨"BookPagerModel", "layBook", "()V"⟩) := ⟨List.mem_of_getElem? (i := 1473) (by decide +kernel), by decide +kernel⟩
theorem lX8_102 : ji_in (.fieldLink "BookPagerModel" 102 "BookPagerModel" "edits" "I") := ⟨List.mem_of_getElem? (i := 1350) (by decide +kernel), by decide +kernel⟩
theorem lX8_105 : ji_in (.methodLink "BookPagerModel" 105 ⟨"BookPagerModel", "noteWords", "(I)I"⟩) := ⟨List.mem_of_getElem? (i := 1481) (by decide +kernel), by decide +kernel⟩
theorem lX8_109 : ji_in (.methodLink "BookPagerModel" 109 ⟨"BookPagerModel", "sizeOf", "(I)I"⟩) := ⟨List.mem_of_getElem? (i := 1517) (by decide +kernel), by decide +kernel⟩
theorem lX8_112 : ji_in (.methodLink "BookPagerModel" 112 ⟨"BookPagerModel", "charOf", "(II)I"⟩) := ⟨List.mem_of_getElem? (i := 1521) (by decide +kernel), by decide +kernel⟩
theorem lX8_116 : ji_in (.methodLink "BookPagerModel" 116 ⟨"BookPagerModel", "wordEnd", "(II)I"⟩) := ⟨List.mem_of_getElem? (i := 1513) (by decide +kernel), by decide +kernel⟩
theorem lX8_119 : ji_in (.fieldLink "BookPagerModel" 119 "BookPagerModel" "columns" "I") := ⟨List.mem_of_getElem? (i := 1367) (by decide +kernel), by decide +kernel⟩
theorem lX8_122 : ji_in (.fieldLink "BookPagerModel" 122 "BookPagerModel" "lines" "I") := ⟨List.mem_of_getElem? (i := 1363) (by decide +kernel), by decide +kernel⟩
theorem lX8_125 : ji_in (.methodLink "BookPagerModel" 125 ⟨"BookPagerModel", "indentOf", "(II)I"⟩) := ⟨List.mem_of_getElem? (i := 1505) (by decide +kernel), by decide +kernel⟩
theorem lX8_128 : ji_in (.methodLink "BookPagerModel" 128 ⟨"BookPagerModel", "lineEnd", "(IIII)I"⟩) := ⟨List.mem_of_getElem? (i := 1509) (by decide +kernel), by decide +kernel⟩
theorem lX8_132 : ji_in (.methodLink "BookPagerModel" 132 ⟨"BookPagerModel", "isFirst", "(I)Z"⟩) := ⟨List.mem_of_getElem? (i := 1541) (by decide +kernel), by decide +kernel⟩
theorem lX8_135 : ji_in (.methodLink "BookPagerModel" 135 ⟨"BookPagerModel", "isShownNote", "(II)Z"⟩) := ⟨List.mem_of_getElem? (i := 1553) (by decide +kernel), by decide +kernel⟩
theorem lX8_139 : ji_in (.methodLink "BookPagerModel" 139 ⟨"BookPagerModel", "noteLines", "(I)I"⟩) := ⟨List.mem_of_getElem? (i := 1557) (by decide +kernel), by decide +kernel⟩
theorem lX8_142 : ji_in (.methodLink "BookPagerModel" 142 ⟨"BookPagerModel", "gapBefore", "(I)I"⟩) := ⟨List.mem_of_getElem? (i := 1537) (by decide +kernel), by decide +kernel⟩
theorem lX8_145 : ji_in (.methodLink "BookPagerModel" 145 ⟨"BookPagerModel", "rowsOf", "(II)I"⟩) := ⟨List.mem_of_getElem? (i := 1533) (by decide +kernel), by decide +kernel⟩
theorem lX8_148 : ji_in (.methodLink "BookPagerModel" 148 ⟨"BookPagerModel", "notesOn", "(II)I"⟩) := ⟨List.mem_of_getElem? (i := 1545) (by decide +kernel), by decide +kernel⟩
theorem lX8_151 : ji_in (.methodLink "BookPagerModel" 151 ⟨"BookPagerModel", "noteRows", "(I)I"⟩) := ⟨List.mem_of_getElem? (i := 1549) (by decide +kernel), by decide +kernel⟩
theorem lX8_154 : ji_in (.methodLink "BookPagerModel" 154 ⟨"BookPagerModel", "isLast", "(I)Z"⟩) := ⟨List.mem_of_getElem? (i := 1565) (by decide +kernel), by decide +kernel⟩
theorem lX8_157 : ji_in (.methodLink "BookPagerModel" 157 ⟨"BookPagerModel", "need", "(II)I"⟩) := ⟨List.mem_of_getElem? (i := 1529) (by decide +kernel), by decide +kernel⟩
theorem lX8_160 : ji_in (.fieldLink "BookPagerModel" 160 "BookPagerModel" "rows" "I") := ⟨List.mem_of_getElem? (i := 1368) (by decide +kernel), by decide +kernel⟩
theorem lX8_163 : ji_in (.methodLink "BookPagerModel" 163 ⟨"BookPagerModel", "mayBreak", "(I)Z"⟩) := ⟨List.mem_of_getElem? (i := 1561) (by decide +kernel), by decide +kernel⟩
theorem lX8_166 : ji_in (.methodLink "BookPagerModel" 166 ⟨"BookPagerModel", "layLines", "(I)V"⟩) := ⟨List.mem_of_getElem? (i := 1501) (by decide +kernel), by decide +kernel⟩
theorem lX8_170 : ji_in (.fieldLink "BookPagerModel" 170 "BookPagerModel" "pages" "I") := ⟨List.mem_of_getElem? (i := 1369) (by decide +kernel), by decide +kernel⟩
theorem lX8_173 : ji_in (.methodLink "BookPagerModel" 173 ⟨"BookPagerModel", "breakOf", "(I)I"⟩) := ⟨List.mem_of_getElem? (i := 1525) (by decide +kernel), by decide +kernel⟩
theorem lX8_176 : ji_in (.methodLink "BookPagerModel" 176 ⟨"BookPagerModel", "layPages", "(II)V"⟩) := ⟨List.mem_of_getElem? (i := 1497) (by decide +kernel), by decide +kernel⟩
theorem lX8_180 : ji_in (.methodLink "BookPagerModel" 180 ⟨"BookPagerModel", "lineAt", "(II)I"⟩) := ⟨List.mem_of_getElem? (i := 1665) (by decide +kernel), by decide +kernel⟩
theorem lX8_183 : ji_in (.methodLink "BookPagerModel" 183 ⟨"BookPagerModel", "pageAt", "(I)I"⟩) := ⟨List.mem_of_getElem? (i := 1621) (by decide +kernel), by decide +kernel⟩
theorem lX8_186 : ji_in (.methodLink "BookPagerModel" 186 ⟨"BookPagerModel", "pageWith", "(II)I"⟩) := ⟨List.mem_of_getElem? (i := 1661) (by decide +kernel), by decide +kernel⟩
theorem lX8_189 : ji_in (.methodLink "BookPagerModel" 189 ⟨"BookPagerModel", "layAll", "()V"⟩) := ⟨List.mem_of_getElem? (i := 1493) (by decide +kernel), by decide +kernel⟩
theorem lX8_192 : ji_in (.methodLink "BookPagerModel" 192 ⟨"BookPagerModel", "endOf", "(I)I"⟩) := ⟨List.mem_of_getElem? (i := 1601) (by decide +kernel), by decide +kernel⟩
theorem lX8_195 : ji_in (.methodLink "BookPagerModel" 195 ⟨"BookPagerModel", "isMarked", "(II)Z"⟩) := ⟨List.mem_of_getElem? (i := 1597) (by decide +kernel), by decide +kernel⟩
theorem lX8_198 : ji_in (.methodLink "BookPagerModel" 198 ⟨"BookPagerModel", "firstOf", "(I)I"⟩) := ⟨List.mem_of_getElem? (i := 1585) (by decide +kernel), by decide +kernel⟩
theorem lX8_201 : ji_in (.methodLink "BookPagerModel" 201 ⟨"BookPagerModel", "bits", "(I)I"⟩) := ⟨List.mem_of_getElem? (i := 1589) (by decide +kernel), by decide +kernel⟩
theorem lX8_204 : ji_in (.methodLink "BookPagerModel" 204 ⟨"BookPagerModel", "annotationsOn", "(II)I"⟩) := ⟨List.mem_of_getElem? (i := 1593) (by decide +kernel), by decide +kernel⟩
theorem lX8_207 : ji_in (.methodLink "BookPagerModel" 207 ⟨"BookPagerModel", "isPage", "(I)Z"⟩) := ⟨List.mem_of_getElem? (i := 1577) (by decide +kernel), by decide +kernel⟩
theorem lX8_210 : ji_in (.methodLink "BookPagerModel" 210 ⟨"BookPagerModel", "pageNow", "(II)I"⟩) := ⟨List.mem_of_getElem? (i := 1581) (by decide +kernel), by decide +kernel⟩
theorem lX8_213 : ji_in (.methodLink "BookPagerModel" 213 ⟨"BookPagerModel", "wordsBetween", "(III)I"⟩) := ⟨List.mem_of_getElem? (i := 1617) (by decide +kernel), by decide +kernel⟩
theorem lX8_217 : ji_in (.methodLink "BookPagerModel" 217 ⟨"BookPagerModel", "rowAt", "(I)I"⟩) := ⟨List.mem_of_getElem? (i := 1625) (by decide +kernel), by decide +kernel⟩
theorem lX8_220 : ji_in (.methodLink "BookPagerModel" 220 ⟨"BookPagerModel", "isLine", "(I)Z"⟩) := ⟨List.mem_of_getElem? (i := 1609) (by decide +kernel), by decide +kernel⟩
theorem lX8_223 : ji_in (.methodLink "BookPagerModel" 223 ⟨"BookPagerModel", "lineNow", "(II)I"⟩) := ⟨List.mem_of_getElem? (i := 1613) (by decide +kernel), by decide +kernel⟩
theorem lX8_226 : ji_in (.methodLink "BookPagerModel" 226 ⟨"BookPagerModel", "lineChar", "(IIII)I"⟩) := ⟨List.mem_of_getElem? (i := 1637) (by decide +kernel), by decide +kernel⟩
theorem lX8_229 : ji_in (.methodLink "BookPagerModel" 229 ⟨"BookPagerModel", "noteChar", "(III)I"⟩) := ⟨List.mem_of_getElem? (i := 1641) (by decide +kernel), by decide +kernel⟩
theorem lX8_232 : ji_in (.methodLink "BookPagerModel" 232 ⟨"BookPagerModel", "shownNow", "(III)I"⟩) := ⟨List.mem_of_getElem? (i := 1633) (by decide +kernel), by decide +kernel⟩
theorem lX8_235 : ji_in (.methodLink "BookPagerModel" 235 ⟨"BookPagerModel", "noteAt", "(II)I"⟩) := ⟨List.mem_of_getElem? (i := 1649) (by decide +kernel), by decide +kernel⟩
theorem lX8_238 : ji_in (.methodLink "BookPagerModel" 238 ⟨"BookPagerModel", "isPosition", "(II)Z"⟩) := ⟨List.mem_of_getElem? (i := 1657) (by decide +kernel), by decide +kernel⟩
theorem lX8_241 : ji_in (.methodLink "BookPagerModel" 241 ⟨"BookPagerModel", "backwards", "(I)I"⟩) := ⟨List.mem_of_getElem? (i := 1673) (by decide +kernel), by decide +kernel⟩
theorem lX8_244 : ji_in (.methodLink "BookPagerModel" 244 ⟨"BookPagerModel", "keepJump", "()V"⟩) := ⟨List.mem_of_getElem? (i := 1681) (by decide +kernel), by decide +kernel⟩
theorem lX8_247 : ji_in (.methodLink "BookPagerModel" 247 ⟨"BookPagerModel", "move", "(II)V"⟩) := ⟨List.mem_of_getElem? (i := 1685) (by decide +kernel), by decide +kernel⟩
theorem lX8_250 : ji_in (.methodLink "BookPagerModel" 250 ⟨"BookPagerModel", "here", "()I"⟩) := ⟨List.mem_of_getElem? (i := 1689) (by decide +kernel), by decide +kernel⟩
theorem lX8_254 : ji_in (.methodLink "BookPagerModel" 254 ⟨"BookPagerModel", "isWanted", "(II)Z"⟩) := ⟨List.mem_of_getElem? (i := 1709) (by decide +kernel), by decide +kernel⟩
theorem lX8_257 : ji_in (.methodLink "BookPagerModel" 257 ⟨"BookPagerModel", "findNow", "(Z)I"⟩) := ⟨List.mem_of_getElem? (i := 1705) (by decide +kernel), by decide +kernel⟩
theorem lX8_260 : ji_in (.methodLink "BookPagerModel" 260 ⟨"BookPagerModel", "wordsOf", "(I)I"⟩) := ⟨List.mem_of_getElem? (i := 1725) (by decide +kernel), by decide +kernel⟩
theorem lX8_263 : ji_in (.methodLink "BookPagerModel" 263 ⟨"BookPagerModel", "allWords", "()I"⟩) := ⟨List.mem_of_getElem? (i := 1721) (by decide +kernel), by decide +kernel⟩
theorem lX8_266 : ji_in (.methodLink "BookPagerModel" 266 ⟨"BookPagerModel", "letters", "(I)I"⟩) := ⟨List.mem_of_getElem? (i := 1729) (by decide +kernel), by decide +kernel⟩
theorem lX8_269 : ji_in (.methodLink "BookPagerModel" 269 ⟨"BookPagerModel", "lost", "()I"⟩) := ⟨List.mem_of_getElem? (i := 1733) (by decide +kernel), by decide +kernel⟩
theorem lX8_272 : ji_in (.methodLink "BookPagerModel" 272 ⟨"BookPagerModel", "counted", "(I)I"⟩) := ⟨List.mem_of_getElem? (i := 1717) (by decide +kernel), by decide +kernel⟩
theorem lX8_275 : ji_in (.methodLink "BookPagerModel" 275 ⟨"BookPagerModel", "linesIn", "(I)I"⟩) := ⟨List.mem_of_getElem? (i := 1749) (by decide +kernel), by decide +kernel⟩
theorem lX8_278 : ji_in (.methodLink "BookPagerModel" 278 ⟨"BookPagerModel", "isParagraph", "(I)Z"⟩) := ⟨List.mem_of_getElem? (i := 1741) (by decide +kernel), by decide +kernel⟩
theorem lX8_281 : ji_in (.methodLink "BookPagerModel" 281 ⟨"BookPagerModel", "paragraphNow", "(II)I"⟩) := ⟨List.mem_of_getElem? (i := 1745) (by decide +kernel), by decide +kernel⟩
theorem lX8_284 : ji_in (.methodLink "BookPagerModel" 284 ⟨"BookPagerModel", "isAnnotation", "(I)Z"⟩) := ⟨List.mem_of_getElem? (i := 1765) (by decide +kernel), by decide +kernel⟩
theorem lX8_287 : ji_in (.methodLink "BookPagerModel" 287 ⟨"BookPagerModel", "annotationNow", "(II)I"⟩) := ⟨List.mem_of_getElem? (i := 1769) (by decide +kernel), by decide +kernel⟩
theorem lX8_290 : ji_in (.methodLink "BookPagerModel" 290 ⟨"BookPagerModel", "startOf", "(II)I"⟩) := ⟨List.mem_of_getElem? (i := 1797) (by decide +kernel), by decide +kernel⟩
theorem lX8_293 : ji_in (.methodLink "BookPagerModel" 293 ⟨"BookPagerModel", "open", "(III)V"⟩) := ⟨List.mem_of_getElem? (i := 1801) (by decide +kernel), by decide +kernel⟩
theorem lX8_297 : ji_in (.methodLink "BookPagerModel" 297 ⟨"BookPagerModel", "listWords", "()I"⟩) := ⟨List.mem_of_getElem? (i := 1785) (by decide +kernel), by decide +kernel⟩
theorem lX8_300 : ji_in (.methodLink "BookPagerModel" 300 ⟨"BookPagerModel", "keep", "()V"⟩) := ⟨List.mem_of_getElem? (i := 1789) (by decide +kernel), by decide +kernel⟩
theorem lX8_303 : ji_in (.methodLink "BookPagerModel" 303 ⟨"BookPagerModel", "putIn", "(II)V"⟩) := ⟨List.mem_of_getElem? (i := 1793) (by decide +kernel), by decide +kernel⟩
theorem lX8_306 : ji_in (.methodLink "BookPagerModel" 306 ⟨"BookPagerModel", "behind", "(III)I"⟩) := ⟨List.mem_of_getElem? (i := 1813) (by decide +kernel), by decide +kernel⟩
theorem lX8_309 : ji_in (.methodLink "BookPagerModel" 309 ⟨"BookPagerModel", "close", "(III)V"⟩) := ⟨List.mem_of_getElem? (i := 1809) (by decide +kernel), by decide +kernel⟩
theorem lX8_312 : ji_in (.methodLink "BookPagerModel" 312 ⟨"BookPagerModel", "renumber", "(II)V"⟩) := ⟨List.mem_of_getElem? (i := 1824) (by decide +kernel), by decide +kernel⟩
theorem lX8_315 : ji_in (.methodLink "BookPagerModel" 315 ⟨"BookPagerModel", "copyParagraph", "(II)V"⟩) := ⟨List.mem_of_getElem? (i := 1828) (by decide +kernel), by decide +kernel⟩
theorem lX8_318 : ji_in (.methodLink "BookPagerModel" 318 ⟨"BookPagerModel", "splitAnnotation", "(III)V"⟩) := ⟨List.mem_of_getElem? (i := 1832) (by decide +kernel), by decide +kernel⟩
theorem lX8_321 : ji_in (.methodLink "BookPagerModel" 321 ⟨"BookPagerModel", "divide", "(II)V"⟩) := ⟨List.mem_of_getElem? (i := 1820) (by decide +kernel), by decide +kernel⟩
theorem lX8_324 : ji_in (.methodLink "BookPagerModel" 324 ⟨"BookPagerModel", "unite", "(I)V"⟩) := ⟨List.mem_of_getElem? (i := 1840) (by decide +kernel), by decide +kernel⟩
theorem lX8_327 : ji_in (.methodLink "BookPagerModel" 327 ⟨"BookPagerModel", "fitNow", "(I)I"⟩) := ⟨List.mem_of_getElem? (i := 1852) (by decide +kernel), by decide +kernel⟩
theorem lX8_330 : ji_in (.constantLong "BookPagerModel" 330 31) := ⟨List.mem_of_getElem? (i := 1869) (by decide +kernel), by decide +kernel⟩
theorem lX8_332 : ji_in (.fieldLink "BookPagerModel" 332 "BookPagerModel" "hash" "J") := ⟨List.mem_of_getElem? (i := 1371) (by decide +kernel), by decide +kernel⟩
theorem lX8_336 : ji_in (.methodLink "BookPagerModel" 336 ⟨"BookPagerModel", "mix", "(J)V"⟩) := ⟨List.mem_of_getElem? (i := 1865) (by decide +kernel), by decide +kernel⟩
theorem lX8_340 : ji_in (.constantLong "BookPagerModel" 340 1931) := ⟨List.mem_of_getElem? (i := 1864) (by decide +kernel), by decide +kernel⟩
theorem lX8_342 : ji_in (.methodLink "BookPagerModel" 342 ⟨"BookPagerModel", "mixParagraphs", "()V"⟩) := ⟨List.mem_of_getElem? (i := 1870) (by decide +kernel), by decide +kernel⟩
theorem lX8_345 : ji_in (.methodLink "BookPagerModel" 345 ⟨"BookPagerModel", "mixLayout", "()V"⟩) := ⟨List.mem_of_getElem? (i := 1874) (by decide +kernel), by decide +kernel⟩
theorem lX0_3 : ji_in (.methodLink "BookPager$Book" 3 ⟨"java/lang/Object", "<init>", "()V"⟩) := ⟨List.mem_of_getElem? (i := 218) (by decide +kernel), by decide +kernel⟩
theorem lX0_9 : ji_in (.fieldLink "BookPager$Book" 9 "BookPager$Book" "words" "LBookPager$Words;") := ⟨List.mem_of_getElem? (i := 219) (by decide +kernel), by decide +kernel⟩
theorem lX0_15 : ji_in (.fieldLink "BookPager$Book" 15 "BookPager$Book" "kinds" "[I") := ⟨List.mem_of_getElem? (i := 220) (by decide +kernel), by decide +kernel⟩
theorem lX0_19 : ji_in (.fieldLink "BookPager$Book" 19 "BookPager$Book" "firsts" "[I") := ⟨List.mem_of_getElem? (i := 221) (by decide +kernel), by decide +kernel⟩
theorem lX0_22 : ji_in (.methodLink "BookPager$Book" 22 ⟨"BookPager$Book", "firstWordOf", "(I)I"⟩) := ⟨List.mem_of_getElem? (i := 642) (by decide +kernel), by decide +kernel⟩
theorem lX0_26 : ji_in (.methodLink "BookPager$Book" 26 ⟨"BookPager$Words", "startOf", "(I)I"⟩) := ⟨List.mem_of_getElem? (i := 643) (by decide +kernel), by decide +kernel⟩
theorem lX0_31 : ji_in (.methodLink "BookPager$Book" 31 ⟨"BookPager$Book", "endOf", "(I)I"⟩) := ⟨List.mem_of_getElem? (i := 705) (by decide +kernel), by decide +kernel⟩
theorem lX0_34 : ji_in (.methodLink "BookPager$Book" 34 ⟨"BookPager$Book", "startOf", "(I)I"⟩) := ⟨List.mem_of_getElem? (i := 638) (by decide +kernel), by decide +kernel⟩
theorem lX0_35 : ji_in (.methodLink "BookPager$Book" 35 ⟨"BookPager$Words", "length", "()I"⟩) := ⟨List.mem_of_getElem? (i := 621) (by decide +kernel), by decide +kernel⟩
theorem lX0_39 : ji_in (.methodLink "BookPager$Book" 39 ⟨"BookPager$Book", "paragraphs", "()I"⟩) := ⟨List.mem_of_getElem? (i := 625) (by decide +kernel), by decide +kernel⟩
theorem lX0_42 : ji_in (.methodLink "BookPager$Book" 42 ⟨"BookPager$Book", "paragraphAt", "(I)I"⟩) := ⟨List.mem_of_getElem? (i := 634) (by decide +kernel), by decide +kernel⟩
theorem lX0_45 : ji_in (.methodLink "BookPager$Book" 45 ⟨"BookPager$Words", "spliced", "(II[C)LBookPager$Words;"⟩) := ⟨List.mem_of_getElem? (i := 1232) (by decide +kernel), by decide +kernel⟩
theorem lX0_49 : ji_in (.methodLink "BookPager$Book" 49 ⟨"BookPager$Book", "withWords", "(ILBookPager$Words;)LBookPager$Book;"⟩) := ⟨List.mem_of_getElem? (i := 1239) (by decide +kernel), by decide +kernel⟩
theorem lX0_53 : ji_in (.methodLink "BookPager$Book" 53 ⟨"BookPager$Words", "size", "()I"⟩) := ⟨List.mem_of_getElem? (i := 1243) (by decide +kernel), by decide +kernel⟩
theorem lX0_56 : ji_in (.methodLink "BookPager$Book" 56 ⟨"[I", "clone", "()Ljava/lang/Object;"⟩) := ⟨List.mem_of_getElem? (i := 1244) (by decide +kernel), by decide +kernel⟩
theorem lX0_57 : ji_in (.classLink "BookPager$Book" 57 "[I") := ⟨List.mem_of_getElem? (i := 1250) (by decide +kernel), by decide +kernel⟩
theorem lX0_10 : ji_in (.classLink "BookPager$Book" 10 "BookPager$Book") := ⟨List.mem_of_getElem? (i := 1251) (by decide +kernel), by decide +kernel⟩
theorem lX0_61 : ji_in (.methodLink "BookPager$Book" 61 ⟨"BookPager$Book", "<init>", "(LBookPager$Words;[I[I)V"⟩) := ⟨List.mem_of_getElem? (i := 1252) (by decide +kernel), by decide +kernel⟩
theorem lX0_64 : ji_in (.methodLink "BookPager$Book" 64 ⟨"BookPager$Book", "kindOf", "(I)I"⟩) := ⟨List.mem_of_getElem? (i := 1297) (by decide +kernel), by decide +kernel⟩
theorem lX1_3 : ji_in (.methodLink "BookPager$History" 3 ⟨"java/lang/Object", "<init>", "()V"⟩) := ⟨List.mem_of_getElem? (i := 262) (by decide +kernel), by decide +kernel⟩
theorem lX1_9 : ji_in (.classLink "BookPager$History" 9 "BookPager$Book") := ⟨List.mem_of_getElem? (i := 263) (by decide +kernel), by decide +kernel⟩
theorem lX1_11 : ji_in (.fieldLink "BookPager$History" 11 "BookPager$History" "books" "[LBookPager$Book;") := ⟨List.mem_of_getElem? (i := 268) (by decide +kernel), by decide +kernel⟩
theorem lX1_17 : ji_in (.classLink "BookPager$History" 17 "BookPager$Marks") := ⟨List.mem_of_getElem? (i := 265) (by decide +kernel), by decide +kernel⟩
theorem lX1_19 : ji_in (.fieldLink "BookPager$History" 19 "BookPager$History" "marks" "[LBookPager$Marks;") := ⟨List.mem_of_getElem? (i := 269) (by decide +kernel), by decide +kernel⟩
theorem lX1_24 : ji_in (.fieldLink "BookPager$History" 24 "BookPager$History" "edits" "I") := ⟨List.mem_of_getElem? (i := 270) (by decide +kernel), by decide +kernel⟩
theorem lX1_28 : ji_in (.methodLink "BookPager$History" 28 ⟨"BookPager$History", "forgetOldest", "()V"⟩) := ⟨List.mem_of_getElem? (i := 1215) (by decide +kernel), by decide +kernel⟩
theorem lX1_31 : ji_in (.methodLink "BookPager$History" 31 ⟨"BookPager$Marks", "copy", "(LBookPager$Marks;)V"⟩) := ⟨List.mem_of_getElem? (i := 1219) (by decide +kernel), by decide +kernel⟩
theorem lX2_3 : ji_in (.methodLink "BookPager$Input" 3 ⟨"java/lang/Object", "<init>", "()V"⟩) := ⟨List.mem_of_getElem? (i := 158) (by decide +kernel), by decide +kernel⟩
theorem lX2_9 : ji_in (.fieldLink "BookPager$Input" 9 "BookPager$Input" "signs" "[C") := ⟨List.mem_of_getElem? (i := 188) (by decide +kernel), by decide +kernel⟩
theorem lX2_15 : ji_in (.classLink "BookPager$Input" 15 "BookPager$Syntax") := ⟨List.mem_of_getElem? (i := 159) (by decide +kernel), by decide +kernel⟩
theorem lX2_18 : ji_in (.fieldLink "BookPager$Input" 18 "BookPager$Input" "syntax" "LBookPager$Syntax;") := ⟨List.mem_of_getElem? (i := 189) (by decide +kernel), by decide +kernel⟩
theorem lX2_22 : ji_in (.fieldLink "BookPager$Input" 22 "BookPager$Input" "length" "I") := ⟨List.mem_of_getElem? (i := 190) (by decide +kernel), by decide +kernel⟩
theorem lX2_26 : ji_in (.methodLink "BookPager$Input" 26 ⟨"BookPager$Syntax", "begin", "(Z)V"⟩) := ⟨List.mem_of_getElem? (i := 388) (by decide +kernel), by decide +kernel⟩
theorem lX2_30 : ji_in (.methodLink "BookPager$Input" 30 ⟨"BookPager$Input", "signAt", "(I)C"⟩) := ⟨List.mem_of_getElem? (i := 400) (by decide +kernel), by decide +kernel⟩
theorem lX2_34 : ji_in (.methodLink "BookPager$Input" 34 ⟨"BookPager$Syntax", "takes", "(C)Z"⟩) := ⟨List.mem_of_getElem? (i := 404) (by decide +kernel), by decide +kernel⟩
theorem lX2_38 : ji_in (.methodLink "BookPager$Input" 38 ⟨"BookPager$Input", "firstFault", "(Z)I"⟩) := ⟨List.mem_of_getElem? (i := 898) (by decide +kernel), by decide +kernel⟩
theorem lX2_42 : ji_in (.methodLink "BookPager$Input" 42 ⟨"BookPager$Syntax", "mayEnd", "()Z"⟩) := ⟨List.mem_of_getElem? (i := 899) (by decide +kernel), by decide +kernel⟩
theorem lX2_46 : ji_in (.methodLink "BookPager$Input" 46 ⟨"BookPager$Input", "timesOf", "(C)I"⟩) := ⟨List.mem_of_getElem? (i := 908) (by decide +kernel), by decide +kernel⟩
theorem lX2_50 : ji_in (.methodLink "BookPager$Input" 50 ⟨"BookPager$Words", "startOf", "(I)I"⟩) := ⟨List.mem_of_getElem? (i := 1133) (by decide +kernel), by decide +kernel⟩
theorem lX2_56 : ji_in (.methodLink "BookPager$Input" 56 ⟨"BookPager$Words", "endOf", "(I)I"⟩) := ⟨List.mem_of_getElem? (i := 1134) (by decide +kernel), by decide +kernel⟩
theorem lX2_59 : ji_in (.methodLink "BookPager$Input" 59 ⟨"BookPager$Words", "signAt", "(I)I"⟩) := ⟨List.mem_of_getElem? (i := 1135) (by decide +kernel), by decide +kernel⟩
theorem lX2_61 : ji_in (.methodLink "BookPager$Input" 61 ⟨"BookPager$Input", "padded", "(II)[C"⟩) := ⟨List.mem_of_getElem? (i := 960) (by decide +kernel), by decide +kernel⟩
theorem lX2_51 : ji_in (.classLink "BookPager$Input" 51 "BookPager$Words") := ⟨List.mem_of_getElem? (i := 913) (by decide +kernel), by decide +kernel⟩
theorem lX2_65 : ji_in (.methodLink "BookPager$Input" 65 ⟨"BookPager$Words", "<init>", "([C)V"⟩) := ⟨List.mem_of_getElem? (i := 914) (by decide +kernel), by decide +kernel⟩
theorem lX2_68 : ji_in (.classLink "BookPager$Input" 68 "BookPager$Book") := ⟨List.mem_of_getElem? (i := 912) (by decide +kernel), by decide +kernel⟩
theorem lX2_70 : ji_in (.methodLink "BookPager$Input" 70 ⟨"BookPager$Book", "<init>", "(LBookPager$Words;[I[I)V"⟩) := ⟨List.mem_of_getElem? (i := 915) (by decide +kernel), by decide +kernel⟩
theorem lX3_3 : ji_in (.methodLink "BookPager$Layout" 3 ⟨"java/lang/Object", "<init>", "()V"⟩) := ⟨List.mem_of_getElem? (i := 283) (by decide +kernel), by decide +kernel⟩
theorem lX3_9 : ji_in (.fieldLink "BookPager$Layout" 9 "BookPager$Layout" "noteLines" "[I") := ⟨List.mem_of_getElem? (i := 289) (by decide +kernel), by decide +kernel⟩
theorem lX3_15 : ji_in (.fieldLink "BookPager$Layout" 15 "BookPager$Layout" "lineWords" "[I") := ⟨List.mem_of_getElem? (i := 291) (by decide +kernel), by decide +kernel⟩
theorem lX3_18 : ji_in (.fieldLink "BookPager$Layout" 18 "BookPager$Layout" "lineParagraphs" "[I") := ⟨List.mem_of_getElem? (i := 292) (by decide +kernel), by decide +kernel⟩
theorem lX3_21 : ji_in (.fieldLink "BookPager$Layout" 21 "BookPager$Layout" "lineIndents" "[I") := ⟨List.mem_of_getElem? (i := 293) (by decide +kernel), by decide +kernel⟩
theorem lX3_24 : ji_in (.fieldLink "BookPager$Layout" 24 "BookPager$Layout" "lineGaps" "[I") := ⟨List.mem_of_getElem? (i := 294) (by decide +kernel), by decide +kernel⟩
theorem lX3_27 : ji_in (.fieldLink "BookPager$Layout" 27 "BookPager$Layout" "lineBreaks" "[Z") := ⟨List.mem_of_getElem? (i := 295) (by decide +kernel), by decide +kernel⟩
theorem lX3_31 : ji_in (.fieldLink "BookPager$Layout" 31 "BookPager$Layout" "lineNotes" "[I") := ⟨List.mem_of_getElem? (i := 296) (by decide +kernel), by decide +kernel⟩
theorem lX3_34 : ji_in (.fieldLink "BookPager$Layout" 34 "BookPager$Layout" "linePages" "[I") := ⟨List.mem_of_getElem? (i := 297) (by decide +kernel), by decide +kernel⟩
theorem lX3_37 : ji_in (.fieldLink "BookPager$Layout" 37 "BookPager$Layout" "pageLines" "[I") := ⟨List.mem_of_getElem? (i := 299) (by decide +kernel), by decide +kernel⟩
theorem lX3_40 : ji_in (.fieldLink "BookPager$Layout" 40 "BookPager$Layout" "book" "LBookPager$Book;") := ⟨List.mem_of_getElem? (i := 286) (by decide +kernel), by decide +kernel⟩
theorem lX3_44 : ji_in (.fieldLink "BookPager$Layout" 44 "BookPager$Layout" "notes" "[LBookPager$Words;") := ⟨List.mem_of_getElem? (i := 284) (by decide +kernel), by decide +kernel⟩
theorem lX3_48 : ji_in (.fieldLink "BookPager$Layout" 48 "BookPager$Layout" "style" "[I") := ⟨List.mem_of_getElem? (i := 285) (by decide +kernel), by decide +kernel⟩
theorem lX3_51 : ji_in (.fieldLink "BookPager$Layout" 51 "BookPager$Layout" "width" "I") := ⟨List.mem_of_getElem? (i := 287) (by decide +kernel), by decide +kernel⟩
theorem lX3_55 : ji_in (.fieldLink "BookPager$Layout" 55 "BookPager$Layout" "height" "I") := ⟨List.mem_of_getElem? (i := 288) (by decide +kernel), by decide +kernel⟩
theorem lX3_58 : ji_in (.methodLink "BookPager$Layout" 58 ⟨"BookPager$Layout", "measureNotes", "()V"⟩) := ⟨List.mem_of_getElem? (i := 426) (by decide +kernel), by decide +kernel⟩
theorem lX3_61 : ji_in (.methodLink "BookPager$Layout" 61 ⟨"BookPager$Layout", "breakLines", "()V"⟩) := ⟨List.mem_of_getElem? (i := 454) (by decide +kernel), by decide +kernel⟩
theorem lX3_64 : ji_in (.methodLink "BookPager$Layout" 64 ⟨"BookPager$Layout", "measureLines", "()V"⟩) := ⟨List.mem_of_getElem? (i := 500) (by decide +kernel), by decide +kernel⟩
theorem lX3_67 : ji_in (.methodLink "BookPager$Layout" 67 ⟨"BookPager$Layout", "breakPages", "()V"⟩) := ⟨List.mem_of_getElem? (i := 520) (by decide +kernel), by decide +kernel⟩
theorem lX3_70 : ji_in (.methodLink "BookPager$Layout" 70 ⟨"BookPager$Layout", "textOf", "(I)LBookPager$Words;"⟩) := ⟨List.mem_of_getElem? (i := 430) (by decide +kernel), by decide +kernel⟩
theorem lX3_74 : ji_in (.methodLink "BookPager$Layout" 74 ⟨"BookPager$Words", "linesWithin", "(I)I"⟩) := ⟨List.mem_of_getElem? (i := 434) (by decide +kernel), by decide +kernel⟩
theorem lX3_80 : ji_in (.methodLink "BookPager$Layout" 80 ⟨"BookPager$Book", "words", "()LBookPager$Words;"⟩) := ⟨List.mem_of_getElem? (i := 458) (by decide +kernel), by decide +kernel⟩
theorem lX3_86 : ji_in (.fieldLink "BookPager$Layout" 86 "BookPager$Layout" "lines" "I") := ⟨List.mem_of_getElem? (i := 290) (by decide +kernel), by decide +kernel⟩
theorem lX3_89 : ji_in (.methodLink "BookPager$Layout" 89 ⟨"BookPager$Book", "paragraphs", "()I"⟩) := ⟨List.mem_of_getElem? (i := 462) (by decide +kernel), by decide +kernel⟩
theorem lX3_93 : ji_in (.methodLink "BookPager$Layout" 93 ⟨"BookPager$Book", "firstWordOf", "(I)I"⟩) := ⟨List.mem_of_getElem? (i := 466) (by decide +kernel), by decide +kernel⟩
theorem lX3_96 : ji_in (.methodLink "BookPager$Layout" 96 ⟨"BookPager$Layout", "firstIndentOf", "(I)I"⟩) := ⟨List.mem_of_getElem? (i := 470) (by decide +kernel), by decide +kernel⟩
theorem lX3_99 : ji_in (.methodLink "BookPager$Layout" 99 ⟨"BookPager$Words", "lineEnd", "(III)I"⟩) := ⟨List.mem_of_getElem? (i := 486) (by decide +kernel), by decide +kernel⟩
theorem lX3_103 : ji_in (.methodLink "BookPager$Layout" 103 ⟨"BookPager$Layout", "referencesOf", "(II)I"⟩) := ⟨List.mem_of_getElem? (i := 487) (by decide +kernel), by decide +kernel⟩
theorem lX3_107 : ji_in (.methodLink "BookPager$Layout" 107 ⟨"BookPager$Layout", "laterIndentOf", "(I)I"⟩) := ⟨List.mem_of_getElem? (i := 482) (by decide +kernel), by decide +kernel⟩
theorem lX3_110 : ji_in (.methodLink "BookPager$Layout" 110 ⟨"BookPager$Words", "size", "()I"⟩) := ⟨List.mem_of_getElem? (i := 499) (by decide +kernel), by decide +kernel⟩
theorem lX3_113 : ji_in (.methodLink "BookPager$Layout" 113 ⟨"BookPager$Words", "referenceOf", "(I)I"⟩) := ⟨List.mem_of_getElem? (i := 491) (by decide +kernel), by decide +kernel⟩
theorem lX3_116 : ji_in (.methodLink "BookPager$Layout" 116 ⟨"BookPager$Layout", "beginsParagraph", "(I)Z"⟩) := ⟨List.mem_of_getElem? (i := 504) (by decide +kernel), by decide +kernel⟩
theorem lX3_120 : ji_in (.methodLink "BookPager$Layout" 120 ⟨"BookPager$Layout", "gapOf", "(I)I"⟩) := ⟨List.mem_of_getElem? (i := 512) (by decide +kernel), by decide +kernel⟩
theorem lX3_123 : ji_in (.methodLink "BookPager$Layout" 123 ⟨"BookPager$Layout", "isAllowedBreak", "(I)Z"⟩) := ⟨List.mem_of_getElem? (i := 516) (by decide +kernel), by decide +kernel⟩
theorem lX3_126 : ji_in (.methodLink "BookPager$Layout" 126 ⟨"BookPager$Layout", "styleOf", "(I)I"⟩) := ⟨List.mem_of_getElem? (i := 478) (by decide +kernel), by decide +kernel⟩
theorem lX3_129 : ji_in (.methodLink "BookPager$Layout" 129 ⟨"BookPager$Book", "kindOf", "(I)I"⟩) := ⟨List.mem_of_getElem? (i := 474) (by decide +kernel), by decide +kernel⟩
theorem lX3_132 : ji_in (.methodLink "BookPager$Layout" 132 ⟨"BookPager$Layout", "paragraphOfLine", "(I)I"⟩) := ⟨List.mem_of_getElem? (i := 508) (by decide +kernel), by decide +kernel⟩
theorem lX3_135 : ji_in (.fieldLink "BookPager$Layout" 135 "BookPager$Layout" "pages" "I") := ⟨List.mem_of_getElem? (i := 298) (by decide +kernel), by decide +kernel⟩
theorem lX3_138 : ji_in (.methodLink "BookPager$Layout" 138 ⟨"BookPager$Layout", "breakFrom", "(I)I"⟩) := ⟨List.mem_of_getElem? (i := 524) (by decide +kernel), by decide +kernel⟩
theorem lX3_141 : ji_in (.methodLink "BookPager$Layout" 141 ⟨"BookPager$Layout", "firstWordOfLine", "(I)I"⟩) := ⟨List.mem_of_getElem? (i := 560) (by decide +kernel), by decide +kernel⟩
theorem lX3_144 : ji_in (.methodLink "BookPager$Layout" 144 ⟨"BookPager$Layout", "indentOfLine", "(I)I"⟩) := ⟨List.mem_of_getElem? (i := 731) (by decide +kernel), by decide +kernel⟩
theorem lX3_147 : ji_in (.methodLink "BookPager$Layout" 147 ⟨"BookPager$Words", "endOf", "(I)I"⟩) := ⟨List.mem_of_getElem? (i := 735) (by decide +kernel), by decide +kernel⟩
theorem lX3_150 : ji_in (.methodLink "BookPager$Layout" 150 ⟨"BookPager$Words", "startOf", "(I)I"⟩) := ⟨List.mem_of_getElem? (i := 564) (by decide +kernel), by decide +kernel⟩
theorem lX3_153 : ji_in (.methodLink "BookPager$Layout" 153 ⟨"BookPager$Layout", "notesOfLine", "(I)I"⟩) := ⟨List.mem_of_getElem? (i := 528) (by decide +kernel), by decide +kernel⟩
theorem lX3_156 : ji_in (.methodLink "BookPager$Layout" 156 ⟨"BookPager$Layout", "gapBefore", "(I)I"⟩) := ⟨List.mem_of_getElem? (i := 532) (by decide +kernel), by decide +kernel⟩
theorem lX3_159 : ji_in (.methodLink "BookPager$Layout" 159 ⟨"BookPager$Layout", "rowsOfNotes", "(I)I"⟩) := ⟨List.mem_of_getElem? (i := 536) (by decide +kernel), by decide +kernel⟩
theorem lX3_162 : ji_in (.methodLink "BookPager$Layout" 162 ⟨"BookPager$Layout", "keptBreak", "(II)I"⟩) := ⟨List.mem_of_getElem? (i := 540) (by decide +kernel), by decide +kernel⟩
theorem lX3_165 : ji_in (.methodLink "BookPager$Layout" 165 ⟨"BookPager$Layout", "mayBreakBefore", "(I)Z"⟩) := ⟨List.mem_of_getElem? (i := 544) (by decide +kernel), by decide +kernel⟩
theorem lX3_168 : ji_in (.methodLink "BookPager$Layout" 168 ⟨"java/lang/Math", "max", "(II)I"⟩) := ⟨List.mem_of_getElem? (i := 1039) (by decide +kernel), by decide +kernel⟩
theorem lX3_173 : ji_in (.methodLink "BookPager$Layout" 173 ⟨"BookPager$Layout", "pageOfLine", "(I)I"⟩) := ⟨List.mem_of_getElem? (i := 565) (by decide +kernel), by decide +kernel⟩
theorem lX3_176 : ji_in (.methodLink "BookPager$Layout" 176 ⟨"BookPager$Layout", "firstLineOfPage", "(I)I"⟩) := ⟨List.mem_of_getElem? (i := 577) (by decide +kernel), by decide +kernel⟩
theorem lX3_179 : ji_in (.methodLink "BookPager$Layout" 179 ⟨"BookPager$Layout", "rowsBetween", "(II)I"⟩) := ⟨List.mem_of_getElem? (i := 593) (by decide +kernel), by decide +kernel⟩
theorem lX3_182 : ji_in (.methodLink "BookPager$Layout" 182 ⟨"BookPager$Layout", "notesOfPage", "(I)I"⟩) := ⟨List.mem_of_getElem? (i := 601) (by decide +kernel), by decide +kernel⟩
theorem lX3_185 : ji_in (.methodLink "BookPager$Layout" 185 ⟨"BookPager$Words", "signOfLine", "(IIII)I"⟩) := ⟨List.mem_of_getElem? (i := 1035) (by decide +kernel), by decide +kernel⟩
theorem lX3_189 : ji_in (.methodLink "BookPager$Layout" 189 ⟨"BookPager$Layout", "signOfNotes", "(III)I"⟩) := ⟨List.mem_of_getElem? (i := 1042) (by decide +kernel), by decide +kernel⟩
theorem lX3_192 : ji_in (.methodLink "BookPager$Layout" 192 ⟨"BookPager$Words", "firstOfLine", "(II)I"⟩) := ⟨List.mem_of_getElem? (i := 1046) (by decide +kernel), by decide +kernel⟩
theorem lX4_3 : ji_in (.methodLink "BookPager$Marks" 3 ⟨"java/lang/Object", "<init>", "()V"⟩) := ⟨List.mem_of_getElem? (i := 234) (by decide +kernel), by decide +kernel⟩
theorem lX4_9 : ji_in (.fieldLink "BookPager$Marks" 9 "BookPager$Marks" "jumpedFrom" "[I") := ⟨List.mem_of_getElem? (i := 237) (by decide +kernel), by decide +kernel⟩
theorem lX4_15 : ji_in (.fieldLink "BookPager$Marks" 15 "BookPager$Marks" "froms" "[I") := ⟨List.mem_of_getElem? (i := 239) (by decide +kernel), by decide +kernel⟩
theorem lX4_18 : ji_in (.fieldLink "BookPager$Marks" 18 "BookPager$Marks" "tos" "[I") := ⟨List.mem_of_getElem? (i := 240) (by decide +kernel), by decide +kernel⟩
theorem lX4_21 : ji_in (.fieldLink "BookPager$Marks" 21 "BookPager$Marks" "colors" "[I") := ⟨List.mem_of_getElem? (i := 241) (by decide +kernel), by decide +kernel⟩
theorem lX4_24 : ji_in (.fieldLink "BookPager$Marks" 24 "BookPager$Marks" "reader" "I") := ⟨List.mem_of_getElem? (i := 235) (by decide +kernel), by decide +kernel⟩
theorem lX4_28 : ji_in (.fieldLink "BookPager$Marks" 28 "BookPager$Marks" "jumps" "I") := ⟨List.mem_of_getElem? (i := 236) (by decide +kernel), by decide +kernel⟩
theorem lX4_31 : ji_in (.fieldLink "BookPager$Marks" 31 "BookPager$Marks" "annotations" "I") := ⟨List.mem_of_getElem? (i := 238) (by decide +kernel), by decide +kernel⟩
theorem lX4_34 : ji_in (.methodLink "BookPager$Marks" 34 ⟨"java/lang/System", "arraycopy", "(Ljava/lang/Object;ILjava/lang/Object;II)V"⟩) := ⟨List.mem_of_getElem? (i := 1102) (by decide +kernel), by decide +kernel⟩
theorem lX4_40 : ji_in (.methodLink "BookPager$Marks" 40 ⟨"BookPager$Marks", "exists", "(I)Z"⟩) := ⟨List.mem_of_getElem? (i := 660) (by decide +kernel), by decide +kernel⟩
theorem lX4_44 : ji_in (.methodLink "BookPager$Marks" 44 ⟨"BookPager$Marks", "fromOf", "(I)I"⟩) := ⟨List.mem_of_getElem? (i := 656) (by decide +kernel), by decide +kernel⟩
theorem lX4_48 : ji_in (.methodLink "BookPager$Marks" 48 ⟨"BookPager$Marks", "toOf", "(I)I"⟩) := ⟨List.mem_of_getElem? (i := 664) (by decide +kernel), by decide +kernel⟩
theorem lX4_51 : ji_in (.methodLink "BookPager$Marks" 51 ⟨"BookPager$Marks", "isLost", "(I)Z"⟩) := ⟨List.mem_of_getElem? (i := 652) (by decide +kernel), by decide +kernel⟩
theorem lX4_54 : ji_in (.methodLink "BookPager$Marks" 54 ⟨"BookPager$Marks", "opened", "(III)I"⟩) := ⟨List.mem_of_getElem? (i := 1257) (by decide +kernel), by decide +kernel⟩
theorem lX4_58 : ji_in (.methodLink "BookPager$Marks" 58 ⟨"BookPager$Marks", "closed", "(IIII)I"⟩) := ⟨List.mem_of_getElem? (i := 1277) (by decide +kernel), by decide +kernel⟩
theorem lX5_3 : ji_in (.methodLink "BookPager$Syntax" 3 ⟨"java/lang/Object", "<init>", "()V"⟩) := ⟨List.mem_of_getElem? (i := 164) (by decide +kernel), by decide +kernel⟩
theorem lX5_9 : ji_in (.fieldLink "BookPager$Syntax" 9 "BookPager$Syntax" "asBook" "Z") := ⟨List.mem_of_getElem? (i := 165) (by decide +kernel), by decide +kernel⟩
theorem lX5_15 : ji_in (.fieldLink "BookPager$Syntax" 15 "BookPager$Syntax" "paragraphs" "I") := ⟨List.mem_of_getElem? (i := 167) (by decide +kernel), by decide +kernel⟩
theorem lX5_19 : ji_in (.methodLink "BookPager$Syntax" 19 ⟨"BookPager$Syntax", "beginParagraph", "()V"⟩) := ⟨List.mem_of_getElem? (i := 392) (by decide +kernel), by decide +kernel⟩
theorem lX5_22 : ji_in (.fieldLink "BookPager$Syntax" 22 "BookPager$Syntax" "kindMayCome" "Z") := ⟨List.mem_of_getElem? (i := 166) (by decide +kernel), by decide +kernel⟩
theorem lX5_25 : ji_in (.fieldLink "BookPager$Syntax" 25 "BookPager$Syntax" "words" "I") := ⟨List.mem_of_getElem? (i := 168) (by decide +kernel), by decide +kernel⟩
theorem lX5_28 : ji_in (.methodLink "BookPager$Syntax" 28 ⟨"BookPager$Syntax", "beginWord", "()V"⟩) := ⟨List.mem_of_getElem? (i := 396) (by decide +kernel), by decide +kernel⟩
theorem lX5_31 : ji_in (.fieldLink "BookPager$Syntax" 31 "BookPager$Syntax" "signs" "I") := ⟨List.mem_of_getElem? (i := 169) (by decide +kernel), by decide +kernel⟩
theorem lX5_34 : ji_in (.fieldLink "BookPager$Syntax" 34 "BookPager$Syntax" "digitMustCome" "Z") := ⟨List.mem_of_getElem? (i := 170) (by decide +kernel), by decide +kernel⟩
theorem lX5_37 : ji_in (.fieldLink "BookPager$Syntax" 37 "BookPager$Syntax" "hasReference" "Z") := ⟨List.mem_of_getElem? (i := 171) (by decide +kernel), by decide +kernel⟩
theorem lX5_40 : ji_in (.methodLink "BookPager$Syntax" 40 ⟨"BookPager$Syntax", "isDigit", "(C)Z"⟩) := ⟨List.mem_of_getElem? (i := 408) (by decide +kernel), by decide +kernel⟩
theorem lX5_44 : ji_in (.methodLink "BookPager$Syntax" 44 ⟨"BookPager$Syntax", "isSignOfWord", "(C)Z"⟩) := ⟨List.mem_of_getElem? (i := 411) (by decide +kernel), by decide +kernel⟩
theorem lX6_3 : ji_in (.methodLink "BookPager$Words" 3 ⟨"java/lang/Object", "<init>", "()V"⟩) := ⟨List.mem_of_getElem? (i := 206) (by decide +kernel), by decide +kernel⟩
theorem lX6_9 : ji_in (.fieldLink "BookPager$Words" 9 "BookPager$Words" "text" "[C") := ⟨List.mem_of_getElem? (i := 207) (by decide +kernel), by decide +kernel⟩
theorem lX6_15 : ji_in (.fieldLink "BookPager$Words" 15 "BookPager$Words" "starts" "[I") := ⟨List.mem_of_getElem? (i := 208) (by decide +kernel), by decide +kernel⟩
theorem lX6_19 : ji_in (.methodLink "BookPager$Words" 19 ⟨"BookPager$Words", "endOf", "(I)I"⟩) := ⟨List.mem_of_getElem? (i := 450) (by decide +kernel), by decide +kernel⟩
theorem lX6_23 : ji_in (.methodLink "BookPager$Words" 23 ⟨"BookPager$Words", "signAt", "(I)I"⟩) := ⟨List.mem_of_getElem? (i := 495) (by decide +kernel), by decide +kernel⟩
theorem lX6_26 : ji_in (.methodLink "BookPager$Words" 26 ⟨"BookPager$Words", "startOf", "(I)I"⟩) := ⟨List.mem_of_getElem? (i := 446) (by decide +kernel), by decide +kernel⟩
theorem lX6_29 : ji_in (.methodLink "BookPager$Words" 29 ⟨"BookPager$Words", "size", "()I"⟩) := ⟨List.mem_of_getElem? (i := 438) (by decide +kernel), by decide +kernel⟩
theorem lX6_33 : ji_in (.methodLink "BookPager$Words" 33 ⟨"BookPager$Words", "lineEnd", "(III)I"⟩) := ⟨List.mem_of_getElem? (i := 442) (by decide +kernel), by decide +kernel⟩
theorem lX6_37 : ji_in (.methodLink "BookPager$Words" 37 ⟨"java/lang/System", "arraycopy", "(Ljava/lang/Object;ILjava/lang/Object;II)V"⟩) := ⟨List.mem_of_getElem? (i := 1236) (by decide +kernel), by decide +kernel⟩
theorem lX6_10 : ji_in (.classLink "BookPager$Words" 10 "BookPager$Words") := ⟨List.mem_of_getElem? (i := 1237) (by decide +kernel), by decide +kernel⟩
theorem lX6_43 : ji_in (.methodLink "BookPager$Words" 43 ⟨"BookPager$Words", "<init>", "([C)V"⟩) := ⟨List.mem_of_getElem? (i := 1238) (by decide +kernel), by decide +kernel⟩
theorem lL_7 : ji_in (.methodLink "BookPagerLaw" 7 ⟨"BookPager", "append", "(I)I"⟩) := ⟨List.mem_of_getElem? (i := 791) (by decide +kernel), by decide +kernel⟩
theorem lL_17 : ji_in (.methodLink "BookPagerLaw" 17 ⟨"BookPager", "load", "()I"⟩) := ⟨List.mem_of_getElem? (i := 890) (by decide +kernel), by decide +kernel⟩
theorem lL_21 : ji_in (.methodLink "BookPagerLaw" 21 ⟨"BookPager", "setNote", "(I)I"⟩) := ⟨List.mem_of_getElem? (i := 928) (by decide +kernel), by decide +kernel⟩
theorem lL_26 : ji_in (.methodLink "BookPagerLaw" 26 ⟨"BookPager", "removeNote", "(I)I"⟩) := ⟨List.mem_of_getElem? (i := 967) (by decide +kernel), by decide +kernel⟩
theorem lL_29 : ji_in (.methodLink "BookPagerLaw" 29 ⟨"BookPager", "setSize", "(II)I"⟩) := ⟨List.mem_of_getElem? (i := 975) (by decide +kernel), by decide +kernel⟩
theorem lL_33 : ji_in (.methodLink "BookPagerLaw" 33 ⟨"BookPager", "setStyle", "(II)I"⟩) := ⟨List.mem_of_getElem? (i := 987) (by decide +kernel), by decide +kernel⟩
theorem lL_36 : ji_in (.methodLink "BookPagerLaw" 36 ⟨"BookPager", "page", "(II)I"⟩) := ⟨List.mem_of_getElem? (i := 998) (by decide +kernel), by decide +kernel⟩
theorem lL_39 : ji_in (.methodLink "BookPagerLaw" 39 ⟨"BookPager", "line", "(II)I"⟩) := ⟨List.mem_of_getElem? (i := 1014) (by decide +kernel), by decide +kernel⟩
theorem lL_42 : ji_in (.methodLink "BookPagerLaw" 42 ⟨"BookPager", "shown", "(III)I"⟩) := ⟨List.mem_of_getElem? (i := 1026) (by decide +kernel), by decide +kernel⟩
theorem lL_46 : ji_in (.methodLink "BookPagerLaw" 46 ⟨"BookPager", "noteOn", "(II)I"⟩) := ⟨List.mem_of_getElem? (i := 1053) (by decide +kernel), by decide +kernel⟩
theorem lL_49 : ji_in (.methodLink "BookPagerLaw" 49 ⟨"BookPager", "pageOf", "(II)I"⟩) := ⟨List.mem_of_getElem? (i := 1065) (by decide +kernel), by decide +kernel⟩
theorem lL_52 : ji_in (.methodLink "BookPagerLaw" 52 ⟨"BookPager", "floating", "(IZ)I"⟩) := ⟨List.mem_of_getElem? (i := 1082) (by decide +kernel), by decide +kernel⟩
theorem lL_56 : ji_in (.methodLink "BookPagerLaw" 56 ⟨"BookPager", "go", "(II)I"⟩) := ⟨List.mem_of_getElem? (i := 1094) (by decide +kernel), by decide +kernel⟩
theorem lL_59 : ji_in (.methodLink "BookPagerLaw" 59 ⟨"BookPager", "back", "()I"⟩) := ⟨List.mem_of_getElem? (i := 1108) (by decide +kernel), by decide +kernel⟩
theorem lL_62 : ji_in (.methodLink "BookPagerLaw" 62 ⟨"BookPager", "find", "(Z)I"⟩) := ⟨List.mem_of_getElem? (i := 1120) (by decide +kernel), by decide +kernel⟩
theorem lL_66 : ji_in (.methodLink "BookPagerLaw" 66 ⟨"BookPager", "count", "(I)I"⟩) := ⟨List.mem_of_getElem? (i := 1143) (by decide +kernel), by decide +kernel⟩
theorem lL_69 : ji_in (.methodLink "BookPagerLaw" 69 ⟨"BookPager", "paragraph", "(II)I"⟩) := ⟨List.mem_of_getElem? (i := 1150) (by decide +kernel), by decide +kernel⟩
theorem lL_72 : ji_in (.methodLink "BookPagerLaw" 72 ⟨"BookPager", "letter", "(II)I"⟩) := ⟨List.mem_of_getElem? (i := 1157) (by decide +kernel), by decide +kernel⟩
theorem lL_75 : ji_in (.methodLink "BookPagerLaw" 75 ⟨"BookPager", "annotate", "(IIII)I"⟩) := ⟨List.mem_of_getElem? (i := 1164) (by decide +kernel), by decide +kernel⟩
theorem lL_79 : ji_in (.methodLink "BookPagerLaw" 79 ⟨"BookPager", "annotation", "(II)I"⟩) := ⟨List.mem_of_getElem? (i := 1178) (by decide +kernel), by decide +kernel⟩
theorem lL_82 : ji_in (.methodLink "BookPagerLaw" 82 ⟨"BookPager", "removeAnnotation", "(I)I"⟩) := ⟨List.mem_of_getElem? (i := 1190) (by decide +kernel), by decide +kernel⟩
theorem lL_85 : ji_in (.methodLink "BookPagerLaw" 85 ⟨"BookPager", "insert", "(II)I"⟩) := ⟨List.mem_of_getElem? (i := 1201) (by decide +kernel), by decide +kernel⟩
theorem lL_88 : ji_in (.methodLink "BookPagerLaw" 88 ⟨"BookPager", "delete", "(III)I"⟩) := ⟨List.mem_of_getElem? (i := 1263) (by decide +kernel), by decide +kernel⟩
theorem lL_91 : ji_in (.methodLink "BookPagerLaw" 91 ⟨"BookPager", "split", "(II)I"⟩) := ⟨List.mem_of_getElem? (i := 1283) (by decide +kernel), by decide +kernel⟩
theorem lL_94 : ji_in (.methodLink "BookPagerLaw" 94 ⟨"BookPager", "join", "(I)I"⟩) := ⟨List.mem_of_getElem? (i := 1301) (by decide +kernel), by decide +kernel⟩
theorem lL_97 : ji_in (.methodLink "BookPagerLaw" 97 ⟨"BookPager", "undo", "()I"⟩) := ⟨List.mem_of_getElem? (i := 1313) (by decide +kernel), by decide +kernel⟩
theorem lL_100 : ji_in (.methodLink "BookPagerLaw" 100 ⟨"BookPager", "ifSize", "(III)I"⟩) := ⟨List.mem_of_getElem? (i := 1329) (by decide +kernel), by decide +kernel⟩
theorem lL_103 : ji_in (.methodLink "BookPagerLaw" 103 ⟨"BookPager", "fit", "(I)I"⟩) := ⟨List.mem_of_getElem? (i := 1336) (by decide +kernel), by decide +kernel⟩
theorem lL_8 : ji_in (.classLink "BookPagerLaw" 8 "BookPager") := ⟨List.mem_of_getElem? (i := 145) (by decide +kernel), by decide +kernel⟩
theorem lL_106 : ji_in (.methodLink "BookPagerLaw" 106 ⟨"BookPager", "<init>", "()V"⟩) := ⟨List.mem_of_getElem? (i := 147) (by decide +kernel), by decide +kernel⟩
theorem lL_107 : ji_in (.classLink "BookPagerLaw" 107 "BookPagerModel") := ⟨List.mem_of_getElem? (i := 1341) (by decide +kernel), by decide +kernel⟩
theorem lL_109 : ji_in (.methodLink "BookPagerLaw" 109 ⟨"BookPagerModel", "<init>", "()V"⟩) := ⟨List.mem_of_getElem? (i := 1343) (by decide +kernel), by decide +kernel⟩
theorem lL_110 : ji_in (.methodLink "BookPagerLaw" 110 ⟨"BookPagerLaw", "append", "(LBookPager;I[J)I"⟩) := ⟨List.mem_of_getElem? (i := 786) (by decide +kernel), by decide +kernel⟩
theorem lL_115 : ji_in (.methodLink "BookPagerLaw" 115 ⟨"BookPagerModel", "append", "(I)I"⟩) := ⟨List.mem_of_getElem? (i := 1427) (by decide +kernel), by decide +kernel⟩
theorem lL_116 : ji_in (.methodLink "BookPagerLaw" 116 ⟨"BookPagerModel", "thrown", "()I"⟩) := ⟨List.mem_of_getElem? (i := 1423) (by decide +kernel), by decide +kernel⟩
theorem lL_119 : ji_in (.methodLink "BookPagerLaw" 119 ⟨"BookPager", "clearInput", "()I"⟩) := ⟨List.mem_of_getElem? (i := 368) (by decide +kernel), by decide +kernel⟩
theorem lL_122 : ji_in (.methodLink "BookPagerLaw" 122 ⟨"BookPagerModel", "clearInput", "()I"⟩) := ⟨List.mem_of_getElem? (i := 1434) (by decide +kernel), by decide +kernel⟩
theorem lL_123 : ji_in (.methodLink "BookPagerLaw" 123 ⟨"BookPager", "firstError", "(Z)I"⟩) := ⟨List.mem_of_getElem? (i := 380) (by decide +kernel), by decide +kernel⟩
theorem lL_126 : ji_in (.methodLink "BookPagerLaw" 126 ⟨"BookPagerModel", "firstError", "(Z)I"⟩) := ⟨List.mem_of_getElem? (i := 1438) (by decide +kernel), by decide +kernel⟩
theorem lL_127 : ji_in (.methodLink "BookPagerLaw" 127 ⟨"BookPagerLaw", "load", "(LBookPager;[J)I"⟩) := ⟨List.mem_of_getElem? (i := 887) (by decide +kernel), by decide +kernel⟩
theorem lL_130 : ji_in (.methodLink "BookPagerLaw" 130 ⟨"BookPagerModel", "load", "()I"⟩) := ⟨List.mem_of_getElem? (i := 1465) (by decide +kernel), by decide +kernel⟩
theorem lL_131 : ji_in (.methodLink "BookPagerLaw" 131 ⟨"BookPagerLaw", "setNote", "(LBookPager;I[J)I"⟩) := ⟨List.mem_of_getElem? (i := 924) (by decide +kernel), by decide +kernel⟩
theorem lL_133 : ji_in (.methodLink "BookPagerLaw" 133 ⟨"BookPagerModel", "setNote", "(I)I"⟩) := ⟨List.mem_of_getElem? (i := 1477) (by decide +kernel), by decide +kernel⟩
theorem lL_134 : ji_in (.methodLink "BookPagerLaw" 134 ⟨"BookPagerLaw", "removeNote", "(LBookPager;I[J)I"⟩) := ⟨List.mem_of_getElem? (i := 964) (by decide +kernel), by decide +kernel⟩
theorem lL_136 : ji_in (.methodLink "BookPagerLaw" 136 ⟨"BookPagerModel", "removeNote", "(I)I"⟩) := ⟨List.mem_of_getElem? (i := 1485) (by decide +kernel), by decide +kernel⟩
theorem lL_137 : ji_in (.methodLink "BookPagerLaw" 137 ⟨"BookPagerLaw", "setSize", "(LBookPager;II[J)I"⟩) := ⟨List.mem_of_getElem? (i := 972) (by decide +kernel), by decide +kernel⟩
theorem lL_140 : ji_in (.methodLink "BookPagerLaw" 140 ⟨"BookPagerModel", "setSize", "(II)I"⟩) := ⟨List.mem_of_getElem? (i := 1489) (by decide +kernel), by decide +kernel⟩
theorem lL_141 : ji_in (.methodLink "BookPagerLaw" 141 ⟨"BookPagerLaw", "setStyle", "(LBookPager;II[J)I"⟩) := ⟨List.mem_of_getElem? (i := 984) (by decide +kernel), by decide +kernel⟩
theorem lL_143 : ji_in (.methodLink "BookPagerLaw" 143 ⟨"BookPagerModel", "setStyle", "(II)I"⟩) := ⟨List.mem_of_getElem? (i := 1569) (by decide +kernel), by decide +kernel⟩
theorem lL_144 : ji_in (.methodLink "BookPagerLaw" 144 ⟨"BookPagerLaw", "page", "(LBookPager;II[J)I"⟩) := ⟨List.mem_of_getElem? (i := 995) (by decide +kernel), by decide +kernel⟩
theorem lL_146 : ji_in (.methodLink "BookPagerLaw" 146 ⟨"BookPagerModel", "page", "(II)I"⟩) := ⟨List.mem_of_getElem? (i := 1573) (by decide +kernel), by decide +kernel⟩
theorem lL_147 : ji_in (.methodLink "BookPagerLaw" 147 ⟨"BookPagerLaw", "line", "(LBookPager;II[J)I"⟩) := ⟨List.mem_of_getElem? (i := 1011) (by decide +kernel), by decide +kernel⟩
theorem lL_149 : ji_in (.methodLink "BookPagerLaw" 149 ⟨"BookPagerModel", "line", "(II)I"⟩) := ⟨List.mem_of_getElem? (i := 1605) (by decide +kernel), by decide +kernel⟩
theorem lL_150 : ji_in (.methodLink "BookPagerLaw" 150 ⟨"BookPagerLaw", "shown", "(LBookPager;III[J)I"⟩) := ⟨List.mem_of_getElem? (i := 1023) (by decide +kernel), by decide +kernel⟩
theorem lL_153 : ji_in (.methodLink "BookPagerLaw" 153 ⟨"BookPagerModel", "shown", "(III)I"⟩) := ⟨List.mem_of_getElem? (i := 1629) (by decide +kernel), by decide +kernel⟩
theorem lL_154 : ji_in (.methodLink "BookPagerLaw" 154 ⟨"BookPagerLaw", "noteOn", "(LBookPager;II[J)I"⟩) := ⟨List.mem_of_getElem? (i := 1050) (by decide +kernel), by decide +kernel⟩
theorem lL_156 : ji_in (.methodLink "BookPagerLaw" 156 ⟨"BookPagerModel", "noteOn", "(II)I"⟩) := ⟨List.mem_of_getElem? (i := 1645) (by decide +kernel), by decide +kernel⟩
theorem lL_157 : ji_in (.methodLink "BookPagerLaw" 157 ⟨"BookPagerLaw", "pageOf", "(LBookPager;II[J)I"⟩) := ⟨List.mem_of_getElem? (i := 1062) (by decide +kernel), by decide +kernel⟩
theorem lL_159 : ji_in (.methodLink "BookPagerLaw" 159 ⟨"BookPagerModel", "pageOf", "(II)I"⟩) := ⟨List.mem_of_getElem? (i := 1653) (by decide +kernel), by decide +kernel⟩
theorem lL_160 : ji_in (.methodLink "BookPagerLaw" 160 ⟨"BookPagerLaw", "floating", "(LBookPager;IZ[J)I"⟩) := ⟨List.mem_of_getElem? (i := 1079) (by decide +kernel), by decide +kernel⟩
theorem lL_163 : ji_in (.methodLink "BookPagerLaw" 163 ⟨"BookPagerModel", "floating", "(IZ)I"⟩) := ⟨List.mem_of_getElem? (i := 1669) (by decide +kernel), by decide +kernel⟩
theorem lL_164 : ji_in (.methodLink "BookPagerLaw" 164 ⟨"BookPagerLaw", "go", "(LBookPager;II[J)I"⟩) := ⟨List.mem_of_getElem? (i := 1091) (by decide +kernel), by decide +kernel⟩
theorem lL_166 : ji_in (.methodLink "BookPagerLaw" 166 ⟨"BookPagerModel", "go", "(II)I"⟩) := ⟨List.mem_of_getElem? (i := 1677) (by decide +kernel), by decide +kernel⟩
theorem lL_167 : ji_in (.methodLink "BookPagerLaw" 167 ⟨"BookPager", "turn", "(Z)I"⟩) := ⟨List.mem_of_getElem? (i := 414) (by decide +kernel), by decide +kernel⟩
theorem lL_170 : ji_in (.methodLink "BookPagerLaw" 170 ⟨"BookPagerModel", "turn", "(Z)I"⟩) := ⟨List.mem_of_getElem? (i := 1693) (by decide +kernel), by decide +kernel⟩
theorem lL_171 : ji_in (.methodLink "BookPagerLaw" 171 ⟨"BookPagerLaw", "back", "(LBookPager;[J)I"⟩) := ⟨List.mem_of_getElem? (i := 1105) (by decide +kernel), by decide +kernel⟩
theorem lL_173 : ji_in (.methodLink "BookPagerLaw" 173 ⟨"BookPagerModel", "back", "()I"⟩) := ⟨List.mem_of_getElem? (i := 1697) (by decide +kernel), by decide +kernel⟩
theorem lL_174 : ji_in (.methodLink "BookPagerLaw" 174 ⟨"BookPagerLaw", "find", "(LBookPager;Z[J)I"⟩) := ⟨List.mem_of_getElem? (i := 1117) (by decide +kernel), by decide +kernel⟩
theorem lL_177 : ji_in (.methodLink "BookPagerLaw" 177 ⟨"BookPagerModel", "find", "(Z)I"⟩) := ⟨List.mem_of_getElem? (i := 1701) (by decide +kernel), by decide +kernel⟩
theorem lL_178 : ji_in (.methodLink "BookPagerLaw" 178 ⟨"BookPagerLaw", "count", "(LBookPager;I[J)I"⟩) := ⟨List.mem_of_getElem? (i := 1140) (by decide +kernel), by decide +kernel⟩
theorem lL_180 : ji_in (.methodLink "BookPagerLaw" 180 ⟨"BookPagerModel", "count", "(I)I"⟩) := ⟨List.mem_of_getElem? (i := 1713) (by decide +kernel), by decide +kernel⟩
theorem lL_181 : ji_in (.methodLink "BookPagerLaw" 181 ⟨"BookPagerLaw", "paragraph", "(LBookPager;II[J)I"⟩) := ⟨List.mem_of_getElem? (i := 1147) (by decide +kernel), by decide +kernel⟩
theorem lL_183 : ji_in (.methodLink "BookPagerLaw" 183 ⟨"BookPagerModel", "paragraph", "(II)I"⟩) := ⟨List.mem_of_getElem? (i := 1737) (by decide +kernel), by decide +kernel⟩
theorem lL_184 : ji_in (.methodLink "BookPagerLaw" 184 ⟨"BookPagerLaw", "letter", "(LBookPager;II[J)I"⟩) := ⟨List.mem_of_getElem? (i := 1154) (by decide +kernel), by decide +kernel⟩
theorem lL_186 : ji_in (.methodLink "BookPagerLaw" 186 ⟨"BookPagerModel", "letter", "(II)I"⟩) := ⟨List.mem_of_getElem? (i := 1753) (by decide +kernel), by decide +kernel⟩
theorem lL_187 : ji_in (.methodLink "BookPagerLaw" 187 ⟨"BookPagerLaw", "annotate", "(LBookPager;IIII[J)I"⟩) := ⟨List.mem_of_getElem? (i := 1161) (by decide +kernel), by decide +kernel⟩
theorem lL_190 : ji_in (.methodLink "BookPagerLaw" 190 ⟨"BookPagerModel", "annotate", "(IIII)I"⟩) := ⟨List.mem_of_getElem? (i := 1757) (by decide +kernel), by decide +kernel⟩
theorem lL_191 : ji_in (.methodLink "BookPagerLaw" 191 ⟨"BookPagerLaw", "annotation", "(LBookPager;II[J)I"⟩) := ⟨List.mem_of_getElem? (i := 1175) (by decide +kernel), by decide +kernel⟩
theorem lL_193 : ji_in (.methodLink "BookPagerLaw" 193 ⟨"BookPagerModel", "annotation", "(II)I"⟩) := ⟨List.mem_of_getElem? (i := 1761) (by decide +kernel), by decide +kernel⟩
theorem lL_194 : ji_in (.methodLink "BookPagerLaw" 194 ⟨"BookPagerLaw", "removeAnnotation", "(LBookPager;I[J)I"⟩) := ⟨List.mem_of_getElem? (i := 1187) (by decide +kernel), by decide +kernel⟩
theorem lL_196 : ji_in (.methodLink "BookPagerLaw" 196 ⟨"BookPagerModel", "removeAnnotation", "(I)I"⟩) := ⟨List.mem_of_getElem? (i := 1773) (by decide +kernel), by decide +kernel⟩
theorem lL_197 : ji_in (.methodLink "BookPagerLaw" 197 ⟨"BookPagerLaw", "insert", "(LBookPager;II[J)I"⟩) := ⟨List.mem_of_getElem? (i := 1198) (by decide +kernel), by decide +kernel⟩
theorem lL_199 : ji_in (.methodLink "BookPagerLaw" 199 ⟨"BookPagerModel", "insert", "(II)I"⟩) := ⟨List.mem_of_getElem? (i := 1781) (by decide +kernel), by decide +kernel⟩
theorem lL_200 : ji_in (.methodLink "BookPagerLaw" 200 ⟨"BookPagerLaw", "delete", "(LBookPager;III[J)I"⟩) := ⟨List.mem_of_getElem? (i := 1260) (by decide +kernel), by decide +kernel⟩
theorem lL_202 : ji_in (.methodLink "BookPagerLaw" 202 ⟨"BookPagerModel", "delete", "(III)I"⟩) := ⟨List.mem_of_getElem? (i := 1805) (by decide +kernel), by decide +kernel⟩
theorem lL_203 : ji_in (.methodLink "BookPagerLaw" 203 ⟨"BookPagerLaw", "split", "(LBookPager;II[J)I"⟩) := ⟨List.mem_of_getElem? (i := 1280) (by decide +kernel), by decide +kernel⟩
theorem lL_205 : ji_in (.methodLink "BookPagerLaw" 205 ⟨"BookPagerModel", "split", "(II)I"⟩) := ⟨List.mem_of_getElem? (i := 1816) (by decide +kernel), by decide +kernel⟩
theorem lL_206 : ji_in (.methodLink "BookPagerLaw" 206 ⟨"BookPagerLaw", "join", "(LBookPager;I[J)I"⟩) := ⟨List.mem_of_getElem? (i := 1298) (by decide +kernel), by decide +kernel⟩
theorem lL_208 : ji_in (.methodLink "BookPagerLaw" 208 ⟨"BookPagerModel", "join", "(I)I"⟩) := ⟨List.mem_of_getElem? (i := 1836) (by decide +kernel), by decide +kernel⟩
theorem lL_209 : ji_in (.methodLink "BookPagerLaw" 209 ⟨"BookPagerLaw", "undo", "(LBookPager;[J)I"⟩) := ⟨List.mem_of_getElem? (i := 1310) (by decide +kernel), by decide +kernel⟩
theorem lL_211 : ji_in (.methodLink "BookPagerLaw" 211 ⟨"BookPagerModel", "undo", "()I"⟩) := ⟨List.mem_of_getElem? (i := 1777) (by decide +kernel), by decide +kernel⟩
theorem lL_212 : ji_in (.methodLink "BookPagerLaw" 212 ⟨"BookPagerLaw", "ifSize", "(LBookPager;III[J)I"⟩) := ⟨List.mem_of_getElem? (i := 1326) (by decide +kernel), by decide +kernel⟩
theorem lL_214 : ji_in (.methodLink "BookPagerLaw" 214 ⟨"BookPagerModel", "ifSize", "(III)I"⟩) := ⟨List.mem_of_getElem? (i := 1844) (by decide +kernel), by decide +kernel⟩
theorem lL_215 : ji_in (.methodLink "BookPagerLaw" 215 ⟨"BookPagerLaw", "fit", "(LBookPager;I[J)I"⟩) := ⟨List.mem_of_getElem? (i := 1333) (by decide +kernel), by decide +kernel⟩
theorem lL_217 : ji_in (.methodLink "BookPagerLaw" 217 ⟨"BookPagerModel", "fit", "(I)I"⟩) := ⟨List.mem_of_getElem? (i := 1848) (by decide +kernel), by decide +kernel⟩
theorem lL_218 : ji_in (.methodLink "BookPagerLaw" 218 ⟨"BookPager", "fullness", "()D"⟩) := ⟨List.mem_of_getElem? (i := 585) (by decide +kernel), by decide +kernel⟩
theorem lL_222 : ji_in (.methodLink "BookPagerLaw" 222 ⟨"BookPagerModel", "fullness", "()D"⟩) := ⟨List.mem_of_getElem? (i := 1856) (by decide +kernel), by decide +kernel⟩
theorem lL_223 : ji_in (.methodLink "BookPagerLaw" 223 ⟨"BookPager", "digest", "()J"⟩) := ⟨List.mem_of_getElem? (i := 605) (by decide +kernel), by decide +kernel⟩
theorem lL_227 : ji_in (.methodLink "BookPagerLaw" 227 ⟨"BookPagerModel", "digest", "()J"⟩) := ⟨List.mem_of_getElem? (i := 1860) (by decide +kernel), by decide +kernel⟩
theorem ji_wobj : ji_in (.instanceMethod Lib.objectInit) ∧ ji_in (.code Lib.objectInit ⟨#[0xb1]⟩ 1 none) := ⟨⟨by decide +kernel, by decide +kernel⟩, ⟨by decide +kernel, by decide +kernel⟩⟩
