/**
 * A pager for electronic books.
 *
 * <p>Inside, all paragraphs stand in one row of characters with a blank between two words, also where
 * a paragraph ends; an index of this row is called a place. So a place stays the same when paragraphs
 * are split or joined, and the places in all paragraphs are ordered as the positions are.
 */
public final class BookPager {
    public static final int NONE = -1;

    private static final int BODY = 0;
    private static final int HEADING = 1;
    private static final int QUOTE = 2;

    private static final int INDENT = 0;
    private static final int QUOTE_INDENT = 1;
    private static final int GAP = 2;
    private static final int KEEPING = 3;
    private static final int FOOTNOTES = 4;
    private static final int[] STYLE_LIMITS = {4, 4, 2, 1, 1};

    private static final int LEAST_WIDTH = 18;
    private static final int MOST_WIDTH = 60;
    private static final int LEAST_HEIGHT = 2;
    private static final int MOST_HEIGHT = 20;

    private static final int MOST_INPUT = 100;
    private static final int MOST_PARAGRAPHS = 10;
    private static final int MOST_WORDS = 24;
    private static final int MOST_LISTED_WORDS = 12;
    private static final int MOST_SIGNS = 12;
    private static final int MOST_LINES = MOST_PARAGRAPHS * MOST_WORDS;
    private static final int NOTES = 10;
    private static final int COLORS = 8;
    private static final int MOST_ANNOTATIONS = 12;
    private static final int MOST_JUMPS = 5;
    private static final int MOST_EDITS = 4;

    private static final int COUNTS = 12;
    private static final int PARAGRAPH_PROPERTIES = 5;
    private static final int LINE_PROPERTIES = 6;
    private static final int PAGE_PROPERTIES = 7;
    private static final int ANNOTATION_PROPERTIES = 6;
    private static final int SIZE_PROPERTIES = 3;

    private static final int POSITIONS_OF_PARAGRAPH = 1000;
    private static final long FIRST_HASH = 1931L;

    private final Input input;
    private final Words[] notes;
    private final int[] style;
    private int width;
    private int height;
    private Book book;
    private final Marks marks;
    private final History history;
    private final Layout layout;
    private final Layout trial;
    private boolean stale;

    public BookPager() {
        input = new Input();
        notes = new Words[NOTES];
        style = new int[] {2, 4, 0, 0, 0};
        width = 30;
        height = 8;
        book = new Book(new Words(new char[] {'a'}), new int[] {BODY}, new int[] {0, 1});
        marks = new Marks();
        history = new History();
        layout = new Layout(book, notes, style);
        trial = new Layout(book, notes, style);
        stale = true;
    }

    // ---- input

    public int append(int code) throws IllegalArgumentException, IllegalStateException {
        if (code < 32 || code > 126) {
            throw new IllegalArgumentException("code is not 32 to 126");
        }
        if (input.isFull()) {
            throw new IllegalStateException("the buffer is full");
        }
        input.put((char) code);
        return input.length();
    }

    public int clearInput() {
        int length = input.length();
        input.empty();
        return length;
    }

    public int firstError(boolean book) {
        return input.firstFault(book);
    }

    public int load() throws IllegalStateException {
        if (!input.isWhole(true)) {
            throw new IllegalStateException("the buffer is not a book");
        }
        book = input.toBook();
        input.empty();
        marks.reset();
        history.forget();
        stale = true;
        return book.paragraphs();
    }

    public int setNote(int note) throws IndexOutOfBoundsException, IllegalStateException {
        checkNote(note);
        checkWordList();
        int before = wordsOfNote(note);
        notes[note] = input.toNote(note);
        input.empty();
        stale = true;
        return before;
    }

    public int removeNote(int note) throws IndexOutOfBoundsException, IllegalStateException {
        checkNote(note);
        if (notes[note] == null) {
            throw new IllegalStateException("the note has no text");
        }
        int before = wordsOfNote(note);
        notes[note] = null;
        stale = true;
        return before;
    }

    // ---- pages

    public int setSize(int width, int height) throws IllegalArgumentException {
        checkSize(width, height);
        this.width = width;
        this.height = height;
        stale = true;
        refresh();
        return layout.pages();
    }

    public int setStyle(int what, int value) throws IllegalArgumentException {
        if (what < 0 || what >= STYLE_LIMITS.length || what >= style.length) {
            throw new IllegalArgumentException("there is no such part of the style");
        }
        if (value < 0 || value > STYLE_LIMITS[what]) {
            throw new IllegalArgumentException("value is out of range");
        }
        int before = style[what];
        style[what] = value;
        stale = true;
        return before;
    }

    public int page(int page, int what) throws IndexOutOfBoundsException, IllegalArgumentException {
        refresh();
        checkPage(page);
        checkWhat(what, PAGE_PROPERTIES);
        return pageProperty(page, what);
    }

    public int line(int line, int what) throws IndexOutOfBoundsException, IllegalArgumentException {
        refresh();
        checkLine(line);
        checkWhat(what, LINE_PROPERTIES);
        return lineProperty(line, what);
    }

    public int shown(int page, int row, int column) throws IndexOutOfBoundsException, IllegalArgumentException {
        refresh();
        checkPage(page);
        if (row < 0 || row >= height || column < 0 || column >= width) {
            throw new IllegalArgumentException("row or column is out of range");
        }
        return layout.signAt(page, row, column);
    }

    public int noteOn(int page, int index) throws IndexOutOfBoundsException {
        refresh();
        checkPage(page);
        int note = index < 0 ? NONE : layout.noteOnPage(page, index);
        if (note == NONE) {
            throw new IndexOutOfBoundsException("the page has no such note");
        }
        return note;
    }

    public int pageOf(int paragraph, int offset) throws IndexOutOfBoundsException {
        checkOffset(paragraph, offset);
        refresh();
        return layout.pageAt(book.startOf(paragraph) + offset);
    }

    public int floating(int line, boolean forward) throws IndexOutOfBoundsException {
        refresh();
        checkLine(line);
        return forward ? layout.breakFrom(line) : layout.farthestBefore(line);
    }

    // ---- the reader

    public int go(int paragraph, int offset) throws IndexOutOfBoundsException {
        checkOffset(paragraph, offset);
        refresh();
        marks.jumpTo(book.startOf(paragraph) + offset);
        return presentPage();
    }

    public int turn(boolean forward) {
        refresh();
        int page = presentPage() + (forward ? 1 : -1);
        if (page < 0 || page >= layout.pages()) {
            return NONE;
        }
        marks.setReader(layout.placeOfPage(page));
        return page;
    }

    public int back() throws IllegalStateException {
        if (marks.jumps() == 0) {
            throw new IllegalStateException("no jump is kept");
        }
        refresh();
        marks.jumpBack();
        return presentPage();
    }

    public int find(boolean forward) throws IllegalStateException {
        checkWordList();
        int word = forward ? wordBehindReader() : wordBeforeReader();
        return word == NONE ? NONE : book.positionOf(book.words().startOf(word));
    }

    public int count(int what) throws IllegalArgumentException {
        checkWhat(what, COUNTS);
        refresh();
        return countOf(what);
    }

    public int paragraph(int paragraph, int what) throws IndexOutOfBoundsException, IllegalArgumentException {
        checkParagraph(paragraph);
        checkWhat(what, PARAGRAPH_PROPERTIES);
        refresh();
        return paragraphProperty(paragraph, what);
    }

    public int letter(int paragraph, int offset) throws IndexOutOfBoundsException {
        checkOffset(paragraph, offset);
        return book.words().signAt(book.startOf(paragraph) + offset);
    }

    // ---- annotations

    public int annotate(int paragraph, int from, int to, int color)
            throws IndexOutOfBoundsException, IllegalArgumentException, IllegalStateException {
        checkOffset(paragraph, from);
        if (to <= from || to > book.lengthOf(paragraph)) {
            throw new IndexOutOfBoundsException("the text has no such offsets");
        }
        if (color < 0 || color >= COLORS) {
            throw new IllegalArgumentException("color is out of range");
        }
        if (marks.annotations() >= MOST_ANNOTATIONS) {
            throw new IllegalStateException("there are 12 annotations");
        }
        int start = book.startOf(paragraph);
        return marks.addAnnotation(start + from, start + to, color);
    }

    public int annotation(int annotation, int what) throws IndexOutOfBoundsException, IllegalArgumentException {
        checkAnnotation(annotation);
        checkWhat(what, ANNOTATION_PROPERTIES);
        refresh();
        return annotationProperty(annotation, what);
    }

    public int removeAnnotation(int annotation) throws IndexOutOfBoundsException {
        checkAnnotation(annotation);
        marks.dropAnnotation(annotation);
        return marks.annotations();
    }

    // ---- edits

    public int insert(int paragraph, int word) throws IndexOutOfBoundsException, IllegalStateException {
        checkParagraph(paragraph);
        int words = book.wordsOf(paragraph);
        if (word < 0 || word > words) {
            throw new IndexOutOfBoundsException("word is out of range");
        }
        checkWordList();
        if (words + input.wordsOfList() > MOST_WORDS) {
            throw new IllegalStateException("the paragraph would have more than 24 words");
        }
        history.keep(book, marks);
        boolean behind = word == words;
        int place = behind ? book.endOf(paragraph) : book.placeOfWord(paragraph, word);
        char[] come = behind ? input.padded(1, 0) : input.padded(0, 1);
        book = book.withInserted(paragraph, place, come);
        marks.openGap(place, come.length);
        input.empty();
        stale = true;
        return book.wordsOf(paragraph);
    }

    public int delete(int paragraph, int word, int many) throws IndexOutOfBoundsException, IllegalStateException {
        checkParagraph(paragraph);
        int words = book.wordsOf(paragraph);
        if (word < 0 || word >= words || many < 1 || many > words - word) {
            throw new IndexOutOfBoundsException("a word does not exist, or many is less than 1");
        }
        if (many == words) {
            throw new IllegalStateException("no word would be left");
        }
        history.keep(book, marks);
        boolean last = word + many == words;
        int from = last ? book.placeOfWord(paragraph, word) - 1 : book.placeOfWord(paragraph, word);
        int to = last ? book.endOf(paragraph) : book.placeOfWord(paragraph, word + many);
        book = book.withDeleted(paragraph, from, to);
        // where the last words went, the first place that went lies behind the last character now
        marks.closeGap(from, to, last ? from - 1 : from);
        stale = true;
        return book.wordsOf(paragraph);
    }

    public int split(int paragraph, int word) throws IndexOutOfBoundsException, IllegalStateException {
        checkParagraph(paragraph);
        if (word < 1 || word >= book.wordsOf(paragraph)) {
            throw new IndexOutOfBoundsException("the word does not exist, or is 0");
        }
        if (book.paragraphs() >= MOST_PARAGRAPHS) {
            throw new IllegalStateException("there are 10 paragraphs");
        }
        history.keep(book, marks);
        marks.cutAt(book.placeOfWord(paragraph, word) - 1);
        book = book.withSplit(paragraph, word);
        stale = true;
        return book.paragraphs();
    }

    public int join(int paragraph) throws IndexOutOfBoundsException, IllegalStateException {
        checkParagraph(paragraph);
        if (paragraph + 1 >= book.paragraphs()) {
            throw new IndexOutOfBoundsException("the next paragraph does not exist");
        }
        if (book.wordsOf(paragraph) + book.wordsOf(paragraph + 1) > MOST_WORDS) {
            throw new IllegalStateException("the paragraph would have more than 24 words");
        }
        history.keep(book, marks);
        book = book.withJoined(paragraph);
        stale = true;
        return book.wordsOf(paragraph);
    }

    public int undo() throws IllegalStateException {
        Book saved = history.latestBook();
        if (saved == null) {
            throw new IllegalStateException("no edit can be undone");
        }
        book = saved;
        history.bringBack(marks);
        stale = true;
        return history.edits();
    }

    // ---- other sizes

    public int ifSize(int width, int height, int what) throws IllegalArgumentException {
        checkSize(width, height);
        checkWhat(what, SIZE_PROPERTIES);
        trial.lay(book, width, height);
        switch (what) {
            case 0:
                return trial.lines();
            case 1:
                return trial.pages();
            default:
                return trial.pageAt(marks.reader());
        }
    }

    public int fit(int pages) throws IllegalArgumentException {
        if (pages < 1) {
            throw new IllegalArgumentException("pages is less than 1");
        }
        for (int tried = LEAST_WIDTH; tried <= MOST_WIDTH; tried++) {
            trial.lay(book, tried, height);
            if (trial.pages() <= pages) {
                return tried;
            }
        }
        return NONE;
    }

    public double fullness() {
        refresh();
        int fullPages = layout.pages() - 1;
        int rows = 0;
        for (int page = 0; page < fullPages; page++) {
            rows += layout.rowsOfPage(page) + layout.noteRowsOfPage(page);
        }
        int room = fullPages * height;
        return room > 0 ? (double) rows / (double) room : 0.0;
    }

    public long digest() {
        refresh();
        long hash = FIRST_HASH;
        for (int what = 0; what < COUNTS; what++) {
            hash = mixed(hash, countOf(what));
        }
        hash = mixed(hash, width);
        hash = mixed(hash, height);
        for (int part : style) {
            hash = mixed(hash, part);
        }
        hash = mixedParagraphs(hash);
        hash = mixedLines(hash);
        hash = mixedPages(hash);
        hash = mixedAnnotations(hash);
        for (int note = 0; note < NOTES; note++) {
            hash = mixed(hash, wordsOfNote(note));
        }
        return mixedInput(hash);
    }

    // ---- the parts of the digest

    private static long mixed(long hash, int value) {
        return 31L * hash + value;
    }

    private long mixedParagraphs(long hash) {
        long mix = hash;
        for (int paragraph = 0; paragraph < book.paragraphs(); paragraph++) {
            for (int what = 0; what < PARAGRAPH_PROPERTIES; what++) {
                mix = mixed(mix, paragraphProperty(paragraph, what));
            }
            int end = book.endOf(paragraph);
            for (int place = book.startOf(paragraph); place < end; place++) {
                mix = mixed(mix, book.words().signAt(place));
            }
        }
        return mix;
    }

    private long mixedLines(long hash) {
        long mix = hash;
        for (int line = 0; line < layout.lines(); line++) {
            for (int what = 0; what < LINE_PROPERTIES; what++) {
                mix = mixed(mix, lineProperty(line, what));
            }
        }
        return mix;
    }

    private long mixedPages(long hash) {
        long mix = hash;
        for (int page = 0; page < layout.pages(); page++) {
            for (int what = 0; what < PAGE_PROPERTIES; what++) {
                mix = mixed(mix, pageProperty(page, what));
            }
        }
        return mix;
    }

    private long mixedAnnotations(long hash) {
        long mix = hash;
        for (int annotation = 0; annotation < marks.annotations(); annotation++) {
            for (int what = 0; what < ANNOTATION_PROPERTIES; what++) {
                mix = mixed(mix, annotationProperty(annotation, what));
            }
        }
        return mix;
    }

    private long mixedInput(long hash) {
        long mix = mixed(hash, input.length());
        for (int index = 0; index < input.length(); index++) {
            mix = mixed(mix, input.signAt(index));
        }
        return mix;
    }

    // ---- properties; the layout must be fresh and the arguments checked

    private int countOf(int what) {
        switch (what) {
            case 0:
                return book.paragraphs();
            case 1:
                return book.words().size();
            case 2:
                return book.characters();
            case 3:
                return layout.lines();
            case 4:
                return layout.pages();
            case 5:
                return presentPage();
            case 6:
                return book.positionOf(marks.reader());
            case 7:
                return marks.annotations();
            case 8:
                return marks.lostAnnotations();
            case 9:
                return marks.jumps();
            case 10:
                return history.edits();
            default:
                return thousandthsRead();
        }
    }

    private int thousandthsRead() {
        int all = book.characters();
        return all > 0 ? book.charactersBefore(marks.reader()) * 1000 / all : 0;
    }

    private int paragraphProperty(int paragraph, int what) {
        switch (what) {
            case 0:
                return book.kindOf(paragraph);
            case 1:
                return book.wordsOf(paragraph);
            case 2:
                return book.lengthOf(paragraph);
            case 3:
                return layout.linesOfParagraph(paragraph);
            default:
                return layout.pageAt(book.startOf(paragraph));
        }
    }

    private int lineProperty(int line, int what) {
        int paragraph = layout.paragraphOfLine(line);
        switch (what) {
            case 0:
                return paragraph;
            case 1:
                return layout.firstWordOfLine(line) - book.firstWordOf(paragraph);
            case 2:
                return layout.firstWordOfLine(line + 1) - layout.firstWordOfLine(line);
            case 3:
                return layout.columnsOfLine(line);
            case 4:
                return layout.pageOfLine(line);
            default:
                return layout.rowOfLine(line);
        }
    }

    private int pageProperty(int page, int what) {
        switch (what) {
            case 0:
                return book.positionOf(layout.placeOfPage(page));
            case 1:
                return page + 1 < layout.pages() ? book.positionOf(layout.placeOfPage(page + 1)) : NONE;
            case 2:
                return layout.firstLineOfPage(page + 1) - layout.firstLineOfPage(page);
            case 3:
                return layout.rowsOfPage(page);
            case 4:
                return layout.noteRowsOfPage(page);
            case 5:
                return Integer.bitCount(layout.notesOfPage(page));
            default:
                return marks.annotationsBetween(layout.placeOfPage(page), layout.placeOfPage(page + 1));
        }
    }

    private int annotationProperty(int annotation, int what) {
        int from = marks.fromOf(annotation);
        int paragraph = book.paragraphAt(from);
        switch (what) {
            case 0:
                return paragraph;
            case 1:
                return from - book.startOf(paragraph);
            case 2:
                return marks.toOf(annotation) - book.startOf(paragraph);
            case 3:
                return marks.colorOf(annotation);
            case 4:
                return marks.isLost(annotation) ? 1 : 0;
            default:
                return marks.isLost(annotation) ? NONE : layout.pageAt(from);
        }
    }

    private int presentPage() {
        return layout.pageAt(marks.reader());
    }

    private int wordsOfNote(int note) {
        Words text = note >= 0 && note < notes.length ? notes[note] : null;
        // the digit of the note stands before its words
        return text == null ? 0 : text.size() - 1;
    }

    private int wordBehindReader() {
        Words words = book.words();
        for (int word = 0; word < words.size(); word++) {
            if (words.startOf(word) > marks.reader() && input.beginsWith(words, word)) {
                return word;
            }
        }
        return NONE;
    }

    private int wordBeforeReader() {
        Words words = book.words();
        for (int word = words.size() - 1; word >= 0; word--) {
            if (words.startOf(word) < marks.reader() && input.beginsWith(words, word)) {
                return word;
            }
        }
        return NONE;
    }

    /** Lines and pages are broken anew only when they are asked for. */
    private void refresh() {
        if (stale) {
            layout.lay(book, width, height);
            stale = false;
        }
    }

    // ---- checks

    private static void checkNote(int note) {
        if (note < 0 || note >= NOTES) {
            throw new IndexOutOfBoundsException("note is not 0 to 9");
        }
    }

    private static void checkSize(int width, int height) {
        if (width < LEAST_WIDTH || width > MOST_WIDTH) {
            throw new IllegalArgumentException("width is out of range");
        }
        if (height < LEAST_HEIGHT || height > MOST_HEIGHT) {
            throw new IllegalArgumentException("height is out of range");
        }
    }

    private static void checkWhat(int what, int properties) {
        if (what < 0 || what >= properties) {
            throw new IllegalArgumentException("what is out of range");
        }
    }

    private void checkWordList() {
        if (!input.isWhole(false)) {
            throw new IllegalStateException("the buffer is not a word list");
        }
    }

    private void checkPage(int page) {
        if (page < 0 || page >= layout.pages()) {
            throw new IndexOutOfBoundsException("the page does not exist");
        }
    }

    private void checkLine(int line) {
        if (line < 0 || line >= layout.lines()) {
            throw new IndexOutOfBoundsException("the line does not exist");
        }
    }

    private void checkParagraph(int paragraph) {
        if (paragraph < 0 || paragraph >= book.paragraphs()) {
            throw new IndexOutOfBoundsException("the paragraph does not exist");
        }
    }

    private void checkOffset(int paragraph, int offset) {
        checkParagraph(paragraph);
        if (offset < 0 || offset >= book.lengthOf(paragraph)) {
            throw new IndexOutOfBoundsException("the text has no such offset");
        }
    }

    private void checkAnnotation(int annotation) {
        if (annotation < 0 || annotation >= marks.annotations()) {
            throw new IndexOutOfBoundsException("the annotation does not exist");
        }
    }

    /** Words with a blank between two of them. They never change: an edit makes new ones. */
    private static final class Words {
        private final char[] text;
        /** Where each word starts, and behind them where a further one would. */
        private final int[] starts;

        Words(char[] text) {
            this.text = text;
            int blanks = 0;
            for (char sign : text) {
                blanks += sign == ' ' ? 1 : 0;
            }
            starts = new int[blanks + 2];
            int word = 0;
            for (int index = 0; index < text.length; index++) {
                if (text[index] == ' ' && word < blanks) {
                    word++;
                    starts[word] = index + 1;
                }
            }
            starts[blanks + 1] = text.length + 1;
        }

        int size() {
            return starts.length - 1;
        }

        int length() {
            return text.length;
        }

        int startOf(int word) {
            return word >= 0 && word < starts.length ? starts[word] : text.length + 1;
        }

        int endOf(int word) {
            int next = word + 1;
            return next >= 0 && next < starts.length ? starts[next] - 1 : text.length;
        }

        int signAt(int place) {
            return place >= 0 && place < text.length ? text[place] : ' ';
        }

        /** The note that a word refers to. */
        int referenceOf(int word) {
            int end = endOf(word);
            return signAt(end - 2) == '^' ? signAt(end - 1) - '0' : NONE;
        }

        /** The first word that does not go on a line that begins with a given one. */
        int lineEnd(int first, int stop, int room) {
            int start = startOf(first);
            int next = first + 1;
            while (next < stop && endOf(next) - start <= room) {
                next++;
            }
            return next;
        }

        /** The first word of a line, counted from 0, if all words are broken without indent. */
        int firstOfLine(int line, int room) {
            int first = 0;
            for (int passed = 0; passed < line && first < size(); passed++) {
                first = lineEnd(first, size(), room);
            }
            return first;
        }

        int linesWithin(int room) {
            int lines = 0;
            int first = 0;
            while (first < size() && lines < size()) {
                first = lineEnd(first, size(), room);
                lines++;
            }
            return lines;
        }

        /** What a line shows in a column. */
        int signOfLine(int first, int stop, int indent, int column) {
            int place = startOf(first) + column - indent;
            return column >= indent && place < endOf(stop - 1) ? signAt(place) : ' ';
        }

        Words spliced(int from, int to, char[] come) {
            if (from < 0 || to < from || to > text.length) {
                return this;
            }
            char[] changed = new char[text.length - (to - from) + come.length];
            System.arraycopy(text, 0, changed, 0, from);
            System.arraycopy(come, 0, changed, from, come.length);
            System.arraycopy(text, to, changed, from + come.length, text.length - to);
            return new Words(changed);
        }
    }

    /** Paragraphs. They never change: an edit makes a new book, so that an old one can be kept. */
    private static final class Book {
        private final Words words;
        private final int[] kinds;
        /** The first word of each paragraph, and behind them the number of all words. */
        private final int[] firsts;

        Book(Words words, int[] kinds, int[] firsts) {
            this.words = words;
            this.kinds = kinds;
            this.firsts = firsts;
        }

        Words words() {
            return words;
        }

        int paragraphs() {
            return kinds.length;
        }

        int kindOf(int paragraph) {
            return paragraph >= 0 && paragraph < kinds.length ? kinds[paragraph] : BODY;
        }

        int firstWordOf(int paragraph) {
            return paragraph >= 0 && paragraph < firsts.length ? firsts[paragraph] : 0;
        }

        int wordsOf(int paragraph) {
            return firstWordOf(paragraph + 1) - firstWordOf(paragraph);
        }

        int placeOfWord(int paragraph, int word) {
            return words.startOf(firstWordOf(paragraph) + word);
        }

        int startOf(int paragraph) {
            return words.startOf(firstWordOf(paragraph));
        }

        int endOf(int paragraph) {
            return words.startOf(firstWordOf(paragraph + 1)) - 1;
        }

        int lengthOf(int paragraph) {
            return endOf(paragraph) - startOf(paragraph);
        }

        int characters() {
            return words.length() - (paragraphs() - 1);
        }

        int charactersBefore(int place) {
            return place - paragraphAt(place);
        }

        /** The paragraph of a place; the place just behind a paragraph belongs to it, too. */
        int paragraphAt(int place) {
            int paragraph = paragraphs() - 1;
            while (paragraph > 0 && startOf(paragraph) > place) {
                paragraph--;
            }
            return paragraph;
        }

        int positionOf(int place) {
            int paragraph = paragraphAt(place);
            return POSITIONS_OF_PARAGRAPH * paragraph + place - startOf(paragraph);
        }

        Book withInserted(int paragraph, int place, char[] come) {
            return withWords(paragraph, words.spliced(place, place, come));
        }

        Book withDeleted(int paragraph, int from, int to) {
            return withWords(paragraph, words.spliced(from, to, new char[0]));
        }

        private Book withWords(int paragraph, Words changed) {
            int more = changed.size() - words.size();
            int[] moved = firsts.clone();
            for (int behind = paragraph + 1; behind < moved.length; behind++) {
                if (behind > 0) {
                    moved[behind] += more;
                }
            }
            return new Book(changed, kinds, moved);
        }

        Book withSplit(int paragraph, int word) {
            int[] moreKinds = new int[kinds.length + 1];
            int[] moreFirsts = new int[kinds.length + 2];
            for (int index = 0; index < moreKinds.length; index++) {
                int old = index <= paragraph ? index : index - 1;
                moreKinds[index] = kindOf(old);
                moreFirsts[index] = firstWordOf(old);
                if (index == paragraph + 1) {
                    moreKinds[index] = kindOf(old) == HEADING ? BODY : kindOf(old);
                    moreFirsts[index] = firstWordOf(old) + word;
                }
            }
            moreFirsts[moreKinds.length] = words.size();
            return new Book(words, moreKinds, moreFirsts);
        }

        Book withJoined(int paragraph) {
            if (kinds.length < 2) {
                return this;
            }
            int[] fewerKinds = new int[kinds.length - 1];
            int[] fewerFirsts = new int[kinds.length];
            for (int index = 0; index < fewerKinds.length; index++) {
                int old = index <= paragraph ? index : index + 1;
                fewerKinds[index] = kindOf(old);
                fewerFirsts[index] = firstWordOf(old);
            }
            fewerFirsts[fewerKinds.length] = words.size();
            return new Book(words, fewerKinds, fewerFirsts);
        }
    }

    /** The input buffer. */
    private static final class Input {
        private final char[] signs = new char[MOST_INPUT];
        private final Syntax syntax = new Syntax();
        private int length;

        int length() {
            return length;
        }

        boolean isFull() {
            return length >= signs.length;
        }

        void put(char sign) {
            if (length < signs.length) {
                signs[length] = sign;
                length++;
            }
        }

        void empty() {
            length = 0;
        }

        char signAt(int index) {
            return index >= 0 && index < length ? signs[index] : ' ';
        }

        int firstFault(boolean asBook) {
            syntax.begin(asBook);
            for (int index = 0; index < length; index++) {
                if (!syntax.takes(signAt(index))) {
                    return index;
                }
            }
            return length;
        }

        boolean isWhole(boolean asBook) {
            return firstFault(asBook) == length && syntax.mayEnd();
        }

        int wordsOfList() {
            return timesOf(' ') + 1;
        }

        private int timesOf(char sign) {
            int times = 0;
            for (int index = 0; index < length; index++) {
                times += signAt(index) == sign ? 1 : 0;
            }
            return times;
        }

        /** Whether a word is the first one in the buffer, which is a word list. */
        boolean beginsWith(Words words, int word) {
            int start = words.startOf(word);
            int size = words.endOf(word) - start;
            if (size > length) {
                return false;
            }
            for (int index = 0; index < size; index++) {
                if (words.signAt(start + index) != signAt(index)) {
                    return false;
                }
            }
            return signAt(size) == ' ';
        }

        /** The buffer with some blanks before and behind it. */
        char[] padded(int before, int behind) {
            char[] row = new char[before + length + behind];
            for (int index = 0; index < row.length; index++) {
                row[index] = signAt(index - before);
            }
            return row;
        }

        Words toNote(int note) {
            char[] row = padded(2, 0);
            row[0] = (char) ('0' + note);
            return new Words(row);
        }

        Book toBook() {
            int[] kinds = new int[timesOf('|') + 1];
            int[] firsts = new int[kinds.length + 1];
            char[] text = new char[length - timesOf('#') - timesOf('>')];
            int paragraph = 0;
            int word = 0;
            int size = 0;
            for (int index = 0; index < length && paragraph < kinds.length; index++) {
                char sign = signAt(index);
                if (sign == '#' || sign == '>') {
                    kinds[paragraph] = sign == '#' ? HEADING : QUOTE;
                } else if (size < text.length) {
                    text[size] = sign == '|' ? ' ' : sign;
                    word += text[size] == ' ' ? 1 : 0;
                    size++;
                }
                if (sign == '|') {
                    paragraph++;
                    firsts[paragraph] = word;
                }
            }
            firsts[kinds.length] = word + 1;
            return new Book(new Words(text), kinds, firsts);
        }
    }

    /** Reads a word list or a book, character by character. */
    private static final class Syntax {
        private boolean asBook;
        private boolean kindMayCome;
        private int paragraphs;
        private int words;
        private int signs;
        private boolean digitMustCome;
        private boolean hasReference;

        void begin(boolean readsBook) {
            asBook = readsBook;
            paragraphs = 0;
            beginParagraph();
        }

        private void beginParagraph() {
            paragraphs++;
            kindMayCome = asBook;
            words = 0;
            beginWord();
        }

        private void beginWord() {
            words++;
            signs = 0;
            digitMustCome = false;
            hasReference = false;
        }

        boolean takes(char sign) {
            boolean kindIsAllowed = kindMayCome;
            kindMayCome = false;
            if (digitMustCome) {
                digitMustCome = false;
                hasReference = true;
                return isDigit(sign);
            }
            if (isSignOfWord(sign)) {
                signs++;
                return !hasReference && signs <= MOST_SIGNS;
            }
            switch (sign) {
                case '^':
                    digitMustCome = true;
                    return signs > 0 && !hasReference;
                case ' ':
                    boolean wordMayEnd = signs > 0 && words < (asBook ? MOST_WORDS : MOST_LISTED_WORDS);
                    beginWord();
                    return wordMayEnd;
                case '|':
                    boolean paragraphMayEnd = asBook && signs > 0 && paragraphs < MOST_PARAGRAPHS;
                    beginParagraph();
                    return paragraphMayEnd;
                case '#':
                case '>':
                    return kindIsAllowed;
                default:
                    return false;
            }
        }

        boolean mayEnd() {
            return signs > 0 && !digitMustCome;
        }

        private static boolean isDigit(char sign) {
            return sign >= '0' && sign <= '9';
        }

        private static boolean isSignOfWord(char sign) {
            return sign >= 'a' && sign <= 'z' || sign >= 'A' && sign <= 'Z' || isDigit(sign)
                    || sign == '.' || sign == ',' || sign == '\'';
        }
    }

    /** The places of the reader, of the kept jumps and of the annotations. */
    private static final class Marks {
        private int reader;
        private int jumps;
        private final int[] jumpedFrom = new int[MOST_JUMPS];
        private int annotations;
        private final int[] froms = new int[MOST_ANNOTATIONS];
        private final int[] tos = new int[MOST_ANNOTATIONS];
        private final int[] colors = new int[MOST_ANNOTATIONS];

        void reset() {
            reader = 0;
            jumps = 0;
            annotations = 0;
        }

        void copy(Marks other) {
            reader = other.reader;
            jumps = other.jumps;
            System.arraycopy(other.jumpedFrom, 0, jumpedFrom, 0, MOST_JUMPS);
            annotations = other.annotations;
            System.arraycopy(other.froms, 0, froms, 0, MOST_ANNOTATIONS);
            System.arraycopy(other.tos, 0, tos, 0, MOST_ANNOTATIONS);
            System.arraycopy(other.colors, 0, colors, 0, MOST_ANNOTATIONS);
        }

        int reader() {
            return reader;
        }

        void setReader(int place) {
            reader = place;
        }

        int jumps() {
            return jumps;
        }

        void jumpTo(int place) {
            if (jumps >= MOST_JUMPS) {
                System.arraycopy(jumpedFrom, 1, jumpedFrom, 0, MOST_JUMPS - 1);
                jumps = MOST_JUMPS - 1;
            }
            if (jumps >= 0) {
                jumpedFrom[jumps] = reader;
                jumps++;
            }
            reader = place;
        }

        void jumpBack() {
            if (jumps > 0 && jumps <= MOST_JUMPS) {
                jumps--;
                reader = jumpedFrom[jumps];
            }
        }

        int annotations() {
            return annotations;
        }

        int addAnnotation(int from, int to, int color) {
            int annotation = annotations;
            if (annotation >= 0 && annotation < MOST_ANNOTATIONS) {
                froms[annotation] = from;
                tos[annotation] = to;
                colors[annotation] = color;
                annotations++;
            }
            return annotation;
        }

        void dropAnnotation(int annotation) {
            if (annotation < 0 || annotation >= annotations || annotations > MOST_ANNOTATIONS) {
                return;
            }
            annotations--;
            int behind = annotations - annotation;
            System.arraycopy(froms, annotation + 1, froms, annotation, behind);
            System.arraycopy(tos, annotation + 1, tos, annotation, behind);
            System.arraycopy(colors, annotation + 1, colors, annotation, behind);
        }

        private boolean exists(int annotation) {
            return annotation >= 0 && annotation < annotations && annotation < MOST_ANNOTATIONS;
        }

        int fromOf(int annotation) {
            return exists(annotation) ? froms[annotation] : 0;
        }

        int toOf(int annotation) {
            return exists(annotation) ? tos[annotation] : 0;
        }

        int colorOf(int annotation) {
            return exists(annotation) ? colors[annotation] : 0;
        }

        /** An annotation that has a character ends behind its beginning. */
        boolean isLost(int annotation) {
            return fromOf(annotation) == toOf(annotation);
        }

        int lostAnnotations() {
            int lost = 0;
            for (int annotation = 0; annotation < annotations; annotation++) {
                lost += isLost(annotation) ? 1 : 0;
            }
            return lost;
        }

        int annotationsBetween(int start, int stop) {
            int found = 0;
            for (int annotation = 0; annotation < annotations; annotation++) {
                boolean touches = fromOf(annotation) < stop && toOf(annotation) > start;
                found += touches && !isLost(annotation) ? 1 : 0;
            }
            return found;
        }

        /** Characters come in at a place. */
        void openGap(int place, int many) {
            reader = opened(reader, place, many);
            for (int jump = 0; jump < MOST_JUMPS; jump++) {
                jumpedFrom[jump] = opened(jumpedFrom[jump], place, many);
            }
            for (int annotation = 0; annotation < MOST_ANNOTATIONS; annotation++) {
                // the end moves with the last character, but a lost annotation has none
                boolean endStays = tos[annotation] == place && froms[annotation] != place;
                froms[annotation] = opened(froms[annotation], place, many);
                tos[annotation] = endStays ? place : opened(tos[annotation], place, many);
            }
        }

        private static int opened(int place, int gap, int many) {
            return gap <= place ? place + many : place;
        }

        /** The characters of some places go; the reader or a jump within them is put at the refuge. */
        void closeGap(int from, int to, int refuge) {
            reader = closed(reader, from, to, refuge);
            for (int jump = 0; jump < MOST_JUMPS; jump++) {
                jumpedFrom[jump] = closed(jumpedFrom[jump], from, to, refuge);
            }
            for (int annotation = 0; annotation < MOST_ANNOTATIONS; annotation++) {
                froms[annotation] = closed(froms[annotation], from, to, from);
                tos[annotation] = closed(tos[annotation], from, to, from);
            }
        }

        private static int closed(int place, int from, int to, int refuge) {
            if (place < from) {
                return place;
            }
            return place >= to ? place - (to - from) : refuge;
        }

        /** The blank at a place becomes the end of a paragraph. */
        void cutAt(int blank) {
            reader = reader == blank ? blank - 1 : reader;
            for (int jump = 0; jump < MOST_JUMPS; jump++) {
                jumpedFrom[jump] = jumpedFrom[jump] == blank ? blank - 1 : jumpedFrom[jump];
            }
            for (int annotation = 0; annotation < MOST_ANNOTATIONS; annotation++) {
                boolean crosses = froms[annotation] <= blank && tos[annotation] > blank;
                tos[annotation] = crosses ? blank : tos[annotation];
            }
        }
    }

    /** What was saved before the latest edits, the oldest first. */
    private static final class History {
        private final Book[] books = new Book[MOST_EDITS];
        private final Marks[] marks = new Marks[MOST_EDITS];
        private int edits;

        History() {
            for (int edit = 0; edit < MOST_EDITS; edit++) {
                marks[edit] = new Marks();
            }
        }

        int edits() {
            return edits;
        }

        void forget() {
            edits = 0;
        }

        void keep(Book book, Marks present) {
            if (edits >= MOST_EDITS) {
                forgetOldest();
            }
            Marks saved = edits >= 0 ? marks[edits] : null;
            if (saved != null) {
                saved.copy(present);
                books[edits] = book;
                edits++;
            }
        }

        private void forgetOldest() {
            Marks used = marks[0];
            for (int edit = 1; edit < MOST_EDITS; edit++) {
                books[edit - 1] = books[edit];
                marks[edit - 1] = marks[edit];
            }
            marks[MOST_EDITS - 1] = used;
            edits = MOST_EDITS - 1;
        }

        Book latestBook() {
            return edits > 0 && edits <= MOST_EDITS ? books[edits - 1] : null;
        }

        void bringBack(Marks present) {
            Marks saved = edits > 0 && edits <= MOST_EDITS ? marks[edits - 1] : null;
            if (saved != null) {
                present.copy(saved);
                edits--;
            }
        }
    }

    /** The lines and pages of a book for one size of the page. */
    private static final class Layout {
        private final Words[] notes;
        private final int[] style;
        private Book book;
        private int width;
        private int height;
        /** How many lines each note takes, 0 if it has no text. */
        private final int[] noteLines = new int[NOTES];
        private int lines;
        /** The first word of each line, and behind them the number of all words. */
        private final int[] lineWords = new int[MOST_LINES + 1];
        private final int[] lineParagraphs = new int[MOST_LINES];
        private final int[] lineIndents = new int[MOST_LINES];
        /** The empty rows before each line that is not the first one of its page. */
        private final int[] lineGaps = new int[MOST_LINES];
        /** Whether keeping allows a break before a line. */
        private final boolean[] lineBreaks = new boolean[MOST_LINES];
        /** A bit for each note that a line refers to. */
        private final int[] lineNotes = new int[MOST_LINES];
        private final int[] linePages = new int[MOST_LINES];
        private int pages;
        /** The first line of each page, and behind them the number of all lines. */
        private final int[] pageLines = new int[MOST_LINES + 1];

        Layout(Book book, Words[] notes, int[] style) {
            this.book = book;
            this.notes = notes;
            this.style = style;
        }

        void lay(Book laidBook, int pageWidth, int pageHeight) {
            book = laidBook;
            width = pageWidth;
            height = pageHeight;
            measureNotes();
            breakLines();
            measureLines();
            breakPages();
        }

        private void measureNotes() {
            for (int note = 0; note < NOTES; note++) {
                Words text = textOf(note);
                noteLines[note] = text == null ? 0 : text.linesWithin(width);
            }
        }

        private void breakLines() {
            Words words = book.words();
            lines = 0;
            for (int paragraph = 0; paragraph < book.paragraphs(); paragraph++) {
                int first = book.firstWordOf(paragraph);
                int stop = book.firstWordOf(paragraph + 1);
                int indent = firstIndentOf(paragraph);
                while (first < stop && lines < MOST_LINES) {
                    int next = words.lineEnd(first, stop, width - indent);
                    lineParagraphs[lines] = paragraph;
                    lineIndents[lines] = indent;
                    lineWords[lines] = first;
                    lineNotes[lines] = referencesOf(first, next);
                    lines++;
                    first = next;
                    indent = laterIndentOf(paragraph);
                }
            }
            lineWords[lines] = words.size();
        }

        private int referencesOf(int first, int stop) {
            int bits = 0;
            for (int word = first; word < stop; word++) {
                int note = book.words().referenceOf(word);
                bits |= note >= 0 && note < NOTES ? 1 << note : 0;
            }
            return bits;
        }

        private void measureLines() {
            for (int line = 0; line < lines && line < MOST_LINES; line++) {
                lineGaps[line] = beginsParagraph(line) ? gapOf(lineParagraphs[line]) : 0;
                lineBreaks[line] = isAllowedBreak(line);
            }
        }

        private int gapOf(int paragraph) {
            return styleOf(GAP) + (book.kindOf(paragraph) == HEADING ? 1 : 0);
        }

        private boolean isAllowedBreak(int line) {
            if (book.kindOf(paragraphOfLine(line - 1)) == HEADING) {
                return false;
            }
            // between two paragraphs nothing else forbids it
            return beginsParagraph(line) || !beginsParagraph(line - 1) && !beginsParagraph(line + 1);
        }

        private void breakPages() {
            pages = 0;
            int first = 0;
            while (first < lines && pages < MOST_LINES) {
                int next = breakFrom(first);
                pageLines[pages] = first;
                for (int line = first; line < next && line < MOST_LINES; line++) {
                    linePages[line] = pages;
                }
                pages++;
                first = next;
            }
            pageLines[pages] = lines;
        }

        private int styleOf(int what) {
            return what >= 0 && what < style.length ? style[what] : 0;
        }

        private Words textOf(int note) {
            return note >= 0 && note < notes.length ? notes[note] : null;
        }

        private int firstIndentOf(int paragraph) {
            return book.kindOf(paragraph) == BODY ? styleOf(INDENT) : laterIndentOf(paragraph);
        }

        private int laterIndentOf(int paragraph) {
            return book.kindOf(paragraph) == QUOTE ? styleOf(QUOTE_INDENT) : 0;
        }

        int lines() {
            return lines;
        }

        int pages() {
            return pages;
        }

        int firstWordOfLine(int line) {
            return line >= 0 && line < lines ? lineWords[line] : book.words().size();
        }

        int paragraphOfLine(int line) {
            return line >= 0 && line < lines ? lineParagraphs[line] : NONE;
        }

        private int indentOfLine(int line) {
            return line >= 0 && line < lines ? lineIndents[line] : 0;
        }

        private int gapBefore(int line) {
            return line >= 0 && line < lines ? lineGaps[line] : 0;
        }

        private boolean mayBreakBefore(int line) {
            return line >= 0 && line < lines && lineBreaks[line];
        }

        private int notesOfLine(int line) {
            return line >= 0 && line < lines ? lineNotes[line] : 0;
        }

        int pageOfLine(int line) {
            return line >= 0 && line < lines ? linePages[line] : NONE;
        }

        int firstLineOfPage(int page) {
            return page >= 0 && page < pages ? pageLines[page] : lines;
        }

        private boolean beginsParagraph(int line) {
            return paragraphOfLine(line) != paragraphOfLine(line - 1);
        }

        int linesOfParagraph(int paragraph) {
            int found = 0;
            for (int line = 0; line < lines; line++) {
                found += paragraphOfLine(line) == paragraph ? 1 : 0;
            }
            return found;
        }

        int columnsOfLine(int line) {
            Words words = book.words();
            int first = firstWordOfLine(line);
            int last = firstWordOfLine(line + 1) - 1;
            return indentOfLine(line) + words.endOf(last) - words.startOf(first);
        }

        private int rowsOfNotes(int bits) {
            if (bits == 0 || styleOf(FOOTNOTES) == 0) {
                return 0;
            }
            int rows = 0;
            for (int note = 0; note < NOTES; note++) {
                rows += (bits >> note & 1) == 1 ? noteLines[note] : 0;
            }
            return rows > 0 ? rows + 1 : 0;
        }

        /** The break of a page that begins with a given line. */
        int breakFrom(int first) {
            int end = first + 1;
            int rows = 1;
            int bits = notesOfLine(first);
            for (int line = first + 1; line < lines; line++) {
                rows += gapBefore(line) + 1;
                bits |= notesOfLine(line);
                if (rows + rowsOfNotes(bits) > height) {
                    break;
                }
                end = line + 1;
            }
            return styleOf(KEEPING) == 1 && end < lines ? keptBreak(first, end) : end;
        }

        private int keptBreak(int first, int end) {
            for (int line = end; line > first; line--) {
                if (mayBreakBefore(line)) {
                    return line;
                }
            }
            return end;
        }

        int farthestBefore(int line) {
            // a page has no more lines than rows
            for (int first = Math.max(0, line - height); first < line; first++) {
                if (breakFrom(first) == line) {
                    return first;
                }
            }
            return NONE;
        }

        private int rowsBetween(int first, int stop) {
            int rows = stop - first;
            for (int line = first + 1; line < stop; line++) {
                rows += gapBefore(line);
            }
            return rows;
        }

        int rowOfLine(int line) {
            return rowsBetween(firstLineOfPage(pageOfLine(line)), line + 1) - 1;
        }

        int rowsOfPage(int page) {
            return rowsBetween(firstLineOfPage(page), firstLineOfPage(page + 1));
        }

        int notesOfPage(int page) {
            int bits = 0;
            int stop = firstLineOfPage(page + 1);
            for (int line = firstLineOfPage(page); line < stop; line++) {
                bits |= notesOfLine(line);
            }
            return bits;
        }

        int noteRowsOfPage(int page) {
            return rowsOfNotes(notesOfPage(page));
        }

        int noteOnPage(int page, int index) {
            int bits = notesOfPage(page);
            int left = index;
            for (int note = 0; note < NOTES; note++) {
                if ((bits >> note & 1) == 1) {
                    if (left == 0) {
                        return note;
                    }
                    left--;
                }
            }
            return NONE;
        }

        int placeOfPage(int page) {
            return book.words().startOf(firstWordOfLine(firstLineOfPage(page)));
        }

        int pageAt(int place) {
            int line = lines - 1;
            while (line > 0 && book.words().startOf(firstWordOfLine(line)) > place) {
                line--;
            }
            return pageOfLine(line);
        }

        /** What a page shows. */
        int signAt(int page, int row, int column) {
            int stop = firstLineOfPage(page + 1);
            int lineRow = 0;
            for (int line = firstLineOfPage(page); line < stop; line++) {
                lineRow += line > firstLineOfPage(page) ? gapBefore(line) : 0;
                if (lineRow == row) {
                    int end = firstWordOfLine(line + 1);
                    return book.words().signOfLine(firstWordOfLine(line), end, indentOfLine(line), column);
                }
                lineRow++;
            }
            int bits = notesOfPage(page);
            int noteRow = row - Math.max(lineRow, height - rowsOfNotes(bits));
            return noteRow < 0 ? ' ' : signOfNotes(bits, noteRow, column);
        }

        /** What the rows of notes show; the first one is the rule. */
        private int signOfNotes(int bits, int row, int column) {
            if (row == 0) {
                return '-';
            }
            int line = row - 1;
            for (int note = 0; note < NOTES; note++) {
                Words text = (bits >> note & 1) == 1 ? textOf(note) : null;
                if (text != null) {
                    if (line < noteLines[note]) {
                        int end = text.firstOfLine(line + 1, width);
                        return text.signOfLine(text.firstOfLine(line, width), end, 0, column);
                    }
                    line -= noteLines[note];
                }
            }
            return ' ';
        }
    }
}
