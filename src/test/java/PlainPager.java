import java.util.ArrayList;
import java.util.List;
import java.util.TreeSet;
import java.util.regex.Pattern;

/**
 * The document once more, told in the plainest way and without any thrift: paragraphs are lists of
 * words, positions are a paragraph and an offset, and lines and pages are broken anew for each question.
 * ModelTest compares BookPager with it.
 */
final class PlainPager {
    static final int NONE = -1;

    private static final String WORD = "[a-zA-Z0-9.,']{1,12}(\\^[0-9])?";
    private static final String PARAGRAPH = "[#>]?" + WORD + "( " + WORD + "){0,23}";
    private static final Pattern WORD_LIST = Pattern.compile(WORD + "( " + WORD + "){0,11}");
    private static final Pattern BOOK = Pattern.compile(PARAGRAPH + "(\\|" + PARAGRAPH + "){0,9}");

    static final class Paragraph {
        int kind;
        List<String> words = new ArrayList<>();

        String text() {
            return String.join(" ", words);
        }

        int offsetOf(int word) {
            int offset = 0;
            for (int i = 0; i < word; i++) {
                offset += words.get(i).length() + 1;
            }
            return offset;
        }

        Paragraph copy() {
            Paragraph copy = new Paragraph();
            copy.kind = kind;
            copy.words.addAll(words);
            return copy;
        }
    }

    static final class Spot {
        int paragraph;
        int offset;

        Spot(int paragraph, int offset) {
            this.paragraph = paragraph;
            this.offset = offset;
        }

        int number() {
            return 1000 * paragraph + offset;
        }

        Spot copy() {
            return new Spot(paragraph, offset);
        }
    }

    static final class Mark {
        int paragraph;
        int from;
        int to;
        int color;
        boolean lost;

        Mark copy() {
            Mark copy = new Mark();
            copy.paragraph = paragraph;
            copy.from = from;
            copy.to = to;
            copy.color = color;
            copy.lost = lost;
            return copy;
        }
    }

    static final class State {
        List<Paragraph> book = new ArrayList<>();
        Spot reader = new Spot(0, 0);
        List<Spot> jumps = new ArrayList<>();
        List<Mark> marks = new ArrayList<>();

        State copy() {
            State copy = new State();
            book.forEach(p -> copy.book.add(p.copy()));
            copy.reader = reader.copy();
            jumps.forEach(j -> copy.jumps.add(j.copy()));
            marks.forEach(m -> copy.marks.add(m.copy()));
            return copy;
        }

        List<Spot> spots() {
            List<Spot> all = new ArrayList<>(jumps);
            all.add(reader);
            return all;
        }
    }

    static final class Line {
        int paragraph;
        int first;
        List<String> words = new ArrayList<>();
        int indent;

        String shown() {
            return " ".repeat(indent) + String.join(" ", words);
        }
    }

    private State now = new State();
    private final List<State> saved = new ArrayList<>();
    private final StringBuilder buffer = new StringBuilder();
    private final List<List<String>> notes = new ArrayList<>();
    private final int[] style = {2, 4, 0, 0, 0};
    private int width = 30;
    private int height = 8;

    PlainPager() {
        Paragraph only = new Paragraph();
        only.words.add("a");
        now.book.add(only);
        for (int note = 0; note < 10; note++) {
            notes.add(null);
        }
    }

    private static void index(boolean good) {
        if (!good) {
            throw new IndexOutOfBoundsException();
        }
    }

    private static void argument(boolean good) {
        if (!good) {
            throw new IllegalArgumentException();
        }
    }

    private static void state(boolean good) {
        if (!good) {
            throw new IllegalStateException();
        }
    }

    private static boolean in(int value, int least, int most) {
        return least <= value && value <= most;
    }

    private boolean hasParagraph(int paragraph) {
        return in(paragraph, 0, now.book.size() - 1);
    }

    private boolean hasOffset(int paragraph, int offset) {
        return hasParagraph(paragraph) && in(offset, 0, now.book.get(paragraph).text().length() - 1);
    }

    // ---- input

    int append(int code) {
        argument(in(code, 32, 126));
        state(buffer.length() < 100);
        buffer.append((char) code);
        return buffer.length();
    }

    int clearInput() {
        int length = buffer.length();
        buffer.setLength(0);
        return length;
    }

    private static boolean isBegun(String text, Pattern whole) {
        return whole.matcher(text).matches() || whole.matcher(text + "a").matches()
                || whole.matcher(text + "1").matches();
    }

    int firstError(boolean book) {
        for (int i = 0; i < buffer.length(); i++) {
            if (!isBegun(buffer.substring(0, i + 1), book ? BOOK : WORD_LIST)) {
                return i;
            }
        }
        return buffer.length();
    }

    private boolean isWordList() {
        return WORD_LIST.matcher(buffer).matches();
    }

    private List<String> takeWords() {
        List<String> words = new ArrayList<>(List.of(buffer.toString().split(" ")));
        buffer.setLength(0);
        return words;
    }

    int load() {
        state(BOOK.matcher(buffer).matches());
        now = new State();
        saved.clear();
        for (String part : buffer.toString().split("\\|")) {
            Paragraph paragraph = new Paragraph();
            paragraph.kind = part.startsWith("#") ? 1 : part.startsWith(">") ? 2 : 0;
            String text = paragraph.kind == 0 ? part : part.substring(1);
            paragraph.words.addAll(List.of(text.split(" ")));
            now.book.add(paragraph);
        }
        buffer.setLength(0);
        return now.book.size();
    }

    private int wordsOfNote(int note) {
        return notes.get(note) == null ? 0 : notes.get(note).size();
    }

    int setNote(int note) {
        index(in(note, 0, 9));
        state(isWordList());
        int before = wordsOfNote(note);
        notes.set(note, takeWords());
        return before;
    }

    int removeNote(int note) {
        index(in(note, 0, 9));
        state(notes.get(note) != null);
        int before = wordsOfNote(note);
        notes.set(note, null);
        return before;
    }

    // ---- lines and pages as the document defines them

    private List<Line> broken(List<String> words, int paragraph, int firstIndent, int laterIndent) {
        List<Line> lines = new ArrayList<>();
        Line line = null;
        for (int i = 0; i < words.size(); i++) {
            if (line == null || line.shown().length() + 1 + words.get(i).length() > width) {
                line = new Line();
                line.paragraph = paragraph;
                line.first = i;
                line.indent = lines.isEmpty() ? firstIndent : laterIndent;
                lines.add(line);
            }
            line.words.add(words.get(i));
        }
        return lines;
    }

    private List<Line> lines() {
        List<Line> lines = new ArrayList<>();
        for (int p = 0; p < now.book.size(); p++) {
            int kind = now.book.get(p).kind;
            int quote = kind == 2 ? style[1] : 0;
            lines.addAll(broken(now.book.get(p).words, p, kind == 0 ? style[0] : quote, quote));
        }
        return lines;
    }

    private List<String> noteLines(int note) {
        List<String> words = new ArrayList<>();
        words.add(String.valueOf(note));
        words.addAll(notes.get(note));
        List<String> shown = new ArrayList<>();
        broken(words, 0, 0, 0).forEach(line -> shown.add(line.shown()));
        return shown;
    }

    private static TreeSet<Integer> references(List<Line> lines) {
        TreeSet<Integer> found = new TreeSet<>();
        for (Line line : lines) {
            for (String word : line.words) {
                if (word.indexOf('^') >= 0) {
                    found.add(word.charAt(word.length() - 1) - '0');
                }
            }
        }
        return found;
    }

    /** The rule and the lines of the notes. */
    private List<String> notesShown(List<Line> lines) {
        List<String> shown = new ArrayList<>();
        if (style[4] == 1) {
            for (int note : references(lines)) {
                if (notes.get(note) != null) {
                    shown.addAll(noteLines(note));
                }
            }
        }
        if (!shown.isEmpty()) {
            shown.add(0, "-".repeat(width));
        }
        return shown;
    }

    /** Lines with the empty rows between them. */
    private List<String> linesShown(List<Line> lines) {
        List<String> shown = new ArrayList<>();
        for (int i = 0; i < lines.size(); i++) {
            Line line = lines.get(i);
            if (i > 0 && line.first == 0) {
                int gap = style[2] + (now.book.get(line.paragraph).kind == 1 ? 1 : 0);
                for (int k = 0; k < gap; k++) {
                    shown.add("");
                }
            }
            shown.add(line.shown());
        }
        return shown;
    }

    private int need(List<Line> lines) {
        return linesShown(lines).size() + notesShown(lines).size();
    }

    private boolean allowed(List<Line> lines, int b) {
        Line before = lines.get(b - 1);
        Line line = lines.get(b);
        long all = lines.stream().filter(l -> l.paragraph == line.paragraph).count();
        long number = lines.stream().limit(b).filter(l -> l.paragraph == line.paragraph).count();
        boolean last = all > 1 && number == all - 1;
        return now.book.get(before.paragraph).kind != 1 && number != 1 && !last;
    }

    private int breakOf(List<Line> lines, int a) {
        int b = a + 1;
        for (int tried = a + 1; tried <= Math.min(lines.size(), a + height); tried++) {
            if (need(lines.subList(a, tried)) <= height) {
                b = tried;
            }
        }
        if (style[3] == 1 && b < lines.size() && !allowed(lines, b)) {
            for (int lower = b - 1; lower > a; lower--) {
                if (allowed(lines, lower)) {
                    return lower;
                }
            }
        }
        return b;
    }

    /** The first line of each page, and the number of all lines. */
    private List<Integer> starts(List<Line> lines) {
        List<Integer> starts = new ArrayList<>();
        starts.add(0);
        while (starts.get(starts.size() - 1) < lines.size()) {
            starts.add(breakOf(lines, starts.get(starts.size() - 1)));
        }
        return starts;
    }

    private Spot spotOf(Line line) {
        return new Spot(line.paragraph, now.book.get(line.paragraph).offsetOf(line.first));
    }

    private int pages() {
        return starts(lines()).size() - 1;
    }

    private int pageOfSpot(Spot spot) {
        List<Line> lines = lines();
        int found = 0;
        for (int i = 0; i < lines.size(); i++) {
            if (spotOf(lines.get(i)).number() <= spot.number()) {
                found = i;
            }
        }
        return pageOfLine(lines, found);
    }

    private int pageOfLine(List<Line> lines, int line) {
        List<Integer> starts = starts(lines);
        int page = 0;
        while (starts.get(page + 1) <= line) {
            page++;
        }
        return page;
    }

    private List<Line> linesOfPage(int page) {
        List<Line> lines = lines();
        List<Integer> starts = starts(lines);
        return lines.subList(starts.get(page), starts.get(page + 1));
    }

    // ---- pages

    int setSize(int newWidth, int newHeight) {
        argument(in(newWidth, 18, 60) && in(newHeight, 2, 20));
        width = newWidth;
        height = newHeight;
        return pages();
    }

    int setStyle(int what, int value) {
        argument(in(what, 0, 4));
        argument(in(value, 0, what < 2 ? 4 : what == 2 ? 2 : 1));
        int before = style[what];
        style[what] = value;
        return before;
    }

    int page(int page, int what) {
        index(in(page, 0, pages() - 1));
        argument(in(what, 0, 6));
        List<Line> lines = linesOfPage(page);
        switch (what) {
            case 0:
                return spotOf(lines.get(0)).number();
            case 1:
                return page == pages() - 1 ? NONE : spotOf(linesOfPage(page + 1).get(0)).number();
            case 2:
                return lines.size();
            case 3:
                return linesShown(lines).size();
            case 4:
                return notesShown(lines).size();
            case 5:
                return references(lines).size();
            default:
                return annotationsOn(page);
        }
    }

    private int annotationsOn(int page) {
        int found = 0;
        for (Mark mark : now.marks) {
            boolean touches = false;
            for (int offset = mark.from; offset < mark.to; offset++) {
                touches |= !mark.lost && pageOfSpot(new Spot(mark.paragraph, offset)) == page;
            }
            found += touches ? 1 : 0;
        }
        return found;
    }

    int line(int number, int what) {
        List<Line> lines = lines();
        index(in(number, 0, lines.size() - 1));
        argument(in(what, 0, 5));
        Line line = lines.get(number);
        int page = pageOfLine(lines, number);
        switch (what) {
            case 0:
                return line.paragraph;
            case 1:
                return line.first;
            case 2:
                return line.words.size();
            case 3:
                return line.shown().length();
            case 4:
                return page;
            default:
                return linesShown(lines.subList(starts(lines).get(page), number + 1)).size() - 1;
        }
    }

    int shown(int page, int row, int column) {
        index(in(page, 0, pages() - 1));
        argument(in(row, 0, height - 1) && in(column, 0, width - 1));
        List<String> rows = linesShown(linesOfPage(page));
        List<String> foot = notesShown(linesOfPage(page));
        while (rows.size() + foot.size() < height) {
            rows.add("");
        }
        rows.addAll(foot);
        String text = rows.get(row);
        return column < text.length() ? text.charAt(column) : ' ';
    }

    int noteOn(int page, int index) {
        index(in(page, 0, pages() - 1));
        List<Integer> found = new ArrayList<>(references(linesOfPage(page)));
        index(in(index, 0, found.size() - 1));
        return found.get(index);
    }

    int pageOf(int paragraph, int offset) {
        index(hasOffset(paragraph, offset));
        return pageOfSpot(new Spot(paragraph, offset));
    }

    int floating(int line, boolean forward) {
        List<Line> lines = lines();
        index(in(line, 0, lines.size() - 1));
        if (forward) {
            return breakOf(lines, line);
        }
        for (int a = 0; a < line; a++) {
            if (breakOf(lines, a) == line) {
                return a;
            }
        }
        return NONE;
    }

    // ---- the reader

    int go(int paragraph, int offset) {
        index(hasOffset(paragraph, offset));
        now.jumps.add(now.reader);
        if (now.jumps.size() > 5) {
            now.jumps.remove(0);
        }
        now.reader = new Spot(paragraph, offset);
        return pageOfSpot(now.reader);
    }

    int turn(boolean forward) {
        int page = pageOfSpot(now.reader) + (forward ? 1 : -1);
        if (!in(page, 0, pages() - 1)) {
            return NONE;
        }
        now.reader = spotOf(linesOfPage(page).get(0));
        return page;
    }

    int back() {
        state(!now.jumps.isEmpty());
        now.reader = now.jumps.remove(now.jumps.size() - 1);
        return pageOfSpot(now.reader);
    }

    int find(boolean forward) {
        state(isWordList());
        String wanted = buffer.toString().split(" ")[0];
        int found = NONE;
        for (int p = 0; p < now.book.size(); p++) {
            Paragraph paragraph = now.book.get(p);
            for (int w = 0; w < paragraph.words.size(); w++) {
                int position = 1000 * p + paragraph.offsetOf(w);
                if (paragraph.words.get(w).equals(wanted)) {
                    if (forward && position > now.reader.number() && found == NONE) {
                        found = position;
                    } else if (!forward && position < now.reader.number()) {
                        found = position;
                    }
                }
            }
        }
        return found;
    }

    private int charactersOf(int paragraphs) {
        return now.book.stream().limit(paragraphs).mapToInt(p -> p.text().length()).sum();
    }

    int count(int what) {
        argument(in(what, 0, 11));
        switch (what) {
            case 0:
                return now.book.size();
            case 1:
                return now.book.stream().mapToInt(p -> p.words.size()).sum();
            case 2:
                return charactersOf(now.book.size());
            case 3:
                return lines().size();
            case 4:
                return pages();
            case 5:
                return pageOfSpot(now.reader);
            case 6:
                return now.reader.number();
            case 7:
                return now.marks.size();
            case 8:
                return (int) now.marks.stream().filter(m -> m.lost).count();
            case 9:
                return now.jumps.size();
            case 10:
                return saved.size();
            default:
                int before = charactersOf(now.reader.paragraph) + now.reader.offset;
                return before * 1000 / charactersOf(now.book.size());
        }
    }

    int paragraph(int paragraph, int what) {
        index(hasParagraph(paragraph));
        argument(in(what, 0, 4));
        Paragraph asked = now.book.get(paragraph);
        switch (what) {
            case 0:
                return asked.kind;
            case 1:
                return asked.words.size();
            case 2:
                return asked.text().length();
            case 3:
                return (int) lines().stream().filter(l -> l.paragraph == paragraph).count();
            default:
                return pageOfSpot(new Spot(paragraph, 0));
        }
    }

    int letter(int paragraph, int offset) {
        index(hasOffset(paragraph, offset));
        return now.book.get(paragraph).text().charAt(offset);
    }

    // ---- annotations

    int annotate(int paragraph, int from, int to, int color) {
        index(hasOffset(paragraph, from));
        index(in(to, from + 1, now.book.get(paragraph).text().length()));
        argument(in(color, 0, 7));
        state(now.marks.size() < 12);
        Mark mark = new Mark();
        mark.paragraph = paragraph;
        mark.from = from;
        mark.to = to;
        mark.color = color;
        now.marks.add(mark);
        return now.marks.size() - 1;
    }

    int annotation(int annotation, int what) {
        index(in(annotation, 0, now.marks.size() - 1));
        argument(in(what, 0, 5));
        Mark mark = now.marks.get(annotation);
        switch (what) {
            case 0:
                return mark.paragraph;
            case 1:
                return mark.from;
            case 2:
                return mark.to;
            case 3:
                return mark.color;
            case 4:
                return mark.lost ? 1 : 0;
            default:
                return mark.lost ? NONE : pageOfSpot(new Spot(mark.paragraph, mark.from));
        }
    }

    int removeAnnotation(int annotation) {
        index(in(annotation, 0, now.marks.size() - 1));
        now.marks.remove(annotation);
        return now.marks.size();
    }

    // ---- edits

    private void save() {
        saved.add(now.copy());
        if (saved.size() > 4) {
            saved.remove(0);
        }
    }

    int insert(int paragraph, int word) {
        index(hasParagraph(paragraph));
        Paragraph changed = now.book.get(paragraph);
        index(in(word, 0, changed.words.size()));
        state(isWordList());
        state(changed.words.size() + buffer.toString().split(" ").length <= 24);
        save();
        int many = buffer.length() + 1;
        int at = word == changed.words.size() ? changed.text().length() : changed.offsetOf(word);
        changed.words.addAll(word, takeWords());
        for (Spot spot : now.spots()) {
            if (spot.paragraph == paragraph && at <= spot.offset) {
                spot.offset += many;
            }
        }
        for (Mark mark : now.marks) {
            if (mark.paragraph == paragraph) {
                mark.to += at < mark.to || mark.lost && at == mark.to ? many : 0;
                mark.from += at <= mark.from ? many : 0;
            }
        }
        return changed.words.size();
    }

    private static int without(int offset, int start, int end) {
        return offset >= end ? offset - (end - start) : Math.min(offset, start);
    }

    int delete(int paragraph, int word, int many) {
        index(hasParagraph(paragraph));
        Paragraph changed = now.book.get(paragraph);
        index(in(word, 0, changed.words.size() - 1));
        index(in(many, 1, changed.words.size() - word));
        state(many < changed.words.size());
        save();
        boolean last = word + many == changed.words.size();
        int start = last ? changed.offsetOf(word) - 1 : changed.offsetOf(word);
        int end = last ? changed.text().length() : changed.offsetOf(word + many);
        for (int i = 0; i < many; i++) {
            changed.words.remove(word);
        }
        for (Spot spot : now.spots()) {
            if (spot.paragraph == paragraph) {
                spot.offset = Math.min(without(spot.offset, start, end), changed.text().length() - 1);
            }
        }
        for (Mark mark : now.marks) {
            if (mark.paragraph == paragraph) {
                mark.from = without(mark.from, start, end);
                mark.to = without(mark.to, start, end);
                mark.lost |= mark.from == mark.to;
            }
        }
        return changed.words.size();
    }

    int split(int paragraph, int word) {
        index(hasParagraph(paragraph));
        Paragraph first = now.book.get(paragraph);
        index(in(word, 1, first.words.size() - 1));
        state(now.book.size() < 10);
        save();
        int begin = first.offsetOf(word);
        int blank = begin - 1;
        Paragraph second = new Paragraph();
        second.kind = first.kind == 1 ? 0 : first.kind;
        while (first.words.size() > word) {
            second.words.add(first.words.remove(word));
        }
        now.book.add(paragraph + 1, second);
        for (Spot spot : now.spots()) {
            if (spot.paragraph > paragraph) {
                spot.paragraph++;
            } else if (spot.paragraph == paragraph && spot.offset >= begin) {
                spot.paragraph++;
                spot.offset -= begin;
            } else if (spot.paragraph == paragraph && spot.offset == blank) {
                spot.offset--;
            }
        }
        for (Mark mark : now.marks) {
            splitMark(mark, paragraph, begin, blank);
        }
        return now.book.size();
    }

    private static void splitMark(Mark mark, int paragraph, int begin, int blank) {
        if (mark.paragraph > paragraph) {
            mark.paragraph++;
        } else if (mark.paragraph == paragraph && mark.from >= begin) {
            mark.paragraph++;
            mark.from -= begin;
            mark.to -= begin;
        } else if (mark.paragraph == paragraph) {
            mark.from = mark.lost ? Math.min(mark.from, blank) : mark.from;
            mark.to = Math.min(mark.to, blank);
            mark.lost |= mark.from == mark.to;
        }
    }

    int join(int paragraph) {
        index(hasParagraph(paragraph) && hasParagraph(paragraph + 1));
        Paragraph first = now.book.get(paragraph);
        Paragraph second = now.book.get(paragraph + 1);
        state(first.words.size() + second.words.size() <= 24);
        save();
        int shift = first.text().length() + 1;
        first.words.addAll(second.words);
        now.book.remove(paragraph + 1);
        for (Spot spot : now.spots()) {
            spot.offset += spot.paragraph == paragraph + 1 ? shift : 0;
            spot.paragraph -= spot.paragraph > paragraph ? 1 : 0;
        }
        for (Mark mark : now.marks) {
            mark.from += mark.paragraph == paragraph + 1 ? shift : 0;
            mark.to += mark.paragraph == paragraph + 1 ? shift : 0;
            mark.paragraph -= mark.paragraph > paragraph ? 1 : 0;
        }
        return first.words.size();
    }

    int undo() {
        state(!saved.isEmpty());
        now = saved.remove(saved.size() - 1);
        return saved.size();
    }

    // ---- other sizes

    int ifSize(int otherWidth, int otherHeight, int what) {
        argument(in(otherWidth, 18, 60) && in(otherHeight, 2, 20) && in(what, 0, 2));
        int oldWidth = width;
        int oldHeight = height;
        width = otherWidth;
        height = otherHeight;
        int answer = what == 0 ? lines().size() : what == 1 ? pages() : pageOfSpot(now.reader);
        width = oldWidth;
        height = oldHeight;
        return answer;
    }

    int fit(int pages) {
        argument(pages >= 1);
        for (int tried = 18; tried <= 60; tried++) {
            if (ifSize(tried, height, 1) <= pages) {
                return tried;
            }
        }
        return NONE;
    }

    double fullness() {
        int full = pages() - 1;
        double sum = 0;
        for (int page = 0; page < full; page++) {
            sum += need(linesOfPage(page));
        }
        return full == 0 ? 0.0 : sum / (full * height);
    }

    /** The values that the digest takes in, in its order. */
    long digest() {
        List<Integer> values = new ArrayList<>();
        for (int what = 0; what < 12; what++) {
            values.add(count(what));
        }
        values.add(width);
        values.add(height);
        for (int part : style) {
            values.add(part);
        }
        for (int p = 0; p < now.book.size(); p++) {
            for (int what = 0; what < 5; what++) {
                values.add(paragraph(p, what));
            }
            now.book.get(p).text().chars().forEach(values::add);
        }
        for (int line = 0; line < lines().size(); line++) {
            for (int what = 0; what < 6; what++) {
                values.add(line(line, what));
            }
        }
        for (int page = 0; page < pages(); page++) {
            for (int what = 0; what < 7; what++) {
                values.add(page(page, what));
            }
        }
        for (int mark = 0; mark < now.marks.size(); mark++) {
            for (int what = 0; what < 6; what++) {
                values.add(annotation(mark, what));
            }
        }
        for (int note = 0; note < 10; note++) {
            values.add(wordsOfNote(note));
        }
        values.add(buffer.length());
        buffer.chars().forEach(values::add);
        long hash = 1931;
        for (int value : values) {
            hash = 31 * hash + value;
        }
        return hash;
    }
}
