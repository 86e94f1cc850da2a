/** Reads a book and a note, and prints the pages as they are shown. */
public final class Tour {
    private static final int WIDTH = 20;
    private static final int HEIGHT = 5;

    public static void main(String[] args) {
        BookPager pager = new BookPager();
        type(pager, "#Of rivers|The river^1 runs past a mill.|>Mills grind^2 corn.");
        pager.load();
        type(pager, "Some say brook.");
        pager.setNote(1);
        pager.setStyle(4, 1); // footnotes on
        int pages = pager.setSize(WIDTH, HEIGHT);
        for (int page = 0; page < pages; page++) {
            print(pager, page);
        }
    }

    static void type(BookPager pager, String text) {
        for (char sign : text.toCharArray()) {
            pager.append(sign);
        }
    }

    private static void print(BookPager pager, int page) {
        System.out.println("page " + page);
        for (int row = 0; row < HEIGHT; row++) {
            StringBuilder shown = new StringBuilder();
            for (int column = 0; column < WIDTH; column++) {
                shown.append((char) pager.shown(page, row, column));
            }
            System.out.println("[" + shown + "]");
        }
    }
}
