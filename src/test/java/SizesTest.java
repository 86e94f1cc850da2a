/** Promises 31 to 34: other sizes, fullness and the digest. */
public final class SizesTest {
    private static final Script SCRIPT = new Script();
    private static final String FOUR_LINES = "bbbbbbbbbbbb cccccccccccc dddddddddddd eeeeeeeeeeee";

    public static void main(String[] args) {
        ifSize();
        fit();
        fullness();
        digestOfNewObject();
        digestOfFullState();
        SCRIPT.end();
    }

    private static void ifSize() {
        SCRIPT.run("promise 31",
                "type " + FOUR_LINES, "load() = 1", "setSize(30, 8) = 1", "count(3) = 2", "go(0, 40) = 0",
                "ifSize(18, 2, 0) = 4", "ifSize(18, 2, 1) = 2", "ifSize(18, 2, 2) = 1", "ifSize(60, 20, 0) = 1",
                "ifSize(60, 20, 1) = 1", "ifSize(60, 20, 2) = 0", "ifSize(18, 3, 1) = 2", "ifSize(18, 4, 1) = 1",
                "count(3) = 2", "count(4) = 1", "count(5) = 0", "count(6) = 40", "shown(0, 7, 29) = 32",
                "ifSize(17, 2, 0) = throws IllegalArgumentException",
                "ifSize(61, 2, 0) = throws IllegalArgumentException",
                "ifSize(18, 1, 0) = throws IllegalArgumentException",
                "ifSize(18, 21, 0) = throws IllegalArgumentException",
                "ifSize(18, 2, 3) = throws IllegalArgumentException",
                "ifSize(18, 2, -1) = throws IllegalArgumentException");
        SCRIPT.run("promise 31, with the notes and the style",
                "type a^1|b", "load() = 2", "type cccccccccccc dddddddddddd", "setNote(1) = 0",
                "setStyle(4, 1) = 0", "ifSize(18, 4, 1) = 2", "ifSize(30, 4, 1) = 1", "ifSize(18, 5, 1) = 1",
                "setStyle(2, 1) = 0", "ifSize(18, 5, 1) = 2");
    }

    private static void fit() {
        SCRIPT.run("promise 32",
                "type " + FOUR_LINES, "load() = 1", "setSize(30, 2) = 1", "fit(2) = 18", "fit(1) = 27",
                "fit(2147483647) = 18", "fit(0) = throws IllegalArgumentException",
                "fit(-1) = throws IllegalArgumentException", "count(3) = 2", "setSize(18, 2) = 2", "fit(1) = 27",
                "setSize(18, 4) = 1", "fit(1) = 18", "count(4) = 1", "setSize(18, 2) = 2");
        SCRIPT.run("promise 32, the greatest width",
                "type #" + FOUR_LINES + " ffffffff", "load() = 1", "type " + FOUR_LINES, "insert(0, 5) = 9",
                "setSize(30, 2) = 3", "fit(1) = 60", "setSize(59, 2) = 2", "setSize(60, 2) = 1");
        SCRIPT.run("promise 32, none", "type a|#b|#c", "load() = 3", "setSize(40, 2) = 3", "fit(1) = -1",
                "fit(2) = -1", "fit(3) = 18", "setSize(40, 5) = 1", "fit(1) = 18");
    }

    private static void fullness() {
        SCRIPT.run("promise 33",
                "fullness() = 0.0", "type " + FOUR_LINES + "|a", "load() = 2", "setSize(18, 2) = 3",
                "fullness() = 1.0", "setSize(18, 3) = 2", "fullness() = 1.0", "setStyle(3, 1) = 0",
                "fullness() = " + 2.0 / 3.0, "setSize(18, 5) = 1", "fullness() = 0.0");
        SCRIPT.run("promise 33, gaps and notes",
                "type a^1|b|c", "load() = 3", "type cccccccccccc dddddddddddd", "setNote(1) = 0",
                "setStyle(4, 1) = 0", "setSize(18, 2) = 2", "fullness() = 2.0", "setStyle(4, 0) = 1",
                "fullness() = 1.0", "setStyle(2, 1) = 0", "count(4) = 3", "fullness() = 0.5",
                "setSize(18, 4) = 2", "fullness() = 0.75");
    }

    private static long hash(int... values) {
        long hash = 1931;
        for (int value : values) {
            hash = hash * 31 + value;
        }
        return hash;
    }

    private static void digestOfNewObject() {
        long due = hash(1, 1, 1, 1, 1, 0, 0, 0, 0, 0, 0, 0, 30, 8, 2, 4, 0, 0, 0,
                0, 1, 1, 1, 0, 'a',
                0, 0, 1, 3, 0, 0,
                0, -1, 1, 1, 0, 0, 0,
                0, 0, 0, 0, 0, 0, 0, 0, 0, 0,
                0);
        SCRIPT.run("promise 34, a new object", "digest() = " + due, "digest() = " + due);
    }

    private static void digestOfFullState() {
        long due = hash(3, 4, 9, 3, 2, 1, 2000, 2, 1, 1, 1, 888, 20, 8, 1, 3, 2, 1, 1,
                1, 1, 1, 1, 0, 'A',
                0, 2, 7, 1, 0, 'b', '^', '1', ' ', 'c', 'c', 'c',
                2, 1, 1, 1, 1, 'd',
                0, 0, 1, 1, 0, 0,
                1, 0, 2, 8, 0, 3,
                2, 0, 1, 4, 1, 0,
                0, 2000, 2, 4, 2, 1, 1,
                2000, -1, 1, 1, 0, 0, 0,
                1, 4, 4, 7, 1, -1,
                1, 0, 3, 4, 0, 0,
                0, 2, 0, 0, 0, 0, 0, 0, 0, 1,
                2, '#', '~');
        SCRIPT.run("promise 34, a full state",
                "type #A|b^1 x ccc|>d", "load() = 3", "annotate(1, 4, 5, 7) = 0", "annotate(1, 0, 3, 4) = 1",
                "go(2, 0) = 0", "setStyle(0, 1) = 2", "setStyle(1, 3) = 4", "setStyle(2, 2) = 0",
                "setStyle(3, 1) = 0", "setStyle(4, 1) = 0", "type n o", "setNote(1) = 0", "type p",
                "setNote(9) = 0", "setSize(20, 8) = 2", "delete(1, 1, 1) = 2", "type #~", "digest() = " + due);
    }
}
