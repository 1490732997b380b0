/** The settings, promise 1 (a new object) and promise 2 (set). */
final class SettingSentences {
    private static final int[] LOWEST = {4, 0, 4};
    private static final int[] HIGHEST = {9, 2, 32};
    private static final int[] FIRST = {6, 1, 8};

    private final Due due;

    private SettingSentences(Due due) {
        this.due = due;
    }

    static void ask(Due due) {
        SettingSentences ask = new SettingSentences(due);
        ask.ranges();
        ask.newObject();
        ask.changes();
        ask.mends();
        ask.isChange();
        ask.previous();
        ask.wrongCalls();
    }

    private void ranges() {
        due.sentence("Settings", "(In parentheses: range; first value.)");
        for (int setting = 0; setting < 3; setting++) {
            due.is("count(" + (9 + setting) + ") at first", new GrowingBook().count(9 + setting), FIRST[setting]);
        }
        due.sentence("Settings", "WIDEST (4 to 9; 6), in bits.");
        range(GrowingBook.WIDEST);
        due.sentence("Settings", "POLICY (0 to 2; 1).");
        range(GrowingBook.POLICY);
        due.sentence("Settings", "WINDOW (4 to 32; 8), in codes.");
        range(GrowingBook.WINDOW);
    }

    private void range(int setting) {
        GrowingBook book = new GrowingBook();
        due.is("set below the range", book.set(setting, LOWEST[setting] - 1), GrowingBook.BAD_VALUE);
        due.is("set above the range", book.set(setting, HIGHEST[setting] + 1), GrowingBook.BAD_VALUE);
        due.is("count of the first value", book.count(9 + setting), FIRST[setting]);
        int previous = FIRST[setting];
        for (int value = LOWEST[setting]; value <= HIGHEST[setting]; value++) {
            due.is("set(" + setting + ", " + value + ")", book.set(setting, value), previous);
            due.is("count of it", book.count(9 + setting), value);
            previous = value;
        }
    }

    private void newObject() {
        due.sentence("Promise 1", "`GrowingBook()`: Creates an empty message.");
        GrowingBook book = new GrowingBook();
        int[] counts = {0, 1, 4, 0, 10, 0, 0, 0, 0, 6, 1, 8};
        for (int what = 0; what < counts.length; what++) {
            due.is("count(" + what + ")", book.count(what), counts[what]);
        }
        int[] readings = {0, GrowingBook.NONE, 0, 10, 0, GrowingBook.NONE};
        for (int what = 0; what < readings.length; what++) {
            due.is("reading(" + what + ")", book.reading(what), readings[what]);
        }
        due.same("the codes", Books.codes(book), "9");
        due.is("sign(0)", book.sign(0), GrowingBook.NO_SUCH);
        due.is("read(0)", book.read(0), GrowingBook.NO_SUCH);
        due.is("ofCode(1, 0)", book.ofCode(1, 0), GrowingBook.NO_SUCH);
        due.is("entry(10, 0)", book.entry(10, 0), GrowingBook.NO_SUCH);
        due.is("fault()", book.fault(), 0);
        due.is("undo()", book.undo(), GrowingBook.NOT_POSSIBLE);
        due.is("restore(0)", book.restore(0), GrowingBook.NOT_POSSIBLE);
        due.is("restore(1)", book.restore(1), GrowingBook.NOT_POSSIBLE);

        // What one object has is none of another's.
        GrowingBook other = Books.type(Books.of(9, 0, 32, "abc"), "12");
        other.save(0);
        other.spoil(0, 1);
        due.same("an object beside another", Books.whole(book), Books.whole(new GrowingBook()));
        due.same("a new object after another", Books.view(new GrowingBook()), "{0 1 4 0 10 0 0 0 0 6 1 8 0 -6 0 10 0 -6"
            + " -1 9 -1 -1 -1 -1 -1 -1 -1 -1 -1 -1 -1 0}");
    }

    private void changes() {
        due.sentence("Promise 2", "Changes a setting");
        GrowingBook book = Books.of("abcdefgh");
        book.set(GrowingBook.WIDEST, 4);
        due.same("settings", settings(book), "4 1 8");
        due.same("codes by WIDEST 4", Books.codes(book), "0 1 2 3 4 5 8 6 7 9");
        book.set(GrowingBook.POLICY, 0);
        due.same("settings", settings(book), "4 0 8");
        due.same("codes by POLICY 0", Books.codes(book), "0 1 2 3 4 5 6 7 9");
        book.set(GrowingBook.WINDOW, 20);
        due.same("settings", settings(book), "4 0 20");
        due.same("the message", Books.message(book), "abcdefgh");
    }

    private static String settings(GrowingBook book) {
        return book.count(9) + " " + book.count(10) + " " + book.count(11);
    }

    private void mends() {
        due.sentence("Promise 2", "no code is spoiled any more");
        for (int setting = 0; setting < 3; setting++) {
            GrowingBook book = Books.of("ab");
            book.spoil(0, 5);
            book.spoil(2, 1);
            due.is("spoiled codes", book.count(6), 2);
            due.is("a set that fails", book.set(setting, 99), GrowingBook.BAD_VALUE);
            due.is("spoiled codes", book.count(6), 2);
            due.is("a set to what it is", book.set(setting, FIRST[setting]), FIRST[setting]);
            due.is("spoiled codes", book.count(6), 0);
            due.is("the code as it comes", book.ofCode(0, 1), 0);
            due.is("what was read and the message", book.reading(5), GrowingBook.NONE);
        }
    }

    private void isChange() {
        due.sentence("Promise 2", "This is a change.");
        for (int setting = 0; setting < 3; setting++) {
            GrowingBook book = new GrowingBook();
            book.set(setting, LOWEST[setting]);
            due.is("can be undone", book.count(8), 1);
            book.set(setting, LOWEST[setting]);
            due.is("can be undone, though nothing is different", book.count(8), 2);
            book.undo();
            due.is("the setting", book.count(9 + setting), LOWEST[setting]);
            book.undo();
            due.is("the setting", book.count(9 + setting), FIRST[setting]);
        }
    }

    private void previous() {
        due.sentence("Promise 2", "Returns the previous value");
        GrowingBook book = new GrowingBook();
        due.is("set(0, 9)", book.set(0, 9), 6);
        due.is("set(1, 0)", book.set(1, 0), 1);
        due.is("set(2, 32)", book.set(2, 32), 8);
        due.is("set(0, 9) again", book.set(0, 9), 9);
        due.is("set(1, 2)", book.set(1, 2), 0);
        due.is("set(2, 4)", book.set(2, 4), 32);
        book.undo();
        due.is("set(2, 5) after undo", book.set(2, 5), 32);
    }

    private void wrongCalls() {
        due.sentence("Promise 2", "BAD_VALUE if there is no such setting");
        GrowingBook book = new GrowingBook();
        for (int setting : new int[] {-1, 3, Books.MIN, Books.MAX}) {
            for (int value : new int[] {0, 1, 4, 8}) {
                due.is("set(" + setting + ", " + value + ")", book.set(setting, value), GrowingBook.BAD_VALUE);
            }
        }
        due.is("can be undone", book.count(8), 0);

        due.sentence("Promise 2", "or the value is out of its range.");
        int[][] bad = {{-4, 0, 3, 10, Books.MIN, Books.MAX}, {-1, 3, Books.MIN, Books.MAX}, {0, 3, 33, Books.MIN, Books.MAX}};
        for (int setting = 0; setting < 3; setting++) {
            for (int value : bad[setting]) {
                due.is("set(" + setting + ", " + value + ")", book.set(setting, value), GrowingBook.BAD_VALUE);
            }
        }
        due.is("can be undone", book.count(8), 0);
        due.same("settings", settings(book), "6 1 8");
    }
}
