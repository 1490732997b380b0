/** Promises 1 and 2: a new object, and set. */
public final class SettingsTest {
    private static final Due DUE = new Due();

    public static void main(String[] arguments) {
        newObject();
        ranges();
        wrongCalls();
        mending();
        DUE.end("SettingsTest");
    }

    private static void newObject() {
        GrowingBook book = new GrowingBook();
        int[] counts = {0, 1, 4, 0, 10, 0, 0, 0, 0, 6, 1, 8};
        for (int what = 0; what < counts.length; what++) {
            DUE.is("new: count(" + what + ")", book.count(what), counts[what]);
        }
        DUE.is("new: sign(0)", book.sign(0), GrowingBook.NO_SUCH);
        DUE.is("new: read(0)", book.read(0), GrowingBook.NO_SUCH);
        DUE.is("new: fault()", book.fault(), 0);
        DUE.is("new: undo()", book.undo(), GrowingBook.NOT_POSSIBLE);
        DUE.is("new: restore(0)", book.restore(0), GrowingBook.NOT_POSSIBLE);
        DUE.is("new: restore(1)", book.restore(1), GrowingBook.NOT_POSSIBLE);
    }

    private static void ranges() {
        int[] lowest = {4, 0, 4};
        int[] first = {6, 1, 8};
        int[] highest = {9, 2, 32};
        for (int setting = 0; setting < 3; setting++) {
            GrowingBook book = new GrowingBook();
            int previous = first[setting];
            for (int value = lowest[setting]; value <= highest[setting]; value++) {
                DUE.is("set(" + setting + ", " + value + ")", book.set(setting, value), previous);
                DUE.is("count of it", book.count(9 + setting), value);
                previous = value;
            }
            DUE.is("set to the same", book.set(setting, previous), previous);
            for (int bad : new int[] {lowest[setting] - 1, highest[setting] + 1, Integer.MIN_VALUE, Integer.MAX_VALUE}) {
                int changes = book.count(8);
                DUE.is("set(" + setting + ", " + bad + ")", book.set(setting, bad), GrowingBook.BAD_VALUE);
                DUE.is("count of it", book.count(9 + setting), previous);
                DUE.is("changes", book.count(8), changes);
            }
        }
    }

    private static void wrongCalls() {
        GrowingBook book = new GrowingBook();
        for (int setting : new int[] {-1, 3, Integer.MIN_VALUE, Integer.MAX_VALUE}) {
            DUE.is("set(" + setting + ", 4)", book.set(setting, 4), GrowingBook.BAD_VALUE);
        }
        DUE.is("changes", book.count(8), 0);
        DUE.is("set to what it is", book.set(GrowingBook.POLICY, 1), 1);
        DUE.is("changes", book.count(8), 1);
    }

    private static void mending() {
        for (int setting = 0; setting < 3; setting++) {
            GrowingBook book = new GrowingBook();
            book.spoil(0, 5);
            DUE.is("spoiled", book.count(6), 1);
            DUE.is("a bad set", book.set(setting, 99), GrowingBook.BAD_VALUE);
            DUE.is("spoiled still", book.count(6), 1);
            book.set(setting, book.count(9 + setting));
            DUE.is("spoiled no more", book.count(6), 0);
            DUE.is("the code as it comes", book.ofCode(0, 1), GrowingBook.END);
        }
    }
}
