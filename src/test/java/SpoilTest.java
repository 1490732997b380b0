/** Promise 5: spoil. */
public final class SpoilTest {
    private static final Due DUE = new Due();

    public static void main(String[] arguments) {
        turning();
        wrongCalls();
        DUE.end("SpoilTest");
    }

    private static void turning() {
        GrowingBook book = Due.withMessage(6, 1, 8, "ab");
        DUE.is("spoil(1, 511)", book.spoil(1, 511), 510);
        DUE.is("as written", book.ofCode(1, 0), 1);
        DUE.is("as it comes", book.ofCode(1, 1), 510);
        DUE.is("its width", book.ofCode(1, 2), 4);
        DUE.is("spoiled", book.count(6), 1);
        DUE.is("spoil(2, 1)", book.spoil(2, 1), 8);
        DUE.is("spoiled", book.count(6), 2);
        DUE.is("CLEAR codes as written", book.count(3), 0);
        DUE.is("spoil(1, 510)", book.spoil(1, 510), 0);
        DUE.is("spoil(1, 1)", book.spoil(1, 1), 1);
        DUE.is("spoiled", book.count(6), 1);
        DUE.is("a change, each of them", book.count(8), 6);
        DUE.is("undo()", book.undo(), 5);
        DUE.is("as it comes", book.ofCode(1, 1), 0);
        DUE.is("bits", book.count(2), 12);
    }

    private static void wrongCalls() {
        GrowingBook book = new GrowingBook();
        book.add(0, 1);
        for (int code : new int[] {-1, 2, Integer.MIN_VALUE, Integer.MAX_VALUE}) {
            DUE.is("spoil(" + code + ", 1)", book.spoil(code, 1), GrowingBook.NO_SUCH);
            DUE.is("spoil(" + code + ", 0)", book.spoil(code, 0), GrowingBook.NO_SUCH);
        }
        for (int bits : new int[] {-1, 0, 512, Integer.MIN_VALUE, Integer.MAX_VALUE}) {
            DUE.is("spoil(1, " + bits + ")", book.spoil(1, bits), GrowingBook.BAD_VALUE);
        }
        DUE.is("changes", book.count(8), 1);
        DUE.is("spoiled", book.count(6), 0);
    }
}
