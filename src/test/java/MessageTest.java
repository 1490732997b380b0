/** Promises 3, 4 and 10: add, cut and sign. */
public final class MessageTest {
    private static final Due DUE = new Due();

    public static void main(String[] arguments) {
        adding();
        cutting();
        mending();
        DUE.end("MessageTest");
    }

    private static void adding() {
        GrowingBook book = new GrowingBook();
        DUE.is("add(7, 3)", book.add(7, 3), 3);
        DUE.is("add(0, 1)", book.add(0, 1), 4);
        DUE.same("the message", Due.message(book), "hhha");
        for (int place : new int[] {-1, 4, 240, Integer.MIN_VALUE, Integer.MAX_VALUE}) {
            DUE.is("sign(" + place + ")", book.sign(place), GrowingBook.NO_SUCH);
        }
        for (int bad : new int[] {-1, 8, Integer.MIN_VALUE, Integer.MAX_VALUE}) {
            DUE.is("add(" + bad + ", 1)", book.add(bad, 1), GrowingBook.BAD_VALUE);
        }
        for (int bad : new int[] {-1, 0, 241, Integer.MIN_VALUE, Integer.MAX_VALUE}) {
            DUE.is("add(1, " + bad + ")", book.add(1, bad), GrowingBook.BAD_VALUE);
        }
        DUE.is("add(1, 237)", book.add(1, 237), GrowingBook.TOO_MANY);
        DUE.is("length", book.count(0), 4);
        DUE.is("changes", book.count(8), 2);
        DUE.is("add(1, 236)", book.add(1, 236), 240);
        DUE.is("sign(239)", book.sign(239), 1);
        DUE.is("sign(240)", book.sign(240), GrowingBook.NO_SUCH);
        DUE.is("add(1, 1)", book.add(1, 1), GrowingBook.TOO_MANY);
        DUE.is("add(8, 240)", book.add(8, 240), GrowingBook.BAD_VALUE);
        DUE.is("add(2, 240) to none", new GrowingBook().add(2, 240), 240);
    }

    private static void cutting() {
        GrowingBook book = new GrowingBook();
        DUE.is("cut(1) of none", book.cut(1), GrowingBook.NOT_POSSIBLE);
        book.add(3, 5);
        book.add(4, 5);
        DUE.is("cut(6)", book.cut(6), 4);
        DUE.same("the message", Due.message(book), "dddd");
        DUE.is("sign(4)", book.sign(4), GrowingBook.NO_SUCH);
        for (int bad : new int[] {-1, 0, 241, Integer.MIN_VALUE, Integer.MAX_VALUE}) {
            DUE.is("cut(" + bad + ")", book.cut(bad), GrowingBook.BAD_VALUE);
        }
        DUE.is("cut(5)", book.cut(5), GrowingBook.NOT_POSSIBLE);
        DUE.is("cut(240)", book.cut(240), GrowingBook.NOT_POSSIBLE);
        DUE.is("changes", book.count(8), 3);
        DUE.is("cut(4)", book.cut(4), 0);
        DUE.is("codes", book.count(1), 1);
        book.add(5, 240);
        DUE.is("cut(240)", book.cut(240), 0);
    }

    private static void mending() {
        GrowingBook book = new GrowingBook();
        book.add(3, 5);
        book.spoil(0, 1);
        DUE.is("a bad add", book.add(0, 240), GrowingBook.TOO_MANY);
        DUE.is("a bad cut", book.cut(6), GrowingBook.NOT_POSSIBLE);
        DUE.is("spoiled still", book.count(6), 1);
        book.add(3, 1);
        DUE.is("spoiled no more", book.count(6), 0);
        book.spoil(0, 1);
        book.cut(1);
        DUE.is("spoiled no more", book.count(6), 0);
        DUE.is("the code as it comes", book.ofCode(0, 1), 3);
    }
}
