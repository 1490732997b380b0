/** Promise 5 (spoil). */
final class SpoilSentences {
    private final Due due;

    private SpoilSentences(Due due) {
        this.due = due;
    }

    static void ask(Due due) {
        SpoilSentences ask = new SpoilSentences(due);
        ask.spoils();
        ask.isChange();
        ask.arguments();
        ask.answer();
        ask.wrongCalls();
    }

    private void spoils() {
        due.sentence("Promise 5", "Spoils a code");
        GrowingBook book = Books.of("ab");
        book.spoil(1, 6);
        due.is("the code as it comes", book.ofCode(1, 1), 7);
        due.is("the code as it was written", book.ofCode(1, 0), 1);
        due.is("the code ahead of it", book.ofCode(0, 1), 0);
        due.is("the code behind it", book.ofCode(2, 1), GrowingBook.END);
        due.is("spoiled codes", book.count(6), 1);
        due.same("what was read", Books.read(book), "ah");
        due.same("the message", Books.message(book), "ab");
        due.is("the bits", book.count(2), 12);

        due.sentence("Promise 5", "(once more: what was turned twice is as it was)");
        book = Books.of("ab");
        book.spoil(1, 511);
        due.is("spoil(1, 510)", book.spoil(1, 510), 0);
        due.is("spoiled codes", book.count(6), 1);
        due.is("spoil(1, 1)", book.spoil(1, 1), 1);
        due.is("spoiled codes", book.count(6), 0);
        due.same("what was read", Books.read(book), "ab");
        due.is("spoil(1, 1)", book.spoil(1, 1), 0);
        due.is("spoiled codes", book.count(6), 1);
    }

    private void isChange() {
        due.sentence("Promise 5", "This is a change.");
        GrowingBook book = Books.of("ab");
        book.spoil(0, 4);
        due.is("can be undone", book.count(8), 3);
        book.spoil(0, 4);
        due.is("can be undone", book.count(8), 4);
        due.is("undo()", book.undo(), 3);
        due.is("the code as it comes", book.ofCode(0, 1), 4);
        due.is("undo()", book.undo(), 2);
        due.is("the code as it comes", book.ofCode(0, 1), 0);
    }

    private void arguments() {
        due.sentence("Promise 5", "`code`: the place of a code");
        GrowingBook book = Books.of(4, 1, 8, "abcdefg");
        due.is("the first code", book.spoil(0, 1), 1);
        due.is("CLEAR", book.spoil(6, 1), 9);
        due.is("END", book.spoil(8, 1), 8);
        due.is("END of none", new GrowingBook().spoil(0, 1), 8);
        due.is("spoiled codes", book.count(6), 3);
        due.is("CLEAR codes as they were written", book.count(3), 1);
        GrowingBook most = Books.loaded(4, 1, 8, "abcdef".repeat(40));
        due.is("the last of 280 codes", most.spoil(279, 1), 8);

        due.sentence("Promise 5", "`bits`: the bits that are turned, 1 to 511");
        due.is("spoil(0, 1)", Books.of("b").spoil(0, 1), 0);
        due.is("spoil(0, 511)", Books.of("b").spoil(0, 511), 510);
        due.is("spoil(0, 256), above its width", Books.of("b").spoil(0, 256), 257);
        due.is("spoil(0, 0)", Books.of("b").spoil(0, 0), GrowingBook.BAD_VALUE);
        due.is("spoil(0, 512)", Books.of("b").spoil(0, 512), GrowingBook.BAD_VALUE);
    }

    private void answer() {
        due.sentence("Promise 5", "Returns the code as it is then");
        GrowingBook book = Books.of("ab");
        due.is("spoil(1, 511)", book.spoil(1, 511), 510);
        due.is("spoil(1, 3)", book.spoil(1, 3), 509);
        due.is("spoil(2, 1)", book.spoil(2, 1), 8);
        due.is("spoil(2, 1)", book.spoil(2, 1), 9);
    }

    private void wrongCalls() {
        due.sentence("Promise 5", "NO_SUCH if there is no such code");
        GrowingBook book = Books.of("a");
        for (int code : new int[] {-1, 2, 3, 280, 281, 282, Books.MIN, Books.MAX}) {
            due.is("spoil(" + code + ", 1)", book.spoil(code, 1), GrowingBook.NO_SUCH);
            due.is("spoil(" + code + ", 0)", book.spoil(code, 0), GrowingBook.NO_SUCH);
        }
        book.cut(1);
        due.is("spoil(1, 1) of what was cut", book.spoil(1, 1), GrowingBook.NO_SUCH);
        GrowingBook most = Books.loaded(4, 1, 8, "abcdef".repeat(40));
        due.is("spoil(280, 1) of 280 codes", most.spoil(280, 1), GrowingBook.NO_SUCH);

        due.sentence("Promise 5", "BAD_VALUE if bits is out of range.");
        book = Books.of("a");
        for (int bits : new int[] {-511, -1, 0, 512, 1024, Books.MIN, Books.MAX}) {
            due.is("spoil(1, " + bits + ")", book.spoil(1, bits), GrowingBook.BAD_VALUE);
        }
        due.is("can be undone", book.count(8), 1);
        due.is("spoiled codes", book.count(6), 0);
    }
}
