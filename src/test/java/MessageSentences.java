/** The message, promises 3 (add), 4 (cut) and 10 (sign). */
final class MessageSentences {
    private final Due due;

    private MessageSentences(Due due) {
        this.due = due;
    }

    static void ask(Due due) {
        MessageSentences ask = new MessageSentences(due);
        ask.signs();
        ask.longest();
        ask.adds();
        ask.addMendsAndIsChange();
        ask.addRanges();
        ask.addTooMany();
        ask.cuts();
        ask.cutMendsAndIsChange();
        ask.cutRange();
        ask.cutNotPossible();
        ask.signAtPlace();
    }

    private void signs() {
        due.sentence("Message", "There are 8 signs, a to h (0 to 7).");
        GrowingBook book = new GrowingBook();
        for (int sign = 0; sign < 8; sign++) {
            due.is("add(" + sign + ", 1)", book.add(sign, 1), sign + 1);
            due.is("sign(" + sign + ")", book.sign(sign), sign);
            due.is("the sign " + (char) ('a' + sign) + " of a text", signOf((char) ('a' + sign)), sign);
        }
        due.is("add(8, 1)", book.add(8, 1), GrowingBook.BAD_VALUE);
        due.is("fault of i", Books.typed("i").fault(), 0);
    }

    private static int signOf(char character) {
        GrowingBook book = new GrowingBook();
        book.put(character);
        book.load();
        return book.sign(0);
    }

    private void longest() {
        due.sentence("Message", "The message is a row of at most 240 signs (none at first).");
        GrowingBook book = new GrowingBook();
        due.is("length at first", book.count(0), 0);
        due.is("add(0, 239)", book.add(0, 239), 239);
        due.is("add(1, 1)", book.add(1, 1), 240);
        due.is("add(2, 1)", book.add(2, 1), GrowingBook.TOO_MANY);
        due.is("length", book.count(0), 240);
        due.is("sign(239)", book.sign(239), 1);
        due.is("sign(240)", book.sign(240), GrowingBook.NO_SUCH);
        due.is("what was read", book.reading(0), 240);
        due.is("what was read and the message", book.reading(5), GrowingBook.NONE);
    }

    private void adds() {
        due.sentence("Promise 3", "Puts signs at the end of the message");
        GrowingBook book = new GrowingBook();
        book.add(7, 3);
        book.add(0, 1);
        book.add(4, 2);
        due.same("the message", Books.message(book), "hhhaee");
        due.same("its codes", Books.codes(book), "7 10 0 4 4 9");

        due.sentence("Promise 3", "Returns the length of the message then");
        due.is("add(7, 3)", book.add(7, 3), 9);
        due.is("add(0, 1)", book.add(0, 1), 10);
        due.is("add(0, 230)", book.add(0, 230), 240);
    }

    private void addMendsAndIsChange() {
        due.sentence("Promise 3", "no code is spoiled any more");
        GrowingBook book = Books.of("ddddd");
        book.spoil(0, 1);
        due.is("add(0, 236)", book.add(0, 236), GrowingBook.TOO_MANY);
        due.is("add(8, 1)", book.add(8, 1), GrowingBook.BAD_VALUE);
        due.is("spoiled codes", book.count(6), 1);
        book.add(3, 1);
        due.is("spoiled codes", book.count(6), 0);
        due.is("the code as it comes", book.ofCode(0, 1), 3);
        due.same("what was read", Books.read(book), "dddddd");

        due.sentence("Promise 3", "This is a change.");
        due.is("can be undone", book.count(8), 3);
        due.is("undo()", book.undo(), 2);
        due.same("the message", Books.message(book), "ddddd");
        due.is("spoiled codes", book.count(6), 1);
    }

    private void addRanges() {
        due.sentence("Promise 3", "`sign`: 0 to 7");
        due.is("add(0, 1)", new GrowingBook().add(0, 1), 1);
        due.is("add(7, 1)", new GrowingBook().add(7, 1), 1);
        due.is("add(-1, 1)", new GrowingBook().add(-1, 1), GrowingBook.BAD_VALUE);
        due.is("add(8, 1)", new GrowingBook().add(8, 1), GrowingBook.BAD_VALUE);

        due.sentence("Promise 3", "`many`: 1 to 240");
        due.is("add(5, 1)", new GrowingBook().add(5, 1), 1);
        due.is("add(5, 240)", new GrowingBook().add(5, 240), 240);
        due.is("add(5, 0)", new GrowingBook().add(5, 0), GrowingBook.BAD_VALUE);
        due.is("add(5, 241)", new GrowingBook().add(5, 241), GrowingBook.BAD_VALUE);

        due.sentence("Promise 3", "BAD_VALUE if an argument is out of range");
        GrowingBook book = Books.of("ab");
        for (int bad : new int[] {-8, -1, 8, 9, 256, Books.MIN, Books.MAX}) {
            due.is("add(" + bad + ", 1)", book.add(bad, 1), GrowingBook.BAD_VALUE);
        }
        for (int bad : new int[] {-1, 0, 241, 256, Books.MIN, Books.MAX, Books.MAX - 1}) {
            due.is("add(1, " + bad + ")", book.add(1, bad), GrowingBook.BAD_VALUE);
        }
        due.same("the message", Books.message(book), "ab");
        due.is("can be undone", book.count(8), 2);
    }

    private void addTooMany() {
        due.sentence("Promise 3", "TOO_MANY if it would be longer than 240.");
        GrowingBook book = Books.of("aaab");
        due.is("add(1, 237)", book.add(1, 237), GrowingBook.TOO_MANY);
        due.is("add(1, 240)", book.add(1, 240), GrowingBook.TOO_MANY);
        due.same("the message", Books.message(book), "aaab");
        due.is("can be undone", book.count(8), 2);
        due.is("add(1, 236)", book.add(1, 236), 240);
        due.is("add(1, 1)", book.add(1, 1), GrowingBook.TOO_MANY);
        book.cut(1);
        due.is("add(2, 2)", book.add(2, 2), GrowingBook.TOO_MANY);
        due.is("add(2, 1)", book.add(2, 1), 240);
        due.is("sign(239)", book.sign(239), 2);
    }

    private void cuts() {
        due.sentence("Promise 4", "Takes signs from the end of the message");
        GrowingBook book = Books.of("abcdefgh");
        book.cut(3);
        due.same("the message", Books.message(book), "abcde");
        due.same("its codes", Books.codes(book), "0 1 2 3 4 9");
        due.is("sign(5)", book.sign(5), GrowingBook.NO_SUCH);
        book.add(7, 2);
        due.same("the message with more behind it", Books.message(book), "abcdehh");

        due.sentence("Promise 4", "Returns the length of the message then");
        due.is("cut(1)", book.cut(1), 6);
        due.is("cut(2)", book.cut(2), 4);
        due.is("cut(4)", book.cut(4), 0);
    }

    private void cutMendsAndIsChange() {
        due.sentence("Promise 4", "no code is spoiled any more");
        GrowingBook book = Books.of("ddddd");
        book.spoil(0, 1);
        due.is("cut(6)", book.cut(6), GrowingBook.NOT_POSSIBLE);
        due.is("cut(0)", book.cut(0), GrowingBook.BAD_VALUE);
        due.is("spoiled codes", book.count(6), 1);
        book.cut(1);
        due.is("spoiled codes", book.count(6), 0);
        due.is("the code as it comes", book.ofCode(0, 1), 3);
        due.same("what was read", Books.read(book), "dddd");

        due.sentence("Promise 4", "This is a change.");
        due.is("can be undone", book.count(8), 3);
        due.is("undo()", book.undo(), 2);
        due.same("the message", Books.message(book), "ddddd");
        due.is("spoiled codes", book.count(6), 1);
    }

    private void cutRange() {
        due.sentence("Promise 4", "`many`: 1 to 240");
        GrowingBook book = new GrowingBook();
        book.add(5, 240);
        due.is("cut(0)", book.cut(0), GrowingBook.BAD_VALUE);
        due.is("cut(241)", book.cut(241), GrowingBook.BAD_VALUE);
        due.is("cut(240)", book.cut(240), 0);
        book.add(5, 1);
        due.is("cut(1)", book.cut(1), 0);

        due.sentence("Promise 4", "BAD_VALUE if many is out of range");
        book = Books.of("ab");
        for (int bad : new int[] {-1, 0, 241, 256, Books.MIN, Books.MAX}) {
            due.is("cut(" + bad + ")", book.cut(bad), GrowingBook.BAD_VALUE);
        }
        due.same("the message", Books.message(book), "ab");
        due.is("can be undone", book.count(8), 2);
    }

    private void cutNotPossible() {
        due.sentence("Promise 4", "NOT_POSSIBLE if there are not so many.");
        GrowingBook book = new GrowingBook();
        due.is("cut(1) of none", book.cut(1), GrowingBook.NOT_POSSIBLE);
        book.add(3, 5);
        due.is("cut(6) of 5", book.cut(6), GrowingBook.NOT_POSSIBLE);
        due.is("cut(240) of 5", book.cut(240), GrowingBook.NOT_POSSIBLE);
        due.is("length", book.count(0), 5);
        due.is("can be undone", book.count(8), 1);
        due.is("cut(5) of 5", book.cut(5), 0);
        due.same("the codes", Books.codes(book), "9");
    }

    private void signAtPlace() {
        due.sentence("Promise 10", "Returns the sign of the message at a place");
        GrowingBook book = Books.of("hga");
        due.is("sign(0)", book.sign(0), 7);
        due.is("sign(1)", book.sign(1), 6);
        due.is("sign(2)", book.sign(2), 0);
        book.spoil(0, 1);
        due.is("sign(0), its code spoiled", book.sign(0), 7);

        due.sentence("Promise 10", "NO_SUCH if there is no such place.");
        for (int place : new int[] {-1, 3, 4, 239, 240, 241, Books.MIN, Books.MAX}) {
            due.is("sign(" + place + ")", book.sign(place), GrowingBook.NO_SUCH);
        }
        due.is("sign(0) of none", new GrowingBook().sign(0), GrowingBook.NO_SUCH);
        book.cut(1);
        due.is("sign(2) of what was cut", book.sign(2), GrowingBook.NO_SUCH);
        // cheapest tries a sign behind the end: it is no sign of the message.
        book.cheapest(0);
        due.is("sign(2) after cheapest", book.sign(2), GrowingBook.NO_SUCH);
        book.add(0, 238);
        due.is("sign(240) of 240", book.sign(240), GrowingBook.NO_SUCH);
    }
}
