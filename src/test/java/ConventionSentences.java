import java.util.function.ToIntFunction;

/** What is said of all methods: how they fail, NONE, numbering, the 512 calls, the constants. */
final class ConventionSentences {
    private final Due due;

    private ConventionSentences(Due due) {
        this.due = due;
    }

    static void ask(Due due) {
        ConventionSentences ask = new ConventionSentences(due);
        ask.calls512();
        ask.constants();
        ask.errorCodes();
        ask.orderOfErrors();
        ask.errorsChangeNothing();
        ask.noneIsNoError();
        ask.numberedFromZero();
    }

    private void calls512() {
        due.sentence("What it is", "An object is used for at most 512 calls after it has been made");
        GrowingBook book = new GrowingBook();
        for (int calls = 0; calls < 510; calls += 3) {
            due.is("add(3, 240)", book.add(3, 240), 240);
            due.is("add(3, 1)", book.add(3, 1), GrowingBook.TOO_MANY);
            due.is("cut(240)", book.cut(240), 0);
        }
        due.is("the 511th call: add(4, 2)", book.add(4, 2), 2);
        due.is("the 512th call: count(8)", book.count(8), 6);
    }

    private void constants() {
        due.sentence("Texts", "`NO_SUCH = -1, BAD_VALUE = -2, BAD_TEXT = -3, TOO_MANY = -4, NOT_POSSIBLE = -5, NONE = -6`:"
            + " Error codes, and NONE: there is none.");
        due.is("NO_SUCH", GrowingBook.NO_SUCH, -1);
        due.is("BAD_VALUE", GrowingBook.BAD_VALUE, -2);
        due.is("BAD_TEXT", GrowingBook.BAD_TEXT, -3);
        due.is("TOO_MANY", GrowingBook.TOO_MANY, -4);
        due.is("NOT_POSSIBLE", GrowingBook.NOT_POSSIBLE, -5);
        due.is("NONE", GrowingBook.NONE, -6);

        due.sentence("Texts", "`WIDEST = 0, POLICY = 1, WINDOW = 2`: Settings.");
        due.is("WIDEST", GrowingBook.WIDEST, 0);
        due.is("POLICY", GrowingBook.POLICY, 1);
        due.is("WINDOW", GrowingBook.WINDOW, 2);

        due.sentence("Texts", "`CLEAR = 8, END = 9`: Codes.");
        due.is("CLEAR", GrowingBook.CLEAR, 8);
        due.is("END", GrowingBook.END, 9);
    }

    private void errorCodes() {
        due.sentence("Terms", "A method that fails returns one of the error codes NO_SUCH (-1), BAD_VALUE (-2), BAD_TEXT (-3),"
            + " TOO_MANY (-4) and NOT_POSSIBLE (-5)");
        GrowingBook book = new GrowingBook();
        due.is("sign(0) of none", book.sign(0), -1);
        due.is("set(3, 4)", book.set(3, 4), -2);
        due.is("load() of an empty pad", book.load(), -3);
        due.is("undo() of nothing", book.undo(), -5);
        book.add(0, 240);
        due.is("add(0, 1) to 240", book.add(0, 1), -4);
    }

    private void orderOfErrors() {
        due.sentence("Terms", "it names its errors in the order in which they are checked, and the first one that applies is returned");
        GrowingBook none = new GrowingBook();
        due.is("cut(241) of none", none.cut(241), GrowingBook.BAD_VALUE);
        due.is("cut(240) of none", none.cut(240), GrowingBook.NOT_POSSIBLE);
        due.is("spoil(1, 0), no such code", none.spoil(1, 0), GrowingBook.NO_SUCH);
        due.is("spoil(0, 0)", none.spoil(0, 0), GrowingBook.BAD_VALUE);
        due.is("ofCode(1, 6)", none.ofCode(1, 6), GrowingBook.NO_SUCH);
        due.is("ofCode(0, 6)", none.ofCode(0, 6), GrowingBook.BAD_VALUE);
        due.is("entry(10, 3)", none.entry(10, 3), GrowingBook.NO_SUCH);
        due.is("entry(9, 3)", none.entry(9, 3), GrowingBook.BAD_VALUE);
        due.is("restore(2)", none.restore(2), GrowingBook.BAD_VALUE);
        due.is("restore(1), never saved", none.restore(1), GrowingBook.NOT_POSSIBLE);

        GrowingBook full = Books.typed("a".repeat(80));
        full.add(0, 240);
        due.is("add(8, 1) to 240", full.add(8, 1), GrowingBook.BAD_VALUE);
        due.is("add(0, 241) to 240", full.add(0, 241), GrowingBook.BAD_VALUE);
        due.is("put(32) on a full pad", full.put(32), GrowingBook.BAD_VALUE);
        due.is("put(0) on a full pad", full.put(0), GrowingBook.BAD_VALUE);
        due.is("put(33) on a full pad", full.put(33), GrowingBook.TOO_MANY);
        due.is("cheapest(2) of 240", full.cheapest(2), GrowingBook.BAD_VALUE);
        due.is("cheapest(0) of 240", full.cheapest(0), GrowingBook.NOT_POSSIBLE);
        due.is("load() of what is too long", full.load(), GrowingBook.TOO_MANY);
        full.wipe();
        Books.type(full, "60(60a)(");
        due.is("load() of what is too long and has a fault", full.load(), GrowingBook.BAD_TEXT);
    }

    /** An object whose every part differs from a new one's; its pad ends too early. */
    private static GrowingBook used() {
        GrowingBook book = Books.of(4, 2, 5, "aab");
        book.save(0);
        Books.add(book, "cdcdcdc");
        book.spoil(1, 3);
        book.spoil(3, 256);
        return Books.type(book, "2(gh");
    }

    /** An object that can take nothing more: 240 signs, 80 characters that are a right text. */
    private static GrowingBook full() {
        GrowingBook book = Books.typed("h".repeat(80));
        book.add(2, 239);
        book.save(1);
        book.add(5, 1);
        book.spoil(0, 4);
        return book;
    }

    private void errorsChangeNothing() {
        due.sentence("Terms", "A call that returns an error changes nothing.");
        onUsed("set(-1, 4)", GrowingBook.BAD_VALUE, book -> book.set(-1, 4));
        onUsed("set(3, 4)", GrowingBook.BAD_VALUE, book -> book.set(3, 4));
        onUsed("set(0, 10)", GrowingBook.BAD_VALUE, book -> book.set(0, 10));
        onUsed("set(1, 3)", GrowingBook.BAD_VALUE, book -> book.set(1, 3));
        onUsed("set(2, 33)", GrowingBook.BAD_VALUE, book -> book.set(2, 33));
        onUsed("add(8, 1)", GrowingBook.BAD_VALUE, book -> book.add(8, 1));
        onUsed("add(1, 0)", GrowingBook.BAD_VALUE, book -> book.add(1, 0));
        onUsed("add(1, 231)", GrowingBook.TOO_MANY, book -> book.add(1, 231));
        onUsed("cut(0)", GrowingBook.BAD_VALUE, book -> book.cut(0));
        onUsed("cut(241)", GrowingBook.BAD_VALUE, book -> book.cut(241));
        onUsed("cut(11)", GrowingBook.NOT_POSSIBLE, book -> book.cut(11));
        onUsed("spoil(40, 1)", GrowingBook.NO_SUCH, book -> book.spoil(40, 1));
        onUsed("spoil(1, 0)", GrowingBook.BAD_VALUE, book -> book.spoil(1, 0));
        onUsed("spoil(1, 512)", GrowingBook.BAD_VALUE, book -> book.spoil(1, 512));
        onUsed("put(0)", GrowingBook.BAD_VALUE, book -> book.put(0));
        onUsed("put of a and 127", GrowingBook.BAD_VALUE, book -> book.put('a' << 8 | 127));
        onUsed("put of a, 0 and b", GrowingBook.BAD_VALUE, book -> book.put('a' << 16 | 'b'));
        onUsed("load()", GrowingBook.BAD_TEXT, GrowingBook::load);
        onUsed("sign(10)", GrowingBook.NO_SUCH, book -> book.sign(10));
        onUsed("ofCode(40, 0)", GrowingBook.NO_SUCH, book -> book.ofCode(40, 0));
        onUsed("ofCode(0, 6)", GrowingBook.BAD_VALUE, book -> book.ofCode(0, 6));
        onUsed("count(12)", GrowingBook.BAD_VALUE, book -> book.count(12));
        onUsed("entry(40, 0)", GrowingBook.NO_SUCH, book -> book.entry(40, 0));
        onUsed("entry(0, 3)", GrowingBook.BAD_VALUE, book -> book.entry(0, 3));
        onUsed("reading(6)", GrowingBook.BAD_VALUE, book -> book.reading(6));
        onUsed("read(99)", GrowingBook.NO_SUCH, book -> book.read(99));
        onUsed("bitsWith(3, 1)", GrowingBook.BAD_VALUE, book -> book.bitsWith(3, 1));
        onUsed("bitsWith(4, 3)", GrowingBook.BAD_VALUE, book -> book.bitsWith(4, 3));
        onUsed("best(3)", GrowingBook.BAD_VALUE, book -> book.best(3));
        onUsed("tenderest(2)", GrowingBook.BAD_VALUE, book -> book.tenderest(2));
        onUsed("cheapest(2)", GrowingBook.BAD_VALUE, book -> book.cheapest(2));
        onUsed("save(2)", GrowingBook.BAD_VALUE, book -> book.save(2));
        onUsed("restore(2)", GrowingBook.BAD_VALUE, book -> book.restore(2));
        onUsed("restore(1)", GrowingBook.NOT_POSSIBLE, book -> book.restore(1));
        twins("add(0, 1) to 240", GrowingBook.TOO_MANY, full(), full(), book -> book.add(0, 1));
        twins("put(97) on 80", GrowingBook.TOO_MANY, full(), full(), book -> book.put('a'));
        twins("load() to 240", GrowingBook.TOO_MANY, full(), full(), GrowingBook::load);
        twins("cheapest(0) of 240", GrowingBook.NOT_POSSIBLE, full(), full(), book -> book.cheapest(0));
        twins("cut(1) of none", GrowingBook.NOT_POSSIBLE, new GrowingBook(), new GrowingBook(), book -> book.cut(1));
        twins("undo() of nothing", GrowingBook.NOT_POSSIBLE, new GrowingBook(), new GrowingBook(), GrowingBook::undo);
    }

    private void onUsed(String call, int error, ToIntFunction<GrowingBook> wrong) {
        twins(call, error, used(), used(), wrong);
    }

    /** Two objects that are alike: the call that fails is made on the one alone. */
    private void twins(String call, int error, GrowingBook one, GrowingBook other, ToIntFunction<GrowingBook> wrong) {
        due.is(call, wrong.applyAsInt(one), error);
        due.same("what there is after " + call, Books.whole(one), Books.whole(other));
    }

    private void noneIsNoError() {
        due.sentence("Terms", "NONE (-6) is not an error; it is returned only if no error applies.");
        GrowingBook book = new GrowingBook();
        due.is("ofCode(0, 3) of END", book.ofCode(0, 3), -6);
        due.is("ofCode(1, 3)", book.ofCode(1, 3), GrowingBook.NO_SUCH);
        due.is("entry(9, 1)", book.entry(9, 1), -6);
        due.is("entry(9, 2)", book.entry(9, 2), -6);
        due.is("entry(9, 3)", book.entry(9, 3), GrowingBook.BAD_VALUE);
        due.is("entry(10, 1)", book.entry(10, 1), GrowingBook.NO_SUCH);
        due.is("reading(1)", book.reading(1), -6);
        due.is("reading(5)", book.reading(5), -6);
        book.put('c');
        due.is("fault()", book.fault(), -6);
        due.is("load() then", book.load(), 1);
    }

    private void numberedFromZero() {
        due.sentence("Terms", "Everything is numbered from 0.");
        GrowingBook book = Books.of("bc");
        due.is("the first sign", book.sign(0), 1);
        due.is("the first code", book.ofCode(0, 0), 1);
        due.is("the place of the first code's sign", book.ofCode(0, 3), 0);
        due.is("the first sign read", book.read(0), 1);
        due.is("the first entry's sign", book.entry(0, 1), 0);
        due.is("the first slot", book.save(0), 2);
        due.is("the first setting", book.set(0, 4), 6);
        due.is("the pad's first character", Books.typed("!").fault(), 0);
        Books.comesAs(book, 0, 100);
        due.is("the first code is a fault", book.reading(1), 0);
        due.is("the first place is different", book.reading(5), 0);
    }
}
