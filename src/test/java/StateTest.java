/** Promises 20 to 22: undo, save and restore. */
public final class StateTest {
    private static final Due DUE = new Due();

    public static void main(String[] arguments) {
        undoing();
        sixStates();
        everyChange();
        noChanges();
        saving();
        restoring();
        DUE.end("StateTest");
    }

    private static void undoing() {
        GrowingBook book = new GrowingBook();
        book.add(0, 3);
        book.spoil(1, 2);
        book.set(GrowingBook.WIDEST, 4);
        book.put('a');
        DUE.is("undo() of set", book.undo(), 2);
        DUE.is("WIDEST", book.count(9), 6);
        DUE.is("spoiled", book.count(6), 1);
        DUE.is("as it comes", book.ofCode(1, 1), 8);
        DUE.is("the pad stays", book.count(7), 1);
        DUE.is("undo() of spoil", book.undo(), 1);
        DUE.is("spoiled", book.count(6), 0);
        DUE.is("reading(5)", book.reading(5), GrowingBook.NONE);
        DUE.is("undo() of add", book.undo(), 0);
        DUE.is("length", book.count(0), 0);
        DUE.is("codes", book.count(1), 1);
        DUE.is("undo() of none", book.undo(), GrowingBook.NOT_POSSIBLE);
        // What was undone is no change that can be undone.
        book.add(1, 1);
        DUE.is("undo()", book.undo(), 0);
    }

    private static void sixStates() {
        GrowingBook book = new GrowingBook();
        for (int change = 1; change <= 20; change++) {
            book.add(change % 8, 1);
            DUE.is("can be undone", book.count(8), Math.min(change, 6));
        }
        for (int left = 5; left >= 0; left--) {
            DUE.is("undo()", book.undo(), left);
            DUE.is("length", book.count(0), 14 + left);
        }
        DUE.is("undo()", book.undo(), GrowingBook.NOT_POSSIBLE);
        DUE.is("length", book.count(0), 14);
        for (int change = 1; change <= 7; change++) {
            book.cut(1);
            book.undo();
            book.add(0, 1);
            DUE.is("can be undone", book.count(8), Math.min(change, 6));
        }
        DUE.is("length", book.count(0), 21);
    }

    private static void everyChange() {
        GrowingBook book = new GrowingBook();
        book.set(GrowingBook.POLICY, 1);
        DUE.is("set", book.count(8), 1);
        book.add(0, 2);
        DUE.is("add", book.count(8), 2);
        book.cut(1);
        DUE.is("cut", book.count(8), 3);
        book.spoil(0, 1);
        DUE.is("spoil", book.count(8), 4);
        book.put('a');
        book.load();
        DUE.is("load", book.count(8), 5);
        book.save(0);
        DUE.is("save is none", book.count(8), 5);
        book.restore(0);
        DUE.is("restore, though nothing is different", book.count(8), 6);
        DUE.is("undo()", book.undo(), 5);
        DUE.same("the message", Due.message(book), "aa");
    }

    private static void noChanges() {
        GrowingBook book = new GrowingBook();
        book.set(9, 9);
        book.add(9, 9);
        book.cut(9);
        book.spoil(9, 9);
        book.put(0);
        book.wipe();
        book.fault();
        book.load();
        book.save(9);
        book.restore(9);
        book.restore(1);
        book.undo();
        DUE.is("can be undone", book.count(8), 0);
    }

    private static void saving() {
        GrowingBook book = new GrowingBook();
        for (int bad : new int[] {-1, 2, Integer.MIN_VALUE, Integer.MAX_VALUE}) {
            DUE.is("save(" + bad + ")", book.save(bad), GrowingBook.BAD_VALUE);
            DUE.is("restore(" + bad + ")", book.restore(bad), GrowingBook.BAD_VALUE);
        }
        DUE.is("save(0)", book.save(0), 0);
        DUE.is("restore(1)", book.restore(1), GrowingBook.NOT_POSSIBLE);
        book.add(5, 7);
        DUE.is("save(1)", book.save(1), 7);
        book.add(6, 3);
        DUE.is("restore(0)", book.restore(0), 0);
        DUE.is("restore(1)", book.restore(1), 7);
        DUE.same("the message", Due.message(book), "fffffff");
        book.add(6, 1);
        DUE.is("save(1) over it", book.save(1), 8);
        book.cut(8);
        DUE.is("restore(1)", book.restore(1), 8);
        DUE.same("the message", Due.message(book), "fffffffg");
        DUE.is("restore(1) once more", book.restore(1), 8);
    }

    private static void restoring() {
        GrowingBook book = Due.withMessage(5, 2, 4, "abc");
        book.spoil(1, 3);
        book.save(0);
        book.put('h');
        book.set(GrowingBook.WIDEST, 9);
        book.set(GrowingBook.POLICY, 0);
        book.set(GrowingBook.WINDOW, 32);
        book.load();
        book.put('g');
        book.spoil(0, 1);
        DUE.is("restore(0)", book.restore(0), 3);
        DUE.is("WIDEST", book.count(9), 5);
        DUE.is("POLICY", book.count(10), 2);
        DUE.is("WINDOW", book.count(11), 4);
        DUE.is("spoiled", book.count(6), 1);
        DUE.is("as it comes", book.ofCode(1, 1), 2);
        DUE.same("read", Due.read(book), "acc");
        DUE.is("the pad stays", book.count(7), 1);
        DUE.is("undo()", book.undo(), 5);
        DUE.is("WIDEST", book.count(9), 9);
        DUE.same("the message", Due.message(book), "abch");
        DUE.is("as it comes", book.ofCode(0, 1), 1);
        DUE.is("as it comes", book.ofCode(1, 1), 1);
        DUE.is("the slot keeps it", book.restore(0), 3);
    }
}
