import java.util.function.Consumer;

/** Promises 20 (undo), 21 (save) and 22 (restore). */
final class StateSentences {
    private final Due due;

    private StateSentences(Due due) {
        this.due = due;
    }

    static void ask(Due due) {
        StateSentences ask = new StateSentences(due);
        ask.undoes();
        ask.sixStates();
        ask.everyChange();
        ask.noChanges();
        ask.oldestIsDropped();
        ask.undoAnswers();
        ask.saves();
        ask.savesOver();
        ask.slots();
        ask.restores();
        ask.restoreIsChange();
        ask.neverSaved();
    }

    private static GrowingBook abc() {
        GrowingBook book = Books.of(5, 2, 4, "abc");
        book.spoil(1, 3);
        return book;
    }

    /** The settings, the message and the codes as they come. */
    private static String state(GrowingBook book) {
        StringBuilder text = new StringBuilder();
        text.append(book.count(9)).append(' ').append(book.count(10)).append(' ').append(book.count(11)).append(' ');
        text.append(Books.message(book));
        int codes = book.count(1);
        for (int code = 0; code < codes; code++) {
            text.append(' ').append(book.ofCode(code, 1));
        }
        return text.toString();
    }

    private void undone(String name, Consumer<GrowingBook> change) {
        GrowingBook book = abc();
        due.same("the state", state(book), "5 2 4 abc 0 2 2 9");
        change.accept(book);
        book.undo();
        due.same("the state after " + name + " and undo()", state(book), "5 2 4 abc 0 2 2 9");
        due.same("what was read", Books.read(book), "acc");
    }

    private void undoes() {
        due.sentence("Promise 20", "Undoes the latest change: the settings, the message and what is spoiled are as they were before it.");
        undone("set(0, 9)", book -> book.set(0, 9));
        undone("set(1, 0)", book -> book.set(1, 0));
        undone("set(2, 32)", book -> book.set(2, 32));
        undone("add(7, 3)", book -> book.add(7, 3));
        undone("cut(3)", book -> book.cut(3));
        undone("spoil(1, 3)", book -> book.spoil(1, 3));
        undone("spoil(0, 511)", book -> book.spoil(0, 511));
        undone("load()", book -> Books.type(book, "60h").load());
        undone("cut(2), and add(7, 2), undone by then", book -> {
            book.cut(2);
            book.add(7, 2);
            book.undo();
        });
        GrowingBook book = new GrowingBook();
        book.save(0);
        Books.add(book, "abcd");
        book.spoil(0, 1);
        book.restore(0);
        book.undo();
        due.same("the state after restore and undo()", state(book), "6 1 8 abcd 1 1 2 3 9");
        book.undo();
        due.same("the state after one more", state(book), "6 1 8 abcd 0 1 2 3 9");
        GrowingBook pad = Books.typed("ab");
        pad.load();
        pad.put('c');
        pad.undo();
        due.is("the pad is no part of it", pad.count(7), 1);
    }

    private void sixStates() {
        due.sentence("Promise 20", "A history of at most 6 states is kept");
        GrowingBook book = new GrowingBook();
        for (int change = 1; change <= 20; change++) {
            book.add(change % 8, 1);
            due.is("can be undone", book.count(8), Math.min(change, 6));
        }
        for (int left = 5; left >= 0; left--) {
            due.is("undo()", book.undo(), left);
            due.is("length", book.count(0), 14 + left);
        }
        due.is("undo()", book.undo(), GrowingBook.NOT_POSSIBLE);
        due.is("length", book.count(0), 14);
    }

    private void everyChange() {
        due.sentence("Promise 20", "each method that is a change, and returns no error, records the state before it (also if nothing is"
            + " different then)");
        GrowingBook book = new GrowingBook();
        book.set(GrowingBook.POLICY, 1);
        due.is("set, and nothing is different", book.count(8), 1);
        book.add(0, 2);
        due.is("add", book.count(8), 2);
        book.cut(1);
        due.is("cut", book.count(8), 3);
        book.spoil(0, 1);
        due.is("spoil", book.count(8), 4);
        book.put('a');
        due.is("put is none", book.count(8), 4);
        book.load();
        due.is("load", book.count(8), 5);
        book.save(0);
        due.is("save is none", book.count(8), 5);
        book.restore(0);
        due.is("restore, and nothing is different", book.count(8), 6);
        due.is("undo()", book.undo(), 5);
        due.same("the message", Books.message(book), "aa");
        due.is("undo()", book.undo(), 4);
        due.same("the message", Books.message(book), "a");
        due.is("spoiled codes", book.count(6), 1);
    }

    private void noChanges() {
        due.sentence("Promise 20", "and returns no error");
        GrowingBook book = new GrowingBook();
        book.set(9, 9);
        book.set(0, 3);
        book.add(9, 9);
        book.add(0, 241);
        book.cut(9);
        book.cut(0);
        book.spoil(9, 9);
        book.spoil(0, 0);
        book.load();
        book.save(9);
        book.restore(9);
        book.restore(1);
        due.is("can be undone after errors", book.count(8), 0);
        due.is("undo()", book.undo(), GrowingBook.NOT_POSSIBLE);
        book.put('a');
        book.fault();
        book.wipe();
        book.save(0);
        book.best(0);
        book.cheapest(0);
        due.is("can be undone after what is no change", book.count(8), 0);
    }

    private void oldestIsDropped() {
        due.sentence("Promise 20", "when one more is recorded, the oldest one is dropped.");
        GrowingBook book = new GrowingBook();
        for (int change = 1; change <= 7; change++) {
            book.add(0, 1);
        }
        for (int left = 5; left >= 0; left--) {
            book.undo();
            due.is("length", book.count(0), 1 + left);
        }
        due.is("undo() to the empty message", book.undo(), GrowingBook.NOT_POSSIBLE);
        // Around the end of the row of states, in both directions.
        for (int change = 1; change <= 15; change++) {
            book.add(1, 2);
            book.undo();
            book.add(2, 1);
            due.is("can be undone", book.count(8), Math.min(change, 6));
        }
        due.is("length", book.count(0), 16);
        for (int left = 5; left >= 0; left--) {
            book.undo();
            due.is("length", book.count(0), 10 + left);
        }
        due.same("the message", Books.message(book), "accccccccc");
    }

    private void undoAnswers() {
        due.sentence("Promise 20", "Returns how many changes can be undone then");
        GrowingBook book = Books.of("aabbbc");
        due.is("undo()", book.undo(), 2);
        due.is("undo()", book.undo(), 1);
        due.is("undo()", book.undo(), 0);
        book.add(1, 1);
        due.is("what was undone is no change: undo()", book.undo(), 0);

        due.sentence("Promise 20", "NOT_POSSIBLE if there is none.");
        due.is("undo() once more", book.undo(), GrowingBook.NOT_POSSIBLE);
        due.is("undo() of a new object", new GrowingBook().undo(), GrowingBook.NOT_POSSIBLE);
    }

    private void saves() {
        due.sentence("Promise 21", "Saves the settings, the message and what is spoiled in a slot");
        GrowingBook book = abc();
        book.save(0);
        book.set(GrowingBook.WIDEST, 9);
        book.set(GrowingBook.POLICY, 0);
        book.set(GrowingBook.WINDOW, 32);
        book.add(3, 1);
        book.spoil(0, 1);
        book.restore(0);
        due.is("WIDEST", book.count(9), 5);
        due.is("POLICY", book.count(10), 2);
        due.is("WINDOW", book.count(11), 4);
        due.same("the message", Books.message(book), "abc");
        due.is("spoiled codes", book.count(6), 1);
        due.is("the code as it comes", book.ofCode(1, 1), 2);
        due.same("what was read", Books.read(book), "acc");
        GrowingBook other = abc();
        other.save(1);
        due.same("what there is after save", Books.view(other), Books.view(abc()));

        due.sentence("Promise 21", "Returns the length of the message");
        due.is("save(0) of none", new GrowingBook().save(0), 0);
        due.is("save(1) of abc", abc().save(1), 3);
        due.is("save(0) of 240", Books.of("a".repeat(240)).save(0), 240);
    }

    private void savesOver() {
        due.sentence("Promise 21", "and overwrites what was saved there.");
        GrowingBook book = Books.of("abc");
        book.save(0);
        book.save(1);
        book.add(3, 1);
        due.is("save(1) over it", book.save(1), 4);
        book.cut(4);
        due.is("restore(1)", book.restore(1), 4);
        due.same("the message", Books.message(book), "abcd");
        due.is("restore(0), which is another", book.restore(0), 3);
        book.cut(2);
        book.save(0);
        due.is("restore(0)", book.restore(0), 1);
        due.same("a shorter message", Books.message(book), "a");
        GrowingBook spoiled = abc();
        spoiled.save(0);
        spoiled.add(3, 1);
        spoiled.save(0);
        spoiled.restore(0);
        due.is("spoiled codes of what was saved over", spoiled.count(6), 0);
    }

    private void slots() {
        due.sentence("Promise 21", "`slot`: 0 or 1");
        GrowingBook book = Books.of("ab");
        due.is("save(0)", book.save(0), 2);
        due.is("save(1)", book.save(1), 2);
        due.is("save(2)", book.save(2), GrowingBook.BAD_VALUE);

        due.sentence("Promise 21", "BAD_VALUE if there is no such slot.");
        for (int slot : new int[] {-1, 2, 3, Books.MIN, Books.MAX}) {
            due.is("save(" + slot + ")", book.save(slot), GrowingBook.BAD_VALUE);
        }

        due.sentence("Promise 22", "`slot`: 0 or 1");
        due.is("restore(0)", book.restore(0), 2);
        due.is("restore(1)", book.restore(1), 2);
        due.is("restore(2)", book.restore(2), GrowingBook.BAD_VALUE);

        due.sentence("Promise 22", "BAD_VALUE if there is no such slot");
        for (int slot : new int[] {-1, 2, 3, Books.MIN, Books.MAX}) {
            due.is("restore(" + slot + ")", book.restore(slot), GrowingBook.BAD_VALUE);
        }
        due.is("can be undone", book.count(8), 4);
    }

    private void restores() {
        due.sentence("Promise 22", "Restores what was saved last in a slot, which keeps it.");
        GrowingBook book = abc();
        book.save(1);
        book.set(GrowingBook.POLICY, 0);
        book.add(7, 200);
        book.put('h');
        for (int time = 0; time < 3; time++) {
            due.is("restore(1)", book.restore(1), 3);
            due.is("POLICY", book.count(10), 2);
            due.is("spoiled codes", book.count(6), 1);
            due.same("what was read", Books.read(book), "acc");
            due.is("the pad is no part of it", book.count(7), 1);
            // What comes after it leaves the slot as it is.
            book.spoil(0, 4);
            book.cut(1);
            book.add(6, 5);
            book.set(GrowingBook.POLICY, 1);
        }
        book.undo();
        book.undo();
        book.undo();
        due.is("restore(1) after undo", book.restore(1), 3);
        due.same("the message", Books.message(book), "abc");
        due.is("the code as it comes", book.ofCode(0, 1), 0);

        due.sentence("Promise 22", "Returns the length of the message then");
        GrowingBook lengths = new GrowingBook();
        lengths.save(0);
        lengths.add(0, 240);
        lengths.save(1);
        due.is("restore(0)", lengths.restore(0), 0);
        due.is("restore(1)", lengths.restore(1), 240);
    }

    private void restoreIsChange() {
        due.sentence("Promise 22", "This is a change.");
        GrowingBook book = Books.of("ab");
        book.save(0);
        book.set(GrowingBook.WIDEST, 9);
        book.add(2, 1);
        book.spoil(1, 1);
        due.is("restore(0)", book.restore(0), 2);
        due.is("can be undone", book.count(8), 6);
        due.is("undo()", book.undo(), 5);
        due.is("WIDEST", book.count(9), 9);
        due.same("the message", Books.message(book), "abc");
        due.is("the code as it comes", book.ofCode(1, 1), 0);
    }

    private void neverSaved() {
        due.sentence("Promise 22", "NOT_POSSIBLE if nothing was saved in it.");
        GrowingBook book = Books.of("ab");
        due.is("restore(0)", book.restore(0), GrowingBook.NOT_POSSIBLE);
        due.is("restore(1)", book.restore(1), GrowingBook.NOT_POSSIBLE);
        book.save(0);
        due.is("restore(1), the other one was saved", book.restore(1), GrowingBook.NOT_POSSIBLE);
        due.is("restore(0)", book.restore(0), 2);
        due.is("can be undone", book.count(8), 3);
        book.undo();
        due.is("restore(0), saved all the same after undo", book.restore(0), 2);
        due.same("the message", Books.message(book), "ab");
    }
}
