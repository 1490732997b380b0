/** What there is to know about writing: promises 11 (ofCode), 12 (count) and 13 (entry). */
final class CodeSentences {
    private final Due due;

    private CodeSentences(Due due) {
        this.due = due;
    }

    static void ask(Due due) {
        CodeSentences ask = new CodeSentences(due);
        ask.codes();
        ask.wrongCodes();
        ask.countsOfCodes();
        ask.countsOfBooks();
        ask.otherCounts();
        ask.wrongCounts();
        ask.entries();
        ask.wrongEntries();
    }

    /** The codes are 0 10 0 1 9: a, aa, a, b and END. */
    private static GrowingBook aaaab() {
        return Books.of("aaaab");
    }

    /** The codes are 0 1 2 3 4 5 CLEAR 6 7 END. */
    private static GrowingBook cleared() {
        return Books.of(4, 1, 8, "abcdefgh");
    }

    private void row(String name, GrowingBook book, int what, int... want) {
        for (int code = 0; code < want.length; code++) {
            due.is(name + ": ofCode(" + code + ", " + what + ")", book.ofCode(code, what), want[code]);
        }
    }

    private void codes() {
        int none = GrowingBook.NONE;
        due.sentence("Promise 11", "0 its number as it was written");
        row("aaaab", aaaab(), 0, 0, 10, 0, 1, 9);
        row("cleared", cleared(), 0, 0, 1, 2, 3, 4, 5, 8, 6, 7, 9);
        row("none", new GrowingBook(), 0, 9);
        GrowingBook spoiled = Books.comesAs(aaaab(), 1, 300);
        row("spoiled", spoiled, 0, 0, 10, 0, 1, 9);

        due.sentence("Promise 11", "1 as it comes (spoiled or not)");
        row("aaaab", aaaab(), 1, 0, 10, 0, 1, 9);
        row("spoiled", spoiled, 1, 0, 300, 0, 1, 9);
        spoiled.spoil(1, 300 ^ 10);
        row("turned twice", spoiled, 1, 0, 10, 0, 1, 9);
        row("END spoiled", Books.comesAs(new GrowingBook(), 0, 8), 1, 8);

        due.sentence("Promise 11", "2 its width");
        row("aaaab", aaaab(), 2, 4, 4, 4, 4, 4);
        row("abcdefgh", Books.of("abcdefgh"), 2, 4, 4, 4, 4, 4, 4, 4, 5, 5);
        row("cleared", cleared(), 2, 4, 4, 4, 4, 4, 4, 4, 4, 4, 4);
        row("spoiled", Books.comesAs(aaaab(), 1, 511), 2, 4, 4, 4, 4, 4);

        due.sentence("Promise 11", "3 the place of the first sign for which it stands (NONE for CLEAR and END)");
        row("aaaab", aaaab(), 3, 0, 1, 3, 4, none);
        row("cleared", cleared(), 3, 0, 1, 2, 3, 4, 5, none, 6, 7, none);
        row("none", new GrowingBook(), 3, none);
        row("spoiled to END and CLEAR", Books.comesAs(Books.comesAs(Books.of("ab"), 0, 9), 1, 8), 3, 0, 1, none);
        row("END spoiled to a sign", Books.comesAs(Books.of("ab"), 2, 0), 3, 0, 1, none);

        due.sentence("Promise 11", "4 for how many signs it stands (0 for CLEAR and END)");
        row("aaaab", aaaab(), 4, 1, 2, 1, 1, 0);
        row("cleared", cleared(), 4, 1, 1, 1, 1, 1, 1, 0, 1, 1, 0);
        row("none", new GrowingBook(), 4, 0);
        row("spoiled to END and CLEAR", Books.comesAs(Books.comesAs(Books.of("ab"), 0, 9), 1, 8), 4, 1, 1, 0);

        due.sentence("Promise 11", "5 how many entries the book of the writer had as it was written");
        row("aaaab", aaaab(), 5, 10, 11, 12, 13, 13);
        row("cleared", cleared(), 5, 10, 11, 12, 13, 14, 15, 16, 10, 11, 11);
        row("kept", Books.of(4, 0, 8, "abcdefgh"), 5, 10, 11, 12, 13, 14, 15, 16, 16, 16);
        row("none", new GrowingBook(), 5, 10);
    }

    private void wrongCodes() {
        due.sentence("Promise 11", "NO_SUCH if there is no such code");
        GrowingBook book = Books.of("ab");
        for (int code : new int[] {-1, 3, 4, 280, 281, 282, Books.MIN, Books.MAX}) {
            for (int what : new int[] {-1, 0, 1, 5, 6}) {
                due.is("ofCode(" + code + ", " + what + ")", book.ofCode(code, what), GrowingBook.NO_SUCH);
            }
        }
        book.cut(1);
        due.is("ofCode(2, 0) of what was cut", book.ofCode(2, 0), GrowingBook.NO_SUCH);

        due.sentence("Promise 11", "BAD_VALUE if what is out of range.");
        for (int what : new int[] {-6, -1, 6, 7, Books.MIN, Books.MAX}) {
            due.is("ofCode(0, " + what + ")", book.ofCode(0, what), GrowingBook.BAD_VALUE);
            due.is("ofCode(1, " + what + ") of END", book.ofCode(1, what), GrowingBook.BAD_VALUE);
        }
    }

    private void countsOfCodes() {
        due.sentence("Promise 12", "0 the length of the message");
        due.is("of none", new GrowingBook().count(0), 0);
        due.is("of aaaab", aaaab().count(0), 5);
        due.is("of a message of which nothing is read", Books.comesAs(aaaab(), 0, 9).count(0), 5);

        due.sentence("Promise 12", "1 codes");
        due.is("of none", new GrowingBook().count(1), 1);
        due.is("of aaaab", aaaab().count(1), 5);
        due.is("with CLEAR and END", cleared().count(1), 10);
        due.is("END too early", Books.comesAs(aaaab(), 0, 9).count(1), 5);

        due.sentence("Promise 12", "2 the bits of all codes by their widths");
        due.is("of none", new GrowingBook().count(2), 4);
        due.is("of aaaab", aaaab().count(2), 20);
        due.is("of abcdefgh", Books.of("abcdefgh").count(2), 7 * 4 + 2 * 5);
        due.is("with CLEAR and END", cleared().count(2), 40);
        due.is("of spoiled codes", Books.comesAs(aaaab(), 1, 511).count(2), 20);

        due.sentence("Promise 12", "3 how many of the codes are CLEAR");
        due.is("of none", new GrowingBook().count(3), 0);
        due.is("one", cleared().count(3), 1);
        due.is("two", Books.of(4, 1, 8, "abcdefabcdefg").count(3), 2);
        due.is("a code that comes as CLEAR", Books.comesAs(aaaab(), 0, 8).count(3), 0);
    }

    private void countsOfBooks() {
        due.sentence("Promise 12", "4 the entries of the writer's book at the end");
        due.is("of none", new GrowingBook().count(4), 10);
        due.is("of aaaab", aaaab().count(4), 13);
        due.is("cleared", cleared().count(4), 11);
        due.is("cleared ahead of the last sign", Books.of(4, 1, 8, "abcdefg").count(4), 10);
        due.is("just not cleared", Books.of(4, 1, 8, "abcdef").count(4), 15);
        due.is("full", Books.of(4, 0, 8, "abcdefgh").count(4), 16);
        due.is("the reader's is another", Books.comesAs(aaaab(), 0, 9).count(4), 13);

        due.sentence("Promise 12", "5 the length of the longest phrase that was in it at any time (0 if there was none)");
        due.is("of none", new GrowingBook().count(5), 0);
        due.is("of a", Books.of("a").count(5), 0);
        due.is("of ab", Books.of("ab").count(5), 2);
        due.is("of aa", Books.of("aa").count(5), 2);
        due.is("of aaa: no sign is left behind the second code", Books.of("aaa").count(5), 2);
        due.is("of aaaa", Books.of("aaaa").count(5), 3);
        due.is("of aaaab", aaaab().count(5), 3);
        // 22 signs a: the last phrase is of seven, and then there is none.
        GrowingBook longest = Books.of(4, 1, 8, "a".repeat(22));
        due.is("CLEAR codes", longest.count(3), 1);
        due.is("entries", longest.count(4), 10);
        due.is("of 22 signs a, cleared", longest.count(5), 7);
        due.is("and shorter ones since", Books.of(4, 1, 8, "a".repeat(22) + "bc").count(5), 7);
        due.is("and a longer one since", Books.of(4, 1, 8, "abcdefg" + "a".repeat(20)).count(5), 6);
        due.is("of 240 signs a, WIDEST 5", Books.of(5, 1, 8, "a".repeat(240)).count(5), 22);
        longest.cut(20);
        due.is("of aa, cut from them", longest.count(5), 2);
    }

    private void otherCounts() {
        due.sentence("Promise 12", "6 codes that are spoiled");
        GrowingBook book = aaaab();
        due.is("none", book.count(6), 0);
        book.spoil(0, 1);
        book.spoil(4, 256);
        due.is("two", book.count(6), 2);
        book.spoil(4, 1);
        due.is("one of them once more", book.count(6), 2);
        book.spoil(4, 257);
        due.is("one of them as it was", book.count(6), 1);

        due.sentence("Promise 12", "7 the length of the pad");
        book = new GrowingBook();
        due.is("empty", book.count(7), 0);
        book.put(Books.packed("abc"));
        due.is("abc", book.count(7), 3);
        due.is("80 characters", Books.typed("(".repeat(80)).count(7), 80);
        book.load();
        due.is("loaded", book.count(7), 0);

        due.sentence("Promise 12", "8 how many changes can be undone");
        book = new GrowingBook();
        for (int changes = 0; changes < 9; changes++) {
            due.is("after " + changes, book.count(8), Math.min(changes, 6));
            book.add(0, 1);
        }
        book.undo();
        due.is("after undo", book.count(8), 5);

        due.sentence("Promise 12", "9 to 11 the settings");
        book = Books.of(9, 2, 31, "");
        due.is("WIDEST", book.count(9), 9);
        due.is("POLICY", book.count(10), 2);
        due.is("WINDOW", book.count(11), 31);
    }

    private void wrongCounts() {
        due.sentence("Promise 12", "BAD_VALUE if what is out of range.");
        GrowingBook book = aaaab();
        for (int what : new int[] {-12, -1, 12, 13, Books.MIN, Books.MAX}) {
            due.is("count(" + what + ")", book.count(what), GrowingBook.BAD_VALUE);
        }
    }

    private void entryRow(GrowingBook book, int what, int... want) {
        for (int entry = 0; entry < want.length; entry++) {
            due.is("entry(" + entry + ", " + what + ")", book.entry(entry, what), want[entry]);
        }
    }

    private void entries() {
        int none = GrowingBook.NONE;
        due.sentence("Promise 13", "`entry`: a number from 0 on");
        due.is("entry(0, 0)", aaaab().entry(0, 0), 1);
        due.is("entry(12, 0)", aaaab().entry(12, 0), 2);
        due.is("entry(13, 0)", aaaab().entry(13, 0), GrowingBook.NO_SUCH);

        due.sentence("Promise 13", "0 how many signs it has (0 for CLEAR and END)");
        entryRow(aaaab(), 0, 1, 1, 1, 1, 1, 1, 1, 1, 0, 0, 2, 3, 2, GrowingBook.NO_SUCH);

        due.sentence("Promise 13", "1 its last sign (NONE for CLEAR and END)");
        entryRow(aaaab(), 1, 0, 1, 2, 3, 4, 5, 6, 7, none, none, 0, 0, 1, GrowingBook.NO_SUCH);

        due.sentence("Promise 13", "2 the entry that it is without its last sign (NONE if it has one sign or none)");
        entryRow(aaaab(), 2, none, none, none, none, none, none, none, none, none, none, 0, 10, 0, GrowingBook.NO_SUCH);

        due.sentence("Promise 13", "Returns a number about an entry of the writer's book at the end.");
        entryRow(cleared(), 0, 1, 1, 1, 1, 1, 1, 1, 1, 0, 0, 2, GrowingBook.NO_SUCH);
        entryRow(cleared(), 1, 0, 1, 2, 3, 4, 5, 6, 7, none, none, 7, GrowingBook.NO_SUCH);
        GrowingBook spoiled = Books.comesAs(aaaab(), 0, 9);
        entryRow(spoiled, 0, 1, 1, 1, 1, 1, 1, 1, 1, 0, 0, 2, 3, 2, GrowingBook.NO_SUCH);
    }

    private void wrongEntries() {
        due.sentence("Promise 13", "NO_SUCH if there is no such entry");
        GrowingBook book = Books.of("ab");
        for (int entry : new int[] {-1, 11, 12, 511, 512, Books.MIN, Books.MAX}) {
            for (int what : new int[] {-1, 0, 2, 3}) {
                due.is("entry(" + entry + ", " + what + ")", book.entry(entry, what), GrowingBook.NO_SUCH);
            }
        }
        due.is("entry(16, 0) of a full book", Books.of(4, 0, 8, "abcdefgh").entry(16, 0), GrowingBook.NO_SUCH);

        due.sentence("Promise 13", "BAD_VALUE if what is out of range.");
        for (int what : new int[] {-1, 3, 4, Books.MIN, Books.MAX}) {
            due.is("entry(0, " + what + ")", book.entry(0, what), GrowingBook.BAD_VALUE);
            due.is("entry(8, " + what + ")", book.entry(8, what), GrowingBook.BAD_VALUE);
            due.is("entry(10, " + what + ")", book.entry(10, what), GrowingBook.BAD_VALUE);
        }
    }
}
