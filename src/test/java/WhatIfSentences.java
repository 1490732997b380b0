/** Promises 16 (bitsWith), 17 (best), 18 (tenderest) and 19 (cheapest). */
final class WhatIfSentences {
    /** By WIDEST 4 the best one is cleared behind the loss, if the window is of four codes. */
    private static final String LOSS = "ab".repeat(16) + "cd".repeat(5);

    private final Due due;

    private WhatIfSentences(Due due) {
        this.due = due;
    }

    static void ask(Due due) {
        WhatIfSentences ask = new WhatIfSentences(due);
        ask.nothingChanges();
        ask.bitsWith();
        ask.wrongBitsWith();
        ask.best();
        ask.wrongBest();
        ask.tenderest();
        ask.wrongTenderest();
        ask.cheapest();
        ask.wrongCheapest();
    }

    private static GrowingBook used() {
        GrowingBook book = Books.of(4, 2, 4, "aab");
        book.save(1);
        Books.add(book, "abcabcdddd");
        book.spoil(3, 9);
        return Books.type(book, "2(gh");
    }

    private void nothingChanges() {
        due.sentence("Texts", "Ahead of the calls `bitsWith`, `best`, `tenderest`, `cheapest` the interface says: ---- what if; nothing"
            + " changes.");
        GrowingBook book = used();
        book.bitsWith(9, 0);
        book.best(2);
        book.tenderest(1);
        book.cheapest(0);
        due.same("what there is", Books.whole(book), Books.whole(used()));
        book = used();
        book.cheapest(1);
        String codes = Books.codes(book);
        due.same("the codes after all of them", codes, Books.codes(used()));
        due.same("what was read", Books.read(book), Books.read(used()));
    }

    private void bitsWith() {
        due.sentence("Promise 16", "Tells how many bits the codes of the message would take with other settings");
        GrowingBook book = Books.of("abcdefgh");
        int[][] want = {{36, 40, 36}, {38, 38, 38}, {38, 38, 38}, {38, 38, 38}, {38, 38, 38}, {38, 38, 38}};
        for (int widest = 4; widest <= 9; widest++) {
            for (int policy = 0; policy <= 2; policy++) {
                due.is("bitsWith(" + widest + ", " + policy + ")", book.bitsWith(widest, policy), want[widest - 4][policy]);
            }
        }
        GrowingBook many = Books.loaded(6, 1, 8, Books.DIFFERENT.repeat(3));
        due.is("bitsWith(4, 1) of 195 signs", many.bitsWith(4, 1), 904);
        due.is("bitsWith(7, 1)", many.bitsWith(7, 1), 861);
        due.is("bitsWith(8, 0)", many.bitsWith(8, 0), 844);

        due.sentence("Promise 16", "(WINDOW as it is)");
        due.is("bitsWith(4, 2), WINDOW 4", Books.of(6, 1, 4, LOSS).bitsWith(4, 2), 80);
        due.is("bitsWith(4, 2), WINDOW 8", Books.of(6, 1, 8, LOSS).bitsWith(4, 2), 88);
        due.is("bitsWith(4, 2), WINDOW 5", Books.of(6, 1, 5, "a".repeat(49) + "bbbbb").bitsWith(4, 2), 4 * 16);
        due.is("bitsWith(4, 2), WINDOW 4", Books.of(6, 1, 4, "a".repeat(49) + "bbbbb").bitsWith(4, 2), 4 * 17);

        due.sentence("Promise 16", "Returns the bits");
        due.is("of none", new GrowingBook().bitsWith(9, 2), 4);
        book = Books.of(4, 1, 8, "abcdefgh");
        due.is("with the settings as they are", book.bitsWith(4, 1), book.count(2));
        book.spoil(0, 511);
        due.is("though a code is spoiled", book.bitsWith(4, 1), 40);
    }

    private void wrongBitsWith() {
        due.sentence("Promise 16", "BAD_VALUE if widest or policy is out of range.");
        GrowingBook book = Books.of("ab");
        for (int widest : new int[] {-1, 0, 3, 10, Books.MIN, Books.MAX}) {
            due.is("bitsWith(" + widest + ", 0)", book.bitsWith(widest, 0), GrowingBook.BAD_VALUE);
        }
        for (int policy : new int[] {-1, 3, 4, Books.MIN, Books.MAX}) {
            due.is("bitsWith(4, " + policy + ")", book.bitsWith(4, policy), GrowingBook.BAD_VALUE);
        }
        due.is("bitsWith(4, 0)", book.bitsWith(4, 0), 12);
        due.is("bitsWith(9, 2)", book.bitsWith(9, 2), 12);
    }

    private void bestIs(String what, GrowingBook book, int widest, int policy, int bits) {
        due.is("best(0) of " + what, book.best(0), widest);
        due.is("best(1) of " + what, book.best(1), policy);
        due.is("best(2) of " + what, book.best(2), bits);
    }

    private void best() {
        due.sentence("Promise 17", "Finds the settings with which the codes take the fewest bits");
        bestIs("abcdefgh", Books.of("abcdefgh"), 4, 0, 36);
        bestIs("a run of 240", Books.of("a".repeat(240)), 5, 0, 108);
        bestIs("a book that is cleared", Books.of("a" + "b".repeat(7) + "c".repeat(16)), 4, 1, 52);
        bestIs("three runs", Books.of("a".repeat(11) + "b".repeat(56) + "c".repeat(36)), 6, 0, 120);
        bestIs("a spoiled code", Books.comesAs(Books.of(9, 2, 4, "abcdefgh"), 0, 100), 4, 0, 36);

        due.sentence("Promise 17", "(WINDOW as it is)");
        bestIs("a loss, WINDOW 4", Books.of(9, 0, 4, LOSS), 4, 2, 80);
        bestIs("a loss, WINDOW 8", Books.of(9, 0, 8, LOSS), 5, 0, 83);

        due.sentence("Promise 17", "of several the lowest WIDEST, then the lowest POLICY.");
        bestIs("none", new GrowingBook(), 4, 0, 4);
        bestIs("abcdef, all alike", Books.of("abcdef"), 4, 0, 28);
        // 4 and 1 take 48 bits, as do 5 and 0.
        bestIs("the lowest WIDEST ahead of the lowest POLICY", Books.of("ab".repeat(5) + "cd".repeat(3)), 4, 1, 48);
        bestIs("a higher one", Books.of("a".repeat(37) + "b".repeat(56) + "c".repeat(16)), 5, 1, 132);

        due.sentence("Promise 17", "0 WIDEST, 1 POLICY, 2 the bits");
        GrowingBook book = Books.of(6, 1, 4, LOSS);
        due.is("best(0)", book.best(0), 4);
        due.is("best(1)", book.best(1), 2);
        due.is("best(2)", book.best(2), 80);
    }

    private void wrongBest() {
        due.sentence("Promise 17", "BAD_VALUE if what is out of range.");
        for (int what : new int[] {-1, 3, 4, Books.MIN, Books.MAX}) {
            due.is("best(" + what + ")", Books.of("ab").best(what), GrowingBook.BAD_VALUE);
        }
    }

    // The first code is a single sign, or the END of an empty message: with its lowest bit turned no sign is left.
    private void tenderest() {
        due.sentence("Promise 18", "Finds the code which, if its lowest bit was turned (all others coming as they were written), would leave the"
            + " fewest signs that are read ahead of the first place at which what is read and the message differ");
        for (String signs : new String[] {"", "a", "b", "ab", "aaaaaaa", "hgfedcba", "abababab", Books.DIFFERENT}) {
            GrowingBook book = Books.of(signs);
            due.is("tenderest(0) of " + signs, book.tenderest(0), 0);
            due.is("tenderest(1) of " + signs, book.tenderest(1), 0);
        }
        GrowingBook book = Books.of("abab");
        book.spoil(0, 1);
        due.is("tenderest(0), the first code spoiled", book.tenderest(0), 0);
        due.is("tenderest(1), the first code spoiled", book.tenderest(1), 0);
        book.spoil(2, 7);
        due.is("tenderest(0), two codes spoiled", book.tenderest(0), 0);
        due.is("tenderest(1), two codes spoiled", book.tenderest(1), 0);
        due.is("tenderest(0), CLEAR codes", Books.loaded(4, 1, 8, "abcdef".repeat(40)).tenderest(0), 0);

        due.sentence("Promise 18", "of several the first one.");
        due.is("tenderest(0) of aaaa", Books.of("aaaa").tenderest(0), 0);
        due.is("tenderest(0) of 240 signs", Books.of("a".repeat(240)).tenderest(0), 0);

        due.sentence("Promise 18", "0 the place of the code, 1 how many signs");
        due.is("tenderest(0) of hg", Books.of("hg").tenderest(0), 0);
        due.is("tenderest(1) of hg", Books.of("hg").tenderest(1), 0);
    }

    private void wrongTenderest() {
        due.sentence("Promise 18", "BAD_VALUE if what is neither 0 nor 1.");
        for (int what : new int[] {-1, 2, 3, Books.MIN, Books.MAX}) {
            due.is("tenderest(" + what + ")", new GrowingBook().tenderest(what), GrowingBook.BAD_VALUE);
            due.is("tenderest(" + what + ") of ab", Books.of("ab").tenderest(what), GrowingBook.BAD_VALUE);
        }
    }

    private void cheapestIs(String what, GrowingBook book, int sign, int bits) {
        due.is("cheapest(0) of " + what, book.cheapest(0), sign);
        due.is("cheapest(1) of " + what, book.cheapest(1), bits);
    }

    private void cheapest() {
        due.sentence("Promise 19", "Finds the sign which, put at the end of the message, would make the bits of the codes fewest");
        cheapestIs("aba", Books.of("aba"), 1, 16);
        cheapestIs("hh", Books.of("hh"), 7, 12);
        cheapestIs("gfgfg", Books.of("gfgfg"), 5, 20);
        cheapestIs("239 signs h", Books.of("h".repeat(239)), 7, 108);
        // By the settings as they are: CLEAR takes bits, too, and a loss clears the book.
        cheapestIs("abcdef, WIDEST 4, POLICY 1", Books.of(4, 1, 8, "abcdef"), 0, 4 * 9);
        cheapestIs("abcdef, WIDEST 4, POLICY 0", Books.of(4, 0, 8, "abcdef"), 0, 4 * 8);
        cheapestIs("a loss, POLICY 2, WINDOW 4", Books.of(4, 2, 4, "abcdefababababhhhb"), 2, 4 * 15);
        cheapestIs("a spoiled code", Books.comesAs(Books.of("aba"), 0, 100), 1, 16);

        due.sentence("Promise 19", "of several the lowest one.");
        cheapestIs("none", new GrowingBook(), 0, 8);
        cheapestIs("abc", Books.of("abc"), 0, 20);
        cheapestIs("bababab", Books.of("bababab"), 0, 24);

        due.sentence("Promise 19", "0 the sign, 1 the bits then");
        due.is("cheapest(0) of abcabcab", Books.of("abcabcab").cheapest(0), 2);
        due.is("cheapest(1) of abcabcab", Books.of("abcabcab").cheapest(1), 28);
    }

    private void wrongCheapest() {
        due.sentence("Promise 19", "BAD_VALUE if what is neither 0 nor 1");
        for (int what : new int[] {-1, 2, 3, Books.MIN, Books.MAX}) {
            due.is("cheapest(" + what + ")", new GrowingBook().cheapest(what), GrowingBook.BAD_VALUE);
            due.is("cheapest(" + what + ") of 240", Books.of("a".repeat(240)).cheapest(what), GrowingBook.BAD_VALUE);
        }

        due.sentence("Promise 19", "NOT_POSSIBLE if the message has 240 signs.");
        GrowingBook book = Books.of("a".repeat(240));
        due.is("cheapest(0) of 240", book.cheapest(0), GrowingBook.NOT_POSSIBLE);
        due.is("cheapest(1) of 240", book.cheapest(1), GrowingBook.NOT_POSSIBLE);
        book.cut(1);
        due.is("cheapest(0) of 239", book.cheapest(0), 0);
    }
}
