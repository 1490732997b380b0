/** Promises 16 to 19: bitsWith, best, tenderest and cheapest; none of them changes anything. */
public final class WhatIfTest {
    private static final Due DUE = new Due();

    public static void main(String[] arguments) {
        bitsWith();
        best();
        tenderest();
        cheapest();
        nothingChanges();
        DUE.end("WhatIfTest");
    }

    private static void bitsWith() {
        GrowingBook book = Due.withMessage(6, 1, 8, "abcdefgh");
        int[][] want = {{36, 40, 36}, {38, 38, 38}, {38, 38, 38}, {38, 38, 38}, {38, 38, 38}, {38, 38, 38}};
        for (int widest = 4; widest <= 9; widest++) {
            for (int policy = 0; policy <= 2; policy++) {
                String call = "bitsWith(" + widest + ", " + policy + ")";
                DUE.is(call, book.bitsWith(widest, policy), want[widest - 4][policy]);
            }
        }
        for (int bad : new int[] {3, 10, Integer.MIN_VALUE, Integer.MAX_VALUE}) {
            DUE.is("bitsWith(" + bad + ", 0)", book.bitsWith(bad, 0), GrowingBook.BAD_VALUE);
        }
        for (int bad : new int[] {-1, 3, Integer.MIN_VALUE, Integer.MAX_VALUE}) {
            DUE.is("bitsWith(4, " + bad + ")", book.bitsWith(4, bad), GrowingBook.BAD_VALUE);
        }
        // WINDOW as it is: with 4 the book is cleared, with 5 it is not.
        GrowingBook lossy = Due.withMessage(6, 1, 4, "a".repeat(49) + "bbbbb");
        DUE.is("with WINDOW 4", lossy.bitsWith(4, 2), 4 * 17);
        lossy.set(GrowingBook.WINDOW, 5);
        DUE.is("with WINDOW 5", lossy.bitsWith(4, 2), 4 * 16);
    }

    private static void best() {
        bestIs(new GrowingBook(), 4, 0, 4);
        bestIs(Due.withMessage(6, 1, 8, "abcdefgh"), 4, 0, 36);
        // The book that is cleared finds b as phrases again, the full one has single codes for them.
        GrowingBook cleared = new GrowingBook();
        cleared.add(0, 22);
        cleared.add(1, 200);
        int[] best = bruteBest(cleared);
        bestIs(cleared, best[0], best[1], best[2]);
        GrowingBook wide = new GrowingBook();
        wide.add(0, 240);
        best = bruteBest(wide);
        DUE.is("WIDEST of 240 signs a", best[0], 5);
        bestIs(wide, best[0], best[1], best[2]);
        for (int bad : new int[] {-1, 3, Integer.MIN_VALUE, Integer.MAX_VALUE}) {
            DUE.is("best(" + bad + ")", wide.best(bad), GrowingBook.BAD_VALUE);
        }
    }

    private static void bestIs(GrowingBook book, int widest, int policy, int bits) {
        DUE.is("best(0)", book.best(0), widest);
        DUE.is("best(1)", book.best(1), policy);
        DUE.is("best(2)", book.best(2), bits);
    }

    private static int[] bruteBest(GrowingBook book) {
        int[] best = {0, 0, Integer.MAX_VALUE};
        for (int widest = 9; widest >= 4; widest--) {
            for (int policy = 2; policy >= 0; policy--) {
                if (book.bitsWith(widest, policy) <= best[2]) {
                    best = new int[] {widest, policy, book.bitsWith(widest, policy)};
                }
            }
        }
        return best;
    }

    // The first code is a single sign or the END of an empty message: with its lowest bit turned nothing is alike.
    private static void tenderest() {
        for (String signs : new String[] {"", "a", "ab", "aaaaaaa", "hgfedcba", "abababab"}) {
            GrowingBook book = Due.withMessage(6, 1, 8, signs);
            DUE.is("tenderest(0) of " + signs, book.tenderest(0), 0);
            DUE.is("tenderest(1) of " + signs, book.tenderest(1), 0);
            // All codes come as they were written, also the ones that are spoiled.
            book.spoil(0, 1);
            DUE.is("tenderest(0), spoiled", book.tenderest(0), 0);
            DUE.is("tenderest(1), spoiled", book.tenderest(1), 0);
        }
        for (int bad : new int[] {-1, 2, Integer.MIN_VALUE, Integer.MAX_VALUE}) {
            DUE.is("tenderest(" + bad + ")", new GrowingBook().tenderest(bad), GrowingBook.BAD_VALUE);
        }
    }

    private static void cheapest() {
        GrowingBook book = Due.withMessage(6, 1, 8, "aba");
        DUE.is("cheapest(0)", book.cheapest(0), 1);
        DUE.is("cheapest(1)", book.cheapest(1), 16);
        GrowingBook none = new GrowingBook();
        DUE.is("cheapest(0) of none", none.cheapest(0), 0);
        DUE.is("cheapest(1) of none", none.cheapest(1), 8);
        for (int bad : new int[] {-1, 2, Integer.MIN_VALUE, Integer.MAX_VALUE}) {
            DUE.is("cheapest(" + bad + ")", none.cheapest(bad), GrowingBook.BAD_VALUE);
        }
        none.add(7, 239);
        DUE.is("cheapest(0) of 239", none.cheapest(0), 7);
        none.add(7, 1);
        DUE.is("cheapest(0) of 240", none.cheapest(0), GrowingBook.NOT_POSSIBLE);
        DUE.is("cheapest(1) of 240", none.cheapest(1), GrowingBook.NOT_POSSIBLE);
        DUE.is("cheapest(2) of 240", none.cheapest(2), GrowingBook.BAD_VALUE);
        // By the settings as they are: a book that is cleared behind the sixth code pays for CLEAR.
        DUE.is("cheapest(1), WIDEST 4", Due.withMessage(4, 1, 8, "abcdef").cheapest(1), 4 * 9);
        DUE.is("cheapest(1), POLICY 0", Due.withMessage(4, 0, 8, "abcdef").cheapest(1), 4 * 8);
    }

    private static void nothingChanges() {
        GrowingBook book = Due.withMessage(5, 2, 4, "abcabcabcabhhhhhhh");
        book.spoil(3, 9);
        String before = all(book);
        book.bitsWith(4, 1);
        book.best(2);
        book.tenderest(1);
        book.cheapest(1);
        DUE.same("what there is", all(book), before);
    }

    private static String all(GrowingBook book) {
        StringBuilder text = new StringBuilder(Due.message(book)).append(' ').append(Due.read(book));
        for (int what = 0; what < 12; what++) {
            text.append(' ').append(book.count(what));
        }
        for (int code = 0; code < book.count(1); code++) {
            for (int what = 0; what < 6; what++) {
                text.append(' ').append(book.ofCode(code, what));
            }
        }
        for (int entry = 0; entry < book.count(4); entry++) {
            for (int what = 0; what < 3; what++) {
                text.append(' ').append(book.entry(entry, what));
            }
        }
        for (int what = 0; what < 6; what++) {
            text.append(' ').append(book.reading(what));
        }
        return text.toString();
    }
}
