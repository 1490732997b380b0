/** Promises 11 to 13: ofCode, count and entry, and the rules of writing that they show. */
public final class WritingTest {
    private static final Due DUE = new Due();

    public static void main(String[] arguments) {
        phrases();
        widths();
        fullBooks();
        measuredLoss();
        wrongCalls();
        mostCodes();
        DUE.end("WritingTest");
    }

    private static void row(GrowingBook book, int code, int... want) {
        for (int what = 0; what < want.length; what++) {
            DUE.is("ofCode(" + code + ", " + what + ")", book.ofCode(code, what), want[what]);
        }
    }

    private static void entryRow(GrowingBook book, int entry, int... want) {
        for (int what = 0; what < want.length; what++) {
            DUE.is("entry(" + entry + ", " + what + ")", book.entry(entry, what), want[what]);
        }
    }

    private static void phrases() {
        GrowingBook book = Due.withMessage(6, 1, 8, "aaaab");
        DUE.same("codes", Due.codes(book), "0 10 0 1 9");
        row(book, 0, 0, 0, 4, 0, 1, 10);
        row(book, 1, 10, 10, 4, 1, 2, 11);
        row(book, 2, 0, 0, 4, 3, 1, 12);
        row(book, 3, 1, 1, 4, 4, 1, 13);
        row(book, 4, 9, 9, 4, GrowingBook.NONE, 0, 13);
        entryRow(book, 0, 1, 0, GrowingBook.NONE);
        entryRow(book, 7, 1, 7, GrowingBook.NONE);
        entryRow(book, 8, 0, GrowingBook.NONE, GrowingBook.NONE);
        entryRow(book, 9, 0, GrowingBook.NONE, GrowingBook.NONE);
        entryRow(book, 10, 2, 0, 0);
        entryRow(book, 11, 3, 0, 10);
        entryRow(book, 12, 2, 1, 0);
        DUE.is("entry(13, 0)", book.entry(13, 0), GrowingBook.NO_SUCH);
        int[] counts = {5, 5, 20, 0, 13, 3, 0, 0, 6, 6, 1, 8};
        for (int what = 0; what < counts.length; what++) {
            DUE.is("count(" + what + ")", book.count(what), counts[what]);
        }
        DUE.is("the longest phrase of a", Due.withMessage(6, 1, 8, "a").count(5), 0);
        DUE.is("the longest phrase of ab", Due.withMessage(6, 1, 8, "ab").count(5), 2);
    }

    private static void widths() {
        GrowingBook book = Due.withMessage(6, 1, 8, "abcdefgh");
        DUE.same("codes", Due.codes(book), "0 1 2 3 4 5 6 7 9");
        for (int code = 0; code <= 8; code++) {
            DUE.is("width of " + code, book.ofCode(code, 2), code < 7 ? 4 : 5);
            DUE.is("book of " + code, book.ofCode(code, 5), 10 + Math.min(code, 7));
        }
        DUE.is("bits", book.count(2), 38);
        // A message of many different phrases, so that the widths rise to seven bits.
        GrowingBook big = new GrowingBook();
        big.set(GrowingBook.WIDEST, 9);
        big.set(GrowingBook.POLICY, 0);
        for (int sign = 0; sign < 8; sign++) {
            for (int other = sign; other < 8; other++) {
                big.add(sign, 2);
                big.add(other, 2);
            }
        }
        for (int code = 0; code < big.count(1); code++) {
            int last = big.ofCode(code, 5) - 1;
            DUE.is("width of " + code, big.ofCode(code, 2), Math.max(4, Integer.toBinaryString(last).length()));
        }
    }

    private static void fullBooks() {
        GrowingBook kept = Due.withMessage(4, 0, 8, "abcdefgh");
        DUE.same("codes", Due.codes(kept), "0 1 2 3 4 5 6 7 9");
        DUE.is("entries", kept.count(4), 16);
        DUE.is("bits", kept.count(2), 36);
        GrowingBook cleared = Due.withMessage(4, 1, 8, "abcdefgh");
        DUE.same("codes", Due.codes(cleared), "0 1 2 3 4 5 8 6 7 9");
        row(cleared, 6, 8, 8, 4, GrowingBook.NONE, 0, 16);
        row(cleared, 7, 6, 6, 4, 6, 1, 10);
        row(cleared, 9, 9, 9, 4, GrowingBook.NONE, 0, 11);
        DUE.is("CLEAR codes", cleared.count(3), 1);
        DUE.is("entries", cleared.count(4), 11);
        DUE.is("bits", cleared.count(2), 40);
        entryRow(cleared, 10, 2, 7, 6);
        DUE.is("entry(11, 0)", cleared.entry(11, 0), GrowingBook.NO_SUCH);
        DUE.same("full with one sign left", Due.codes(Due.withMessage(4, 1, 8, "abcdefg")), "0 1 2 3 4 5 8 6 9");
        DUE.same("not full", Due.codes(Due.withMessage(4, 1, 8, "abcdef")), "0 1 2 3 4 5 9");
        // After CLEAR the phrases of before are gone: ab is two codes again.
        DUE.same("anew", Due.codes(Due.withMessage(4, 1, 8, "abcdefabab")), "0 1 2 3 4 5 8 0 1 10 9");
        // 2 to the power of 5 entries: 22 phrases of a only, 1 + 2 + .. + 22 signs and one more.
        GrowingBook wide = new GrowingBook();
        wide.set(GrowingBook.WIDEST, 5);
        wide.add(0, 240);
        DUE.is("CLEAR codes", wide.count(3), 0);
        DUE.is("the longest phrase", wide.count(5), 22);
        // The longest phrase stays counted though the book was cleared: a to 6a fill it, 7a is the last one.
        GrowingBook longest = new GrowingBook();
        longest.set(GrowingBook.WIDEST, 4);
        longest.add(0, 22);
        DUE.is("CLEAR codes", longest.count(3), 1);
        DUE.is("the longest phrase", longest.count(5), 7);
        DUE.is("entries", longest.count(4), 10);
    }

    // With WIDEST 4, 21 signs a fill the book: 15 is a phrase of seven. From there on each 7a is a code.
    private static GrowingBook lossy(int window, int sevens, int singles) {
        GrowingBook book = new GrowingBook();
        book.set(GrowingBook.WIDEST, 4);
        book.set(GrowingBook.POLICY, 2);
        book.set(GrowingBook.WINDOW, window);
        book.add(0, 21 + 7 * sevens);
        book.add(1, singles);
        return book;
    }

    private static void measuredLoss() {
        DUE.is("four and four, no sign left", lossy(4, 4, 4).count(3), 0);
        GrowingBook book = lossy(4, 4, 5);
        DUE.same("four and four", Due.codes(book), "0 10 11 12 13 14 15 15 15 15 1 1 1 1 8 1 9");
        DUE.is("CLEAR codes", book.count(3), 1);
        DUE.is("entries", book.count(4), 10);
        DUE.is("five and three", lossy(4, 5, 4).count(3), 1);
        DUE.same("five and three", Due.codes(lossy(4, 5, 4)), "0 10 11 12 13 14 15 15 15 15 15 1 1 1 8 1 9");
        // The code behind which the book became full (14) is none of the codes since: seven codes are not enough.
        DUE.same("three and four", Due.codes(lossy(4, 3, 5)), "0 10 11 12 13 14 15 15 15 1 1 1 1 1 9");
        DUE.same("three and five", Due.codes(lossy(4, 3, 6)), "0 10 11 12 13 14 15 15 15 1 1 1 1 1 8 1 9");
        DUE.is("a wider window", lossy(5, 4, 5).count(3), 0);
        DUE.is("a wider window, more signs", lossy(5, 4, 7).count(3), 1);
        DUE.is("as many signs are no loss", lossy(4, 20, 0).count(3), 0);
        DUE.is("policy 0", Due.withMessage(4, 0, 4, "a".repeat(49) + "b".repeat(20)).count(3), 0);
        // Once more since the second time that it became full: the codes of before CLEAR are none of them.
        GrowingBook twice = lossy(4, 4, 5);
        DUE.is("CLEAR codes", twice.count(3), 1);
        // Behind the CLEAR: b 2b 3b 4b 5b 6b fill it anew (21 signs), 7b 4 times, then single signs a.
        twice.add(1, 20 + 28);
        twice.add(0, 5);
        DUE.is("CLEAR codes", twice.count(3), 2);
        DUE.is("reading", twice.reading(5), GrowingBook.NONE);
    }

    private static void wrongCalls() {
        GrowingBook book = Due.withMessage(6, 1, 8, "ab");
        for (int bad : new int[] {-1, 6, Integer.MIN_VALUE, Integer.MAX_VALUE}) {
            DUE.is("ofCode(0, " + bad + ")", book.ofCode(0, bad), GrowingBook.BAD_VALUE);
            DUE.is("ofCode(3, " + bad + ")", book.ofCode(3, bad), GrowingBook.NO_SUCH);
        }
        for (int bad : new int[] {-1, 3, Integer.MIN_VALUE, Integer.MAX_VALUE}) {
            DUE.is("ofCode(" + bad + ", 0)", book.ofCode(bad, 0), GrowingBook.NO_SUCH);
            DUE.is("entry(0, " + bad + ")", book.entry(0, bad), GrowingBook.BAD_VALUE);
            DUE.is("entry(11, " + bad + ")", book.entry(11, bad), GrowingBook.NO_SUCH);
        }
        for (int bad : new int[] {-1, 11, 511, 512, Integer.MIN_VALUE, Integer.MAX_VALUE}) {
            DUE.is("entry(" + bad + ", 0)", book.entry(bad, 0), GrowingBook.NO_SUCH);
        }
        for (int bad : new int[] {-1, 12, Integer.MIN_VALUE, Integer.MAX_VALUE}) {
            DUE.is("count(" + bad + ")", book.count(bad), GrowingBook.BAD_VALUE);
        }
    }

    // 240 signs that are a code each, and a CLEAR behind each six of them but the last.
    private static void mostCodes() {
        GrowingBook book = new GrowingBook();
        book.set(GrowingBook.WIDEST, 4);
        Due.type(book, "40(abcdef)");
        DUE.is("load()", book.load(), 240);
        DUE.is("codes", book.count(1), 240 + 39 + 1);
        DUE.is("CLEAR codes", book.count(3), 39);
        DUE.is("the last code", book.ofCode(279, 0), GrowingBook.END);
        DUE.is("no code", book.ofCode(280, 0), GrowingBook.NO_SUCH);
        DUE.is("reading(0)", book.reading(0), 240);
        DUE.is("reading(5)", book.reading(5), GrowingBook.NONE);
    }
}
