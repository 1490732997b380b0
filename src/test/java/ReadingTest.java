/** Promises 14 and 15: reading and read, and the rules of reading that they show. */
public final class ReadingTest {
    private static final Due DUE = new Due();

    public static void main(String[] arguments) {
        whole();
        faults();
        books();
        fullBooks();
        longPhrases();
        wrongCalls();
        DUE.end("ReadingTest");
    }

    /** The signs, then what reading answers from 1 to 5. */
    private static void reads(String what, GrowingBook book, String signs, int... want) {
        DUE.same(what, Due.read(book), signs);
        DUE.is(what + ": reading(0)", book.reading(0), signs.length());
        for (int i = 0; i < want.length; i++) {
            DUE.is(what + ": reading(" + (i + 1) + ")", book.reading(i + 1), want[i]);
        }
        DUE.is(what + ": read behind the end", book.read(signs.length()), GrowingBook.NO_SUCH);
    }

    private static GrowingBook spoiled(int widest, int policy, String signs, int... codesAndNumbers) {
        GrowingBook book = Due.withMessage(widest, policy, 8, signs);
        for (int i = 0; i < codesAndNumbers.length; i += 2) {
            int bits = book.ofCode(codesAndNumbers[i], 1) ^ codesAndNumbers[i + 1];
            DUE.is("spoil", book.spoil(codesAndNumbers[i], bits), codesAndNumbers[i + 1]);
        }
        return book;
    }

    private static void whole() {
        int none = GrowingBook.NONE;
        reads("none", spoiled(6, 1, ""), "", none, 0, 10, 0, none);
        reads("ab", spoiled(6, 1, "ab"), "ab", none, 0, 11, 0, none);
        reads("a phrase that is not finished", spoiled(6, 1, "aaaab"), "aaaab", none, 0, 13, 1, none);
        reads("more of them", spoiled(6, 1, "aaaaaaaaaa"), "aaaaaaaaaa", none, 0, 13, 3, none);
        reads("a book that is one phrase behind", spoiled(4, 1, "abcdefgh"), "abcdefgh", none, 0, 11, 0, none);
        reads("a full book", spoiled(4, 0, "abcdefghab"), "abcdefghab", none, 0, 16, 0, none);
    }

    private static void faults() {
        reads("nothing ahead", spoiled(6, 1, "ab", 0, 10), "", 0, 1, 10, 0, 0);
        reads("above the next one", spoiled(6, 1, "ab", 1, 11), "a", 1, 1, 10, 0, 1);
        reads("far above", spoiled(6, 1, "ab", 1, 511), "a", 1, 1, 10, 0, 1);
        reads("END too early", spoiled(6, 1, "ab", 1, 9), "a", 2, 3, 10, 0, 1);
        reads("END at once", spoiled(6, 1, "ab", 0, 9), "", 1, 3, 10, 0, 0);
        reads("no END", spoiled(6, 1, "ab", 2, 8), "ab", 3, 2, 10, 0, GrowingBook.NONE);
        reads("no END but a sign", spoiled(6, 1, "ab", 2, 2), "abc", 3, 2, 12, 0, 2);
        reads("a fault ahead of END too early", spoiled(6, 1, "abc", 0, 300, 1, 9), "", 0, 1, 10, 0, 0);
        reads("END too early ahead of a fault", spoiled(6, 1, "abc", 1, 9, 2, 300), "a", 2, 3, 10, 0, 1);
        reads("no code is read behind it", spoiled(6, 1, "abcd", 2, 300), "ab", 2, 1, 11, 0, 2);
    }

    private static void books() {
        int none = GrowingBook.NONE;
        reads("the next one", spoiled(6, 1, "ab", 1, 10), "aaa", none, 0, 11, 1, 1);
        reads("CLEAR", spoiled(6, 1, "ab", 1, 8), "a", none, 0, 10, 0, 1);
        reads("CLEAR at first", spoiled(6, 1, "ab", 0, 8), "b", none, 0, 10, 0, 0);
        reads("nothing ahead since CLEAR", spoiled(6, 1, "abc", 1, 8, 2, 10), "a", 2, 1, 10, 0, 1);
        reads("anew since CLEAR", spoiled(6, 1, "abcd", 1, 8, 3, 10), "accc", none, 0, 11, 1, 1);
        reads("a phrase of the book", spoiled(6, 1, "abc", 2, 10), "abab", none, 0, 12, 0, 2);
        reads("the phrase is of what was read", spoiled(6, 1, "abab", 0, 2), "cbcb", none, 0, 12, 0, 0);
        reads("longer than the message", spoiled(6, 1, "aab", 2, 11), "aaaa", none, 0, 12, 1, 2);
        reads("it is the message's beginning", spoiled(6, 1, "aaa", 1, 0), "aa", none, 0, 11, 0, 2);
        reads("the message is its beginning", spoiled(6, 1, "aa", 1, 10), "aaa", none, 0, 11, 1, 2);
    }

    private static void fullBooks() {
        int none = GrowingBook.NONE;
        reads("the last phrase that fits", spoiled(4, 0, "abcdefgh", 6, 15), "abcdefffh", none, 0, 16, 1, 6);
        reads("the next one of a full book", spoiled(4, 0, "abcdefgh", 7, 16), "abcdefg", 7, 1, 16, 0, 7);
        reads("the last phrase of a full book", spoiled(4, 0, "abcdefgh", 7, 15), "abcdefgfg", none, 0, 16, 0, 7);
        reads("CLEAR is not read", spoiled(4, 1, "abcdefgh", 6, 15), "abcdefffgh", none, 0, 16, 1, 6);
        reads("a book that is not full", spoiled(5, 0, "abcdefgh", 7, 16), "abcdefggg", none, 0, 17, 1, 7);
    }

    // Each code is spoiled to the phrase that is not finished yet: 1 + 2 + .. signs are read.
    private static void longPhrases() {
        GrowingBook book = new GrowingBook();
        book.set(GrowingBook.WIDEST, 9);
        book.set(GrowingBook.POLICY, 0);
        for (int gap = 1; gap <= 4; gap++) {
            for (int sign = 0; sign < 8; sign++) {
                book.add(sign, 1);
                book.add((sign + gap) % 8, 1);
            }
        }
        int codes = book.count(1);
        for (int code = 1; code < codes - 1; code++) {
            int bits = book.ofCode(code, 0) ^ (9 + code);
            DUE.is("spoil(" + code + ", " + bits + ")", bits == 0 ? 9 + code : book.spoil(code, bits), 9 + code);
        }
        DUE.is("reading(0)", book.reading(0), (codes - 1) * codes / 2);
        DUE.is("reading(1)", book.reading(1), GrowingBook.NONE);
        DUE.is("reading(4)", book.reading(4), codes - 2);
        DUE.is("read at the end", book.read(book.reading(0) - 1), 0);
        DUE.is("read behind the end", book.read(book.reading(0)), GrowingBook.NO_SUCH);
    }

    private static void wrongCalls() {
        GrowingBook book = Due.withMessage(6, 1, 8, "abc");
        for (int bad : new int[] {-1, 6, Integer.MIN_VALUE, Integer.MAX_VALUE}) {
            DUE.is("reading(" + bad + ")", book.reading(bad), GrowingBook.BAD_VALUE);
        }
        for (int bad : new int[] {-1, 3, 40000, Integer.MIN_VALUE, Integer.MAX_VALUE}) {
            DUE.is("read(" + bad + ")", book.read(bad), GrowingBook.NO_SUCH);
        }
    }
}
