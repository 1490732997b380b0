/** The rules of reading, promises 14 (reading) and 15 (read). */
final class ReadingSentences {
    private static final int NONE = GrowingBook.NONE;

    private final Due due;

    private ReadingSentences(Due due) {
        this.due = due;
    }

    static void ask(Due due) {
        ReadingSentences ask = new ReadingSentences(due);
        ask.oneAfterTheOther();
        ask.entries();
        ask.phraseAdded();
        ask.nextPhrase();
        ask.nextPhraseOnlyIf();
        ask.clearAndEnd();
        ask.faults();
        ask.staysAheadOfFault();
        ask.widthIsNoMatter();
        ask.whatWasRead();
        ask.fault();
        ask.book();
        ask.difference();
        ask.wrongReadings();
        ask.read();
    }

    /** A message whose codes come as other numbers: pairs of a code and its number. */
    private static GrowingBook spoiled(int widest, int policy, String signs, int... codesAndNumbers) {
        GrowingBook book = Books.of(widest, policy, 8, signs);
        for (int i = 0; i < codesAndNumbers.length; i += 2) {
            Books.comesAs(book, codesAndNumbers[i], codesAndNumbers[i + 1]);
        }
        return book;
    }

    private static GrowingBook spoiled(String signs, int... codesAndNumbers) {
        return spoiled(6, 1, signs, codesAndNumbers);
    }

    /** What was read without a fault, and the entries of the reader's book then. */
    private void reads(String what, GrowingBook book, String signs, int entries) {
        faultAt(what, book, signs, NONE, 0, entries);
    }

    private void faultAt(String what, GrowingBook book, String signs, int place, int reason, int entries) {
        due.same(what, Books.read(book), signs);
        due.is(what + ": reading(1)", book.reading(1), place);
        due.is(what + ": reading(2)", book.reading(2), reason);
        due.is(what + ": reading(3)", book.reading(3), entries);
    }

    private void oneAfterTheOther() {
        due.sentence("Reading", "The codes are read one after the other, by a book that has the entries 0 to 9 at first.");
        reads("none", spoiled(""), "", 10);
        reads("a", spoiled("a"), "a", 10);
        reads("hgfedcba", spoiled("hgfedcba"), "hgfedcba", 17);
        reads("aaaab", spoiled("aaaab"), "aaaab", 13);
        faultAt("no phrase at first", spoiled("ab", 0, 10), "", 0, 1, 10);
        // The writer's book is full behind f, and is cleared; the reader's one is one phrase behind.
        reads("cleared", spoiled(4, 1, "abcdefgh"), "abcdefgh", 11);
        reads("cleared ahead of the last sign", spoiled(4, 1, "abcdefg"), "abcdefg", 10);
        reads("kept", spoiled(4, 0, "abcdefghab"), "abcdefghab", 16);
        for (int policy = 0; policy <= 2; policy++) {
            for (int widest = 4; widest <= 7; widest++) {
                GrowingBook book = Books.loaded(widest, policy, 4, Books.DIFFERENT + "a".repeat(60) + Books.DIFFERENT + "hhhh");
                due.is("194 signs, WIDEST " + widest + ", POLICY " + policy, book.reading(0), 194);
                due.is("its fault", book.reading(1), NONE);
                due.is("what was read and the message", book.reading(5), NONE);
            }
        }
    }

    private void entries() {
        due.sentence("Reading", "A code that is 0 to 7, or a phrase of the book, stands for this entry.");
        for (int sign = 0; sign < 8; sign++) {
            reads("the sign " + sign, spoiled("b", 0, sign), "" + (char) ('a' + sign), 10);
        }
        reads("the first phrase", spoiled("abc", 2, 10), "abab", 12);
        reads("the last phrase", spoiled("abcd", 3, 11), "abcbc", 13);
        reads("the last phrase of a full book", spoiled(4, 0, "abcdefgh", 7, 15), "abcdefgfg", 16);
        reads("a phrase of what was read, not of the message", spoiled("abab", 0, 2), "cbcb", 12);
    }

    private void phraseAdded() {
        due.sentence("Reading", "If there was a code for an entry ahead of it (since the last CLEAR), and the book is not full, a phrase is"
            + " added then: the entry of that one with the first sign of this one.");
        reads("the first code adds none", spoiled("a"), "a", 10);
        reads("the second one adds one", spoiled("ab"), "ab", 11);
        reads("ba is the second phrase", spoiled("abcd", 2, 10, 3, 11), "ababba", 13);
        reads("aba is the third phrase", spoiled("abcde", 2, 10, 3, 0, 4, 12), "abab" + "a" + "aba", 14);
        reads("the first code since CLEAR adds none", spoiled("abc", 1, 8), "ac", 10);
        reads("the second one since CLEAR adds one", spoiled("abcd", 1, 8), "acd", 11);
        reads("the fifth phrase", spoiled(4, 0, "abcdef"), "abcdef", 15);
        reads("the sixth phrase makes it full", spoiled(4, 0, "abcdefg"), "abcdefg", 16);
        reads("a full book has no more", spoiled(4, 0, "abcdefgh"), "abcdefgh", 16);
        reads("WIDEST 5", spoiled(5, 0, "abcdefgh"), "abcdefgh", 17);
    }

    private void nextPhrase() {
        due.sentence("Reading", "A code that is the number of the phrase that would be added next stands for the entry ahead of it with the"
            + " first sign of that entry (and this is the phrase that is added)");
        reads("aa", spoiled("ab", 1, 10), "aaa", 11);
        reads("aa and aaa", spoiled("abc", 1, 10, 2, 11), "aaaaaa", 12);
        reads("aa, and the same once more", spoiled("abc", 1, 10, 2, 10), "aaaaa", 12);
        reads("aba", spoiled("abcd", 2, 10, 3, 12), "abab" + "aba", 13);
        reads("since CLEAR", spoiled("abcd", 1, 8, 3, 10), "accc", 11);
        reads("of a message as it was written", spoiled("cdcdcdc"), "cdcdcdc", 13);
        reads("the last phrase that fits, as it was written", spoiled(4, 0, "a".repeat(28)), "a".repeat(28), 16);
        reads("the last phrase that fits", spoiled(4, 0, "abcdefgh", 6, 15), "abcdefffh", 16);
    }

    private void nextPhraseOnlyIf() {
        due.sentence("Reading", "it can be so only if there was an entry ahead of it");
        faultAt("the first code", spoiled("ab", 0, 10), "", 0, 1, 10);
        faultAt("behind CLEAR at first", spoiled("ab", 0, 8, 1, 10), "", 1, 1, 10);
        faultAt("behind CLEAR", spoiled("abc", 1, 8, 2, 10), "a", 2, 1, 10);

        due.sentence("Reading", "and the book is not full.");
        faultAt("WIDEST 4, full", spoiled(4, 0, "abcdefgh", 7, 16), "abcdefg", 7, 1, 16);
        reads("WIDEST 5, not full", spoiled(5, 0, "abcdefgh", 7, 16), "abcdefggg", 17);
        for (int widest = 4; widest <= 6; widest++) {
            int full = 1 << widest;
            String signs = Books.DIFFERENT.substring(0, full - 8);
            GrowingBook book = Books.loaded(widest, 0, 8, signs);
            Books.comesAs(book, full - 9, full);
            due.is("WIDEST " + widest + ": the fault", book.reading(1), full - 9);
            GrowingBook last = Books.loaded(widest, 0, 8, signs);
            Books.comesAs(last, full - 10, full - 1);
            due.is("WIDEST " + widest + ": no fault of the last phrase", last.reading(1), NONE);
            due.is("WIDEST " + widest + ": entries", last.reading(3), full);
        }
    }

    private void clearAndEnd() {
        due.sentence("Reading", "CLEAR makes the book as it was at first.");
        faultAt("the phrases are gone", spoiled("abcde", 2, 8, 4, 11), "abd", 4, 1, 10);
        reads("and are added anew", spoiled("abcdef", 2, 8, 5, 10), "abde" + "de", 12);
        reads("at first", spoiled("ab", 0, 8), "b", 10);
        reads("twice", spoiled("abc", 0, 8, 1, 8), "c", 10);
        reads("at the end", spoiled("ab", 1, 8), "a", 10);
        reads("a full book grows again", spoiled(4, 0, "abcdefghgh", 7, 8), "abcdefg" + "gh", 11);

        due.sentence("Reading", "END ends it.");
        reads("none", spoiled(""), "", 10);
        faultAt("at once", spoiled("ab", 0, 9), "", 1, 3, 10);
        faultAt("behind a", spoiled("abc", 1, 9), "a", 2, 3, 10);
    }

    private void faults() {
        due.sentence("Reading", "A code that can stand for nothing is a fault (reason 1)");
        faultAt("a phrase that is none yet", spoiled("abc", 2, 12), "ab", 2, 1, 11);
        faultAt("far above", spoiled("ab", 1, 511), "a", 1, 1, 10);
        faultAt("the last code", spoiled("ab", 2, 12), "ab", 2, 1, 11);
        faultAt("at once", spoiled("ab", 0, 11), "", 0, 1, 10);
        faultAt("the first of two", spoiled("abc", 1, 300, 2, 400), "a", 1, 1, 10);
        faultAt("no code is read behind it", spoiled("abcd", 1, 100, 3, 9), "a", 1, 1, 10);

        due.sentence("Reading", "if the codes come to an end without END, this is a fault at the place behind the last one (reason 2)");
        faultAt("of none", spoiled("", 0, 8), "", 1, 2, 10);
        faultAt("a sign for END", spoiled("ab", 2, 2), "abc", 3, 2, 12);
        faultAt("CLEAR for END", spoiled("ab", 2, 8), "ab", 3, 2, 10);
        faultAt("of most codes", Books.comesAs(Books.loaded(4, 1, 8, "abcdef".repeat(20)), 139, 0), "abcdef".repeat(20) + "a", 140, 2, 16);

        due.sentence("Reading", "a code behind END is a fault (reason 3).");
        faultAt("END ahead of a sign", spoiled("abc", 1, 9), "a", 2, 3, 10);
        faultAt("END ahead of END", spoiled("abc", 2, 9), "ab", 3, 3, 11);
        faultAt("END ahead of CLEAR", spoiled("abc", 1, 9, 2, 8), "a", 2, 3, 10);
        faultAt("END ahead of what can stand for nothing", spoiled("abc", 1, 9, 2, 300), "a", 2, 3, 10);
        faultAt("END ahead of all", spoiled("abc", 0, 9), "", 1, 3, 10);
        faultAt("behind what can stand for nothing", spoiled("abc", 0, 300, 1, 9), "", 0, 1, 10);
    }

    private void staysAheadOfFault() {
        due.sentence("Reading", "What was read ahead of the fault stays.");
        faultAt("reason 1", spoiled("abcd", 3, 300), "abc", 3, 1, 12);
        faultAt("reason 2", spoiled("aaa", 2, 0), "aaaa", 3, 2, 12);
        faultAt("reason 3", spoiled("abcd", 2, 9), "ab", 3, 3, 11);
        GrowingBook early = spoiled("aaaaaab", 3, 300);
        faultAt("early ones", early, "aaaaaa", 3, 1, 12);
        due.is("how many of them", early.reading(4), 2);
    }

    private void widthIsNoMatter() {
        due.sentence("Reading", "A code can be spoiled: some of its bits are turned. (Its width is no matter for reading.)");
        GrowingBook high = Books.of("ab");
        due.is("a bit above the width", high.spoil(1, 256), 257);
        faultAt("257", high, "a", 1, 1, 10);
        // CLEAR comes as a, so that the reader's book stays full: 31 is read, though the code is of four bits.
        GrowingBook wide = Books.loaded(5, 1, 8, Books.DIFFERENT.substring(0, 25));
        Books.comesAs(wide, 22, 0);
        Books.comesAs(wide, 23, 31);
        due.is("the width", wide.ofCode(23, 2), 4);
        reads("31", wide, Books.DIFFERENT.substring(0, 22) + "a" + "ea" + "fb", 32);
    }

    private void whatWasRead() {
        due.sentence("Promise 14", "0 how many signs were read");
        due.is("of none", spoiled("").reading(0), 0);
        due.is("of abab", spoiled("abab").reading(0), 4);
        due.is("more than the message", spoiled("ab", 1, 10).reading(0), 3);
        due.is("fewer than the message", spoiled("abc", 1, 9).reading(0), 1);
        // Each code comes as the phrase that is added next: 1 + 2 + 3 .. signs are read.
        GrowingBook book = Books.loaded(9, 0, 8, Books.DIFFERENT.repeat(3));
        int codes = book.count(1);
        for (int code = 1; code < codes - 1; code++) {
            book.spoil(code, book.ofCode(code, 0) ^ (9 + code));
        }
        due.is("of 131 codes", codes, 131);
        due.is("of phrases that grow", book.reading(0), 130 * 131 / 2);
        due.is("their fault", book.reading(1), NONE);
        due.is("read at the end", book.read(130 * 131 / 2 - 1), 0);
        due.is("read behind the end", book.read(130 * 131 / 2), GrowingBook.NO_SUCH);
    }

    private void fault() {
        due.sentence("Promise 14", "1 the place of the code that is a fault (NONE if there is none)");
        due.is("none", spoiled("ab").reading(1), NONE);
        due.is("the first code", spoiled("ab", 0, 10).reading(1), 0);
        due.is("END", spoiled("ab", 2, 300).reading(1), 2);
        due.is("behind the last code", spoiled("ab", 2, 0).reading(1), 3);

        due.sentence("Promise 14", "2 the reason (0 if there is none)");
        due.is("none", spoiled("ab").reading(2), 0);
        due.is("stands for nothing", spoiled("ab", 0, 10).reading(2), 1);
        due.is("no END", spoiled("ab", 2, 0).reading(2), 2);
        due.is("behind END", spoiled("ab", 1, 9).reading(2), 3);
        GrowingBook book = spoiled("ab", 1, 9);
        book.spoil(1, 9 ^ 1);
        due.is("mended", book.reading(2), 0);
    }

    private void book() {
        due.sentence("Promise 14", "3 the entries of the reader's book at the end");
        due.is("of none", spoiled("").reading(3), 10);
        due.is("of abcd", spoiled("abcd").reading(3), 13);
        due.is("full", spoiled(4, 0, "abcdefgh").reading(3), 16);
        due.is("cleared", spoiled(4, 1, "abcdefgh").reading(3), 11);
        due.is("cleared alone by the reader", spoiled("abcd", 3, 8).reading(3), 10);
        due.is("at a fault", spoiled("abcd", 2, 300).reading(3), 11);

        due.sentence("Promise 14", "4 codes that stood for a phrase that was not in the book yet");
        due.is("none", spoiled("abab").reading(4), 0);
        due.is("one", spoiled("aaaab").reading(4), 1);
        due.is("three", spoiled("aaaaaaaaaa").reading(4), 3);
        due.is("spoiled to it", spoiled("ab", 1, 10).reading(4), 1);
        due.is("spoiled from it", spoiled("aaaab", 1, 0).reading(4), 0);
        due.is("one that can not stand", spoiled("ab", 0, 10).reading(4), 0);
        due.is("five, CLEAR, and one more", spoiled(4, 1, "a".repeat(24)).reading(4), 6);
        due.is("one ahead of CLEAR", spoiled("aaaab", 2, 8).reading(4), 1);
    }

    private void difference() {
        due.sentence("Promise 14", "5 the first place at which what was read and the message differ");
        due.is("the first sign", spoiled("abc", 0, 1).reading(5), 0);
        due.is("the second sign", spoiled("abc", 1, 7).reading(5), 1);
        due.is("the last sign", spoiled("abc", 2, 7).reading(5), 2);
        due.is("the first of two", spoiled("abc", 1, 7, 2, 7).reading(5), 1);
        due.is("read longer, and another sign", spoiled("abc", 1, 10).reading(5), 1);
        due.is("ahead of a fault", spoiled("abc", 0, 1, 1, 300).reading(5), 0);

        due.sentence("Promise 14", "(NONE if they are alike; the length of the shorter one if one is the beginning of the other)");
        due.is("alike", spoiled("abc").reading(5), NONE);
        due.is("of none", spoiled("").reading(5), NONE);
        due.is("alike, with a fault", spoiled("ab", 2, 8).reading(5), NONE);
        due.is("alike, by other codes", spoiled("aaa", 1, 0, 2, 0).reading(5), NONE);
        due.is("read too short", spoiled("abc", 2, 9).reading(5), 2);
        due.is("read nothing", spoiled("abc", 0, 9).reading(5), 0);
        due.is("read too long", spoiled("aa", 1, 10).reading(5), 2);
        due.is("read, and no message", spoiled("", 0, 3).reading(5), 0);
    }

    private void wrongReadings() {
        due.sentence("Promise 14", "BAD_VALUE if what is out of range.");
        GrowingBook book = Books.of("abc");
        for (int what : new int[] {-6, -1, 6, 7, Books.MIN, Books.MAX}) {
            due.is("reading(" + what + ")", book.reading(what), GrowingBook.BAD_VALUE);
        }
    }

    private void read() {
        due.sentence("Promise 15", "Returns the sign that was read at a place");
        GrowingBook book = spoiled("hab", 1, 10);
        due.is("read(0)", book.read(0), 7);
        due.is("read(1)", book.read(1), 7);
        due.is("read(2)", book.read(2), 7);
        due.is("read(3)", book.read(3), 1);

        due.sentence("Promise 15", "NO_SUCH if there is no such place.");
        for (int place : new int[] {-1, 4, 5, 240, 40000, Books.MIN, Books.MAX}) {
            due.is("read(" + place + ")", book.read(place), GrowingBook.NO_SUCH);
        }
        due.is("read(0) of none", new GrowingBook().read(0), GrowingBook.NO_SUCH);
        due.is("read(1), fewer than the message", spoiled("abc", 1, 9).read(1), GrowingBook.NO_SUCH);
        book.cut(3);
        due.is("read(0) of what was cut", book.read(0), GrowingBook.NO_SUCH);
    }
}
