/** The rules of writing: the entries, full books, widths, and the books that are cleared. */
final class WritingSentences {
    /** With WIDEST 4 the book is full behind the f of it; from there on ab (10) is a code, and h. */
    private static final String FILL = "abcdef";

    private static final String LONG = Books.DIFFERENT + Books.DIFFERENT + Books.DIFFERENT;

    private final Due due;

    private WritingSentences(Due due) {
        this.due = due;
    }

    static void ask(Due due) {
        WritingSentences ask = new WritingSentences(due);
        ask.entries();
        ask.full();
        ask.widths();
        ask.longestEntry();
        ask.entryAdded();
        ask.cleared();
        ask.end();
        ask.policy0();
        ask.policy1();
        ask.loss();
        ask.window();
        ask.notBeforeTwiceWindow();
        ask.sinceItBecameFull();
        ask.behindEachCode();
    }

    private void codes(String what, GrowingBook book, String want) {
        due.same("the codes of " + what, Books.codes(book), want);
    }

    private void entries() {
        due.sentence("Writing", "The book of the writer has entries: 0 to 7 are the single signs, 8 is CLEAR, 9 is END");
        GrowingBook none = new GrowingBook();
        for (int entry = 0; entry < 8; entry++) {
            due.is("signs of " + entry, none.entry(entry, 0), 1);
            due.is("last sign of " + entry, none.entry(entry, 1), entry);
        }
        for (int entry = 8; entry < 10; entry++) {
            due.is("signs of " + entry, none.entry(entry, 0), 0);
            due.is("last sign of " + entry, none.entry(entry, 1), GrowingBook.NONE);
        }
        due.is("entries", none.count(4), 10);
        codes("hgfedcba", Books.of("hgfedcba"), "7 6 5 4 3 2 1 0 9");

        due.sentence("Writing", "and phrases (of two signs or more) are numbered from 10 on, as they are added");
        GrowingBook book = Books.of("aaaab");
        due.is("signs of 10, aa", book.entry(10, 0), 2);
        due.is("signs of 11, aaa", book.entry(11, 0), 3);
        due.is("signs of 12, ab", book.entry(12, 0), 2);
        due.is("last sign of 12", book.entry(12, 1), 1);
        due.is("entry(13, 0)", book.entry(13, 0), GrowingBook.NO_SUCH);
        codes("aaaabaaaab", Books.of("aaaabaaaab"), "0 10 0 1 11 12 9");
    }

    private void full() {
        due.sentence("Writing", "It is full if it has 2 to the power of WIDEST entries.");
        for (int widest = 4; widest <= 7; widest++) {
            int most = 1 << widest;
            String signs = LONG.substring(0, widest < 7 ? most - 9 : 173);
            String fewer = signs.substring(0, signs.length() - 1);
            due.is("not full, WIDEST " + widest, Books.loaded(widest, 1, 8, fewer).count(4), most - 1);
            due.is("its CLEAR codes", Books.loaded(widest, 1, 8, fewer).count(3), 0);
            GrowingBook cleared = Books.loaded(widest, 1, 8, signs);
            due.is("full, its CLEAR codes", cleared.count(3), 1);
            due.is("entries as CLEAR is written", cleared.ofCode(cleared.count(1) - 3, 5), most);
            due.is("full and kept", Books.loaded(widest, 0, 8, signs).count(4), most);
            due.is("full and kept, more signs", Books.loaded(widest, 0, 8, LONG).count(4), most);
        }
        // 240 signs are too few to fill 256 entries or more.
        due.is("WIDEST 8, never full", Books.loaded(8, 1, 8, LONG).count(4), 139);
        due.is("WIDEST 9, never full", Books.loaded(9, 1, 8, LONG).count(4), 139);
        due.is("its CLEAR codes", Books.loaded(8, 1, 8, LONG).count(3), 0);
    }

    private void widths() {
        due.sentence("Writing", "The width of a code is the number of bits of the number of the last entry that the book has as the"
            + " code is written");
        GrowingBook book = Books.loaded(9, 0, 8, Books.DIFFERENT);
        int[] firstWider = {0, 7, 23, 55};
        for (int i = 1; i < firstWider.length; i++) {
            due.is("last width of " + (3 + i), book.ofCode(firstWider[i] - 1, 2), 3 + i);
            due.is("first width of " + (4 + i), book.ofCode(firstWider[i], 2), 4 + i);
        }
        for (int code = 0; code < 66; code++) {
            due.is("width of " + code, book.ofCode(code, 2), code < 7 ? 4 : code < 23 ? 5 : code < 55 ? 6 : 7);
        }
        due.is("bits", book.count(2), 7 * 4 + 16 * 5 + 32 * 6 + 11 * 7);
        GrowingBook seven = Books.loaded(9, 0, 8, LONG.substring(0, 174));
        due.is("width of END, the last entry is 127", seven.ofCode(seven.count(1) - 1, 2), 7);
        GrowingBook eight = Books.loaded(9, 0, 8, LONG.substring(0, 175));
        due.is("width of END, the last entry is 128", eight.ofCode(eight.count(1) - 1, 2), 8);
        GrowingBook kept = Books.of(4, 0, 8, "abcdefgh");
        due.is("width of END, a full book that is kept", kept.ofCode(8, 2), 4);
        due.is("its bits", kept.count(2), 9 * 4);

        due.sentence("Writing", "but at least 4");
        due.is("width of the only code", new GrowingBook().ofCode(0, 2), 4);
        due.is("width of the first code", Books.of("hh").ofCode(0, 2), 4);
        GrowingBook cleared = Books.loaded(5, 1, 8, Books.DIFFERENT.substring(0, 25));
        due.is("width of CLEAR", cleared.ofCode(22, 2), 5);
        due.is("width of the code behind CLEAR", cleared.ofCode(23, 2), 4);
    }

    private void longestEntry() {
        due.sentence("Writing", "The message is written so: at the first sign that is not written yet, the longest entry (a sign or a"
            + " phrase) that the message has there is found, and its number is written.");
        codes("one sign", Books.of("e"), "4 9");
        codes("10 signs a", Books.of("aaaaaaaaaa"), "0 10 11 12 9");
        codes("6 signs a: the message has no three of them at the end", Books.of("aaaaa"), "0 10 10 9");
        codes("abababab", Books.of("abababab"), "0 1 10 12 1 9");
        codes("the longest of two", Books.of("abcabcabcd"), "0 1 2 10 12 11 3 9");
        codes("a phrase only as far as it goes", Books.of("abcabdabc"), "0 1 2 10 3 10 2 9");
        GrowingBook book = Books.of("abcabcabcd");
        due.is("the place of its fifth code", book.ofCode(4, 3), 5);
        due.is("its signs", book.ofCode(4, 4), 2);
    }

    private void entryAdded() {
        due.sentence("Writing", "If signs are left behind it, and the book is not full, an entry is added: this one with the next sign of"
            + " the message behind it.");
        due.is("entries of none", new GrowingBook().count(4), 10);
        due.is("entries of a: no sign is left", Books.of("a").count(4), 10);
        GrowingBook ab = Books.of("ab");
        due.is("entries of ab", ab.count(4), 11);
        due.is("entry 10 without its last sign", ab.entry(10, 2), 0);
        due.is("its last sign", ab.entry(10, 1), 1);
        GrowingBook phrases = Books.of("ababc");
        due.is("entries of ababc", phrases.count(4), 13);
        due.is("entry 12 without its last sign", phrases.entry(12, 2), 10);
        due.is("its last sign", phrases.entry(12, 1), 2);
        due.is("entries of abab: no sign is left behind the phrase", Books.of("abab").count(4), 12);
        due.is("full", Books.of(4, 0, 8, "abcdefg").count(4), 16);
        due.is("full, more signs", Books.of(4, 0, 8, "abcdefgh").count(4), 16);
        due.is("full, many more", Books.loaded(4, 0, 8, LONG).count(4), 16);
    }

    private void cleared() {
        due.sentence("Writing", "Then it is looked at whether the book is cleared: if so, CLEAR is written (a code, too), and the book has"
            + " the entries 0 to 9 alone.");
        GrowingBook book = Books.of(4, 1, 8, "abcdefgh");
        codes("abcdefgh", book, "0 1 2 3 4 5 8 6 7 9");
        due.is("codes", book.count(1), 10);
        due.is("bits", book.count(2), 40);
        due.is("entries as CLEAR is written", book.ofCode(6, 5), 16);
        due.is("entries behind it", book.ofCode(7, 5), 10);
        due.is("entries at the end", book.count(4), 11);
        due.is("entry(10, 1): gh", book.entry(10, 1), 7);
        due.is("entry(10, 2)", book.entry(10, 2), 6);
        due.is("entry(11, 0): it was bc", book.entry(11, 0), GrowingBook.NO_SUCH);
        // The phrases of before are gone: ab is two codes again, and then a phrase with the first number.
        codes("abcdefabab", Books.of(4, 1, 8, "abcdefabab"), "0 1 2 3 4 5 8 0 1 10 9");
        codes("abcdefaab", Books.of(4, 1, 8, "abcdefaab"), "0 1 2 3 4 5 8 0 0 1 9");
    }

    private void end() {
        due.sentence("Writing", "This goes on until no sign is left; then END is written.");
        codes("none", new GrowingBook(), "9");
        codes("a", Books.of("a"), "0 9");
        codes("aa", Books.of("aa"), "0 0 9");
        GrowingBook most = Books.loaded(4, 1, 8, FILL.repeat(40));
        due.is("codes of 240 signs that are a code each", most.count(1), 240 + 39 + 1);
        due.is("the last sign's code", most.ofCode(278, 3), 239);
        due.is("the last code", most.ofCode(279, 0), GrowingBook.END);
        due.is("no code", most.ofCode(280, 0), GrowingBook.NO_SUCH);
        due.is("what was read and the message", most.reading(5), GrowingBook.NONE);
    }

    private void policy0() {
        due.sentence("Writing", "By POLICY 0 the book is never cleared.");
        codes("abcdefgh", Books.of(4, 0, 4, "abcdefgh"), "0 1 2 3 4 5 6 7 9");
        due.is("CLEAR codes", Books.loaded(4, 0, 4, LONG).count(3), 0);
        due.is("CLEAR codes, a loss", lossy(0, 4, 8, 20).count(3), 0);
        due.is("entries", lossy(0, 4, 8, 20).count(4), 16);
    }

    private void policy1() {
        due.sentence("Writing", "By POLICY 1 it is cleared as soon as it is full.");
        codes("abcdef: no sign is left as it would be full", Books.of(4, 1, 8, "abcdef"), "0 1 2 3 4 5 9");
        codes("abcdefg: one sign is left", Books.of(4, 1, 8, "abcdefg"), "0 1 2 3 4 5 8 6 9");
        GrowingBook twice = Books.of(4, 1, 8, "abcdefabcdefg");
        codes("twice", twice, "0 1 2 3 4 5 8 0 1 2 3 4 5 8 6 9");
        due.is("CLEAR codes", Books.loaded(4, 1, 8, FILL.repeat(40)).count(3), 39);
        // 1 + 2 + .. + 6 signs a fill it.
        GrowingBook same = Books.of(4, 1, 8, "a".repeat(22));
        codes("22 signs a", same, "0 10 11 12 13 14 8 0 9");
        codes("21 signs a", Books.of(4, 1, 8, "a".repeat(21)), "0 10 11 12 13 14 9");
        due.is("WIDEST 5: CLEAR is", Books.loaded(5, 1, 8, Books.DIFFERENT.substring(0, 23)).ofCode(22, 0), GrowingBook.CLEAR);
        due.is("WIDEST 5: CLEAR codes of 240 signs a", Books.of(5, 1, 8, "a".repeat(240)).count(3), 0);
    }

    /** WIDEST 4: since the book is full each ab and each h is a code. */
    private static GrowingBook lossy(int policy, int window, int pairs, int singles) {
        return Books.loaded(4, policy, window, FILL + "ab".repeat(pairs) + "h".repeat(singles));
    }

    private void loss() {
        due.sentence("Writing", "By POLICY 2 it is cleared if it is full, and the latest WINDOW codes that were written since it became full"
            + " stand for fewer signs together than the WINDOW codes ahead of them that were written since it became full.");
        codes("four of two signs, four of one", lossy(2, 4, 4, 5), "0 1 2 3 4 5 10 10 10 10 7 7 7 7 8 7 9");
        due.is("entries", lossy(2, 4, 4, 5).count(4), 10);
        due.is("as many signs are no loss", Books.loaded(4, 2, 4, FILL + "ab".repeat(20)).count(3), 0);
        due.is("as many, in another order", Books.loaded(4, 2, 4, FILL + "abh".repeat(20)).count(3), 0);
        due.is("more signs are no loss", Books.loaded(4, 2, 4, FILL + "hhhh" + "ab".repeat(8)).count(3), 0);
        due.is("a loss that is not full", Books.loaded(9, 2, 4, "ab".repeat(100) + "cdefgh").count(3), 0);
        // The latest four are compared with the four ahead of them, not with the first four, nor with all.
        codes("a loss after a gain", Books.loaded(4, 2, 4, FILL + "hhhh" + "ab".repeat(8) + "hh"),
            "0 1 2 3 4 5 7 7 7 7 10 10 10 10 10 10 10 10 7 8 7 9");
    }

    private void window() {
        due.sentence("Writing", "the latest WINDOW codes");
        due.is("WINDOW 4", lossy(2, 4, 4, 5).count(3), 1);
        due.is("WINDOW 5, as many codes", lossy(2, 5, 4, 5).count(3), 0);
        due.is("WINDOW 5", lossy(2, 5, 5, 6).count(3), 1);
        due.is("WINDOW 31", lossy(2, 31, 31, 32).count(3), 1);
        due.is("WINDOW 32, as many codes", lossy(2, 32, 31, 32).count(3), 0);
        due.is("WINDOW 32", lossy(2, 32, 32, 33).count(3), 1);
    }

    private void notBeforeTwiceWindow() {
        due.sentence("Writing", "(So not before twice WINDOW codes were written since; the code behind which it became full is none of"
            + " them.)");
        // With f there would be eight codes behind the fourth h, of 1 + 2 + 2 + 2 signs and of 1 + 1 + 1 + 1.
        codes("seven codes and one sign", lossy(2, 4, 3, 5), "0 1 2 3 4 5 10 10 10 7 7 7 7 7 9");
        codes("eight codes and one sign", lossy(2, 4, 3, 6), "0 1 2 3 4 5 10 10 10 7 7 7 7 7 8 7 9");
        for (int window : new int[] {4, 8, 32}) {
            due.is("one too few, WINDOW " + window, lossy(2, window, window - 1, window + 1).count(3), 0);
            due.is("just enough, WINDOW " + window, lossy(2, window, window - 1, window + 2).count(3), 1);
        }
        // 14 stands for six signs a, and the book became full behind it: 15 stands for seven.
        GrowingBook long7 = Books.of(4, 2, 4, "a".repeat(21 + 3 * 7) + "bbbbbb");
        codes("three of seven signs, five of one", long7, "0 10 11 12 13 14 15 15 15 1 1 1 1 1 8 1 9");
        GrowingBook fewer = Books.of(4, 2, 4, "a".repeat(21 + 3 * 7) + "bbbbb");
        codes("three of seven signs, four of one", fewer, "0 10 11 12 13 14 15 15 15 1 1 1 1 1 9");
    }

    private void sinceItBecameFull() {
        due.sentence("Writing", "that were written since it became full");
        // 10 10 10 7 7 7 7 since the second time are seven codes: what was written ahead of CLEAR is none of them.
        String first = FILL + "ab".repeat(4) + "hhhh";
        GrowingBook once = Books.loaded(4, 2, 4, first + FILL + "ab".repeat(3) + "hhhhh");
        due.is("CLEAR codes", once.count(3), 1);
        GrowingBook twice = Books.loaded(4, 2, 4, first + FILL + "ab".repeat(3) + "hhhhhh");
        due.is("CLEAR codes with one more sign", twice.count(3), 2);
        due.is("the second one", twice.ofCode(29, 0), GrowingBook.CLEAR);
        // 11 to 14 stand for three to six signs a: they were written as the book grew, and are none of them.
        due.is("CLEAR codes, a loss ahead of it", Books.of(4, 2, 4, "a".repeat(21) + "h".repeat(20)).count(3), 0);
    }

    private void behindEachCode() {
        due.sentence("Writing", "It is looked at behind each code, if signs are left.");
        codes("behind the third h", lossy(2, 4, 5, 4), "0 1 2 3 4 5 10 10 10 10 10 7 7 7 8 7 9");
        codes("behind the first h", lossy(2, 4, 7, 2), "0 1 2 3 4 5 10 10 10 10 10 10 10 7 8 7 9");
        codes("behind the first h, later", lossy(2, 4, 10, 2), "0 1 2 3 4 5 10 10 10 10 10 10 10 10 10 10 7 8 7 9");
        codes("no sign is left", lossy(2, 4, 7, 1), "0 1 2 3 4 5 10 10 10 10 10 10 10 7 9");
        codes("no sign is left behind the fourth h", lossy(2, 4, 4, 4), "0 1 2 3 4 5 10 10 10 10 7 7 7 7 9");
    }
}
