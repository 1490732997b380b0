/** The rules of texts, promises 6 (put), 7 (wipe), 8 (fault) and 9 (load). */
final class TextSentences {
    private static final int NONE = GrowingBook.NONE;

    private final Due due;

    private TextSentences(Due due) {
        this.due = due;
    }

    static void ask(Due due) {
        TextSentences ask = new TextSentences(due);
        ask.longestPad();
        ask.pieces();
        ask.signs();
        ask.numbers();
        ask.deepest();
        ask.firstFault();
        ask.endsTooEarly();
        ask.puts();
        ask.putsZeros();
        ask.wrongPuts();
        ask.wipes();
        ask.fault();
        ask.loads();
        ask.loadMendsAndIsChange();
        ask.badTexts();
        ask.loadsTooMany();
    }

    private void faultAt(String text, int want) {
        due.is("fault of " + text, Books.typed(text).fault(), want);
    }

    private void right(String... texts) {
        for (String text : texts) {
            faultAt(text, NONE);
        }
    }

    private void loadIs(String text, String want) {
        GrowingBook book = Books.typed(text);
        due.is("load() of " + text, book.load(), want.length());
        due.same("the message of " + text, Books.message(book), want);
    }

    private void longestPad() {
        due.sentence("Texts", "The pad is a text of at most 80 characters");
        GrowingBook book = Books.typed("a".repeat(79));
        due.is("put(h)", book.put('h'), 80);
        due.is("put(h) again", book.put('h'), GrowingBook.TOO_MANY);
        due.is("its length", book.count(7), 80);
        due.is("its fault", book.fault(), NONE);
        due.is("load()", book.load(), 80);
        due.is("the last sign", book.sign(79), 7);
    }

    private void pieces() {
        due.sentence("Texts", "text = piece { piece }");
        right("a", "ab", "abcdefgh", "2a3b4c", "(a)(b)(c)");
        faultAt("", 0);
        faultAt("()", 1);
        faultAt("(a)()", 4);
        loadIs("abc", "abc");
        loadIs("hg(f)e", "hgfe");

        due.sentence("Texts", "piece = [ number ] sign");
        right("2a", "a2b", "60h", "12a34b");
        faultAt("2", 1);
        faultAt("a2", 2);
        faultAt("2)", 1);
        faultAt("(a2)", 3);
        faultAt("2,a", 1);
        loadIs("a12b", "abbbbbbbbbbbb");

        due.sentence("Texts", "| [ number ] \"(\" text \")\"");
        right("(a)", "2(a)", "60(h)", "a2(b)c", "2(3(4(5a)b)c)d", "20a30(b)", "((a)((a)b)c)");
        faultAt(")", 0);
        faultAt("a)", 1);
        faultAt("(a))", 3);
        faultAt("(2)", 2);
        faultAt("3()", 2);
        faultAt("2)a(", 1);
        loadIs("(h)(g)", "hg");
        loadIs("2(ab)c", "ababc");
        loadIs("a2(bc)d", "abcbcd");
        loadIs("((2a)3b)", "aabbb");
    }

    private void signs() {
        due.sentence("Texts", "A sign is a letter from a to h");
        for (char letter = 'a'; letter <= 'h'; letter++) {
            loadIs("" + letter, "" + letter);
        }
        for (char other = 33; other <= 126; other++) {
            if (other < 'a' || other > 'h') {
                boolean begins = other == '(' || other >= '1' && other <= '9';
                faultAt("" + other, begins ? 1 : 0);
                faultAt("a" + other + "a", other >= '2' && other <= '9' ? NONE : other == '(' ? 3 : other == '1' ? 2 : 1);
            }
        }
    }

    private void numbers() {
        due.sentence("Texts", "a number is 2 to 60");
        for (int number = 0; number <= 100; number++) {
            faultAt(number + "a", number == 0 ? 0 : number == 1 ? 1 : number <= 60 ? NONE : number == 100 ? 2 : 1);
        }
        right("2(a)", "60(a)", "9a", "10a", "59a");

        due.sentence("Texts", "without leading zeros");
        faultAt("0", 0);
        faultAt("0a", 0);
        faultAt("00a", 0);
        faultAt("02a", 0);
        faultAt("010a", 0);
        faultAt("a05(b)", 1);
        right("20a", "30(b)");

        due.sentence("Texts", ": so many times.");
        loadIs("3a", "aaa");
        loadIs("60h", "h".repeat(60));
        loadIs("2(ab)", "abab");
        loadIs("10(abc)", "abc".repeat(10));
        loadIs("2(a2(b2(cd)))", "abcdcdbcdcdabcdcdbcdcd");
        loadIs("2(2(a)2(b))", "aabbaabb");
        loadIs("a3b", "abbb");
        loadIs("3ab", "aaab");
        loadIs("(ab)3(c)d", "abcccd");
        loadIs("3(a)b", "aaab");
    }

    private void deepest() {
        due.sentence("Texts", "The parentheses are at most 3 deep.");
        right("(((a)))", "(((a)b)c)", "(((a)(b))((c)))", "2(2(2(2a)))");
        loadIs("(((ab)))", "ab");
        faultAt("((((a))))", 3);
        faultAt("((((", 3);
        faultAt("(((2(a))))", 4);
        faultAt("(((a(b))))", 4);
        faultAt("(((a)((b))))", 6);
    }

    private void firstFault() {
        due.sentence("Texts", "The fault is the index of the first character that cannot stand at its place when the text is read from left to"
            + " right");
        faultAt("!", 0);
        faultAt("ab~", 2);
        faultAt("a,b,c", 1);
        faultAt("i!", 0);
        faultAt("2-a", 1);
        faultAt("(a()", 3);
        faultAt("(((2)", 4);
        faultAt("((a)!", 4);
        faultAt("a".repeat(79) + "x", 79);
        faultAt("x" + "a".repeat(79), 0);

        due.sentence("Texts", "(also of a digit by which a number would be above 60");
        faultAt("61a", 1);
        faultAt("70", 1);
        faultAt("99", 1);
        faultAt("100a", 2);
        faultAt("600a", 2);
        faultAt("a(65b)", 3);
        faultAt("61", 1);
        faultAt("6".repeat(80), 1);

        due.sentence("Texts", "or of what stands behind a number that is below 2)");
        faultAt("1a", 1);
        faultAt("1(a)", 1);
        faultAt("1)", 1);
        faultAt("1i", 1);
        faultAt("(1a)", 2);
        faultAt("(a1)", 3);
        faultAt("2(a)1(b)", 5);
        faultAt("a1b", 2);
        right("10a", "19(b)", "a12b");
    }

    private void endsTooEarly() {
        due.sentence("Texts", "if there is none and the text ends too early (also if it is empty), it is the length of the text.");
        faultAt("", 0);
        faultAt("1", 1);
        faultAt("2", 1);
        faultAt("60", 2);
        faultAt("(", 1);
        faultAt("(a", 2);
        faultAt("((a)", 4);
        faultAt("(((2a", 5);
        faultAt("a(b)2", 5);
        faultAt("a1", 2);
        faultAt("a(", 2);
        faultAt("2(", 2);
        faultAt("a".repeat(79) + "(", 80);
        faultAt("a".repeat(79) + "2", 80);
    }

    private void puts() {
        due.sentence("Promise 6", "Appends characters to the pad.");
        GrowingBook book = new GrowingBook();
        book.put('a');
        book.put(Books.packed("bc"));
        book.put(Books.packed("2(de)f"));
        book.load();
        due.same("the message", Books.message(book), "abcdedef");
        due.is("no change but load", book.count(8), 1);

        due.sentence("Promise 6", "its lowest 8 bits are the last character, the next 8 bits the one before, and so on");
        book = new GrowingBook();
        book.put(0x68676665_64636261L);
        book.load();
        due.same("the message of 0x6867666564636261", Books.message(book), "hgfedcba");
        book.put(0x6162);
        book.load();
        due.same("with 0x6162 behind it", Books.message(book), "hgfedcbaab");

        due.sentence("Promise 6", "`characters`: 1 to 8 characters");
        book = new GrowingBook();
        due.is("put of 1", book.put(Books.packed("a")), 1);
        due.is("put of 7", book.put(Books.packed("abcdefg")), 8);
        due.is("put of 8", book.put(Books.packed("abcdefgh")), 16);
        due.is("put of 0", book.put(0), GrowingBook.BAD_VALUE);

        due.sentence("Promise 6", "Returns the length of the pad then");
        book = new GrowingBook();
        for (int length = 8; length <= 80; length += 8) {
            due.is("put of 8", book.put(Books.packed("~!abcdef")), length);
        }
        book.wipe();
        due.is("put of 3", book.put(Books.packed("abc")), 3);
        due.is("put of 1", book.put('d'), 4);
    }

    private void bad(GrowingBook book, long... numbers) {
        for (long number : numbers) {
            due.is("put(" + number + ")", book.put(number), GrowingBook.BAD_VALUE);
        }
        due.is("length of the pad", book.count(7), 2);
    }

    private void putsZeros() {
        due.sentence("Promise 6", "8 bits that are 0 mean that there are no more characters, and everything above them has to be 0, too.");
        GrowingBook book = Books.typed("ab");
        bad(book, 'a' << 16 | 'b', (long) 'a' << 32 | 'b', (long) 'a' << 56 | 'b', 'a' << 8);
        due.is("put(c)", book.put('c'), 3);
        due.is("put(cd)", book.put('c' << 8 | 'd'), 5);
        due.is("put of 7", book.put(Books.packed("abcdefg")), 12);

        due.sentence("Promise 6", "BAD_VALUE if there is no character");
        bad(Books.typed("ab"), 0);

        due.sentence("Promise 6", "or a bit above 8 bits that are 0 is not 0");
        bad(Books.typed("ab"), 1L << 16 | 'a', 1L << 23 | 'a', 1L << 63 | 'a', Long.MIN_VALUE | 'a', 1L << 8, 1L << 63,
            1L << 56 | Books.packed("abcdef"), (long) 'a' << 56);
    }

    private void wrongPuts() {
        due.sentence("Promise 6", "a code is not 33 to 126");
        bad(Books.typed("ab"), 1, 32, 127, 128, 255, 32 << 8 | 'a', 'a' << 8 | 32, 127 << 8 | 'a', 'a' << 8 | 127, -1,
            Long.MIN_VALUE, Long.MAX_VALUE, 0x80_61_61_61_61_61_61_61L, 0x20_61_61_61_61_61_61_61L, 0x61_61_61_7f_61_61_61_61L);
        GrowingBook book = Books.typed("ab");
        due.is("put(33)", book.put(33), 3);
        due.is("put(126)", book.put(126), 4);
        due.is("put(33 33)", book.put(33 << 8 | 33), 6);
        due.is("put of eight 126", book.put(0x7e7e7e7e_7e7e7e7eL), 14);

        due.sentence("Promise 6", "TOO_MANY if the pad would be longer than 80.");
        book = Books.typed("a".repeat(74));
        due.is("put of 7", book.put(Books.packed("bbbbbbb")), GrowingBook.TOO_MANY);
        due.is("length of the pad", book.count(7), 74);
        due.is("put of 6", book.put(Books.packed("cccccc")), 80);
        due.is("put of 1", book.put('d'), GrowingBook.TOO_MANY);
        due.is("put of what is no character", book.put(32), GrowingBook.BAD_VALUE);
        book.load();
        due.same("the message", Books.message(book), "a".repeat(74) + "cccccc");
    }

    private void wipes() {
        due.sentence("Promise 7", "Empties the pad, and returns the length that it had.");
        GrowingBook book = new GrowingBook();
        due.is("wipe() of an empty pad", book.wipe(), 0);
        Books.type(book, "2(ab)");
        due.is("wipe()", book.wipe(), 5);
        due.is("length of the pad", book.count(7), 0);
        due.is("wipe() again", book.wipe(), 0);
        Books.type(book, "a".repeat(80));
        due.is("wipe() of a full pad", book.wipe(), 80);
        book.put('h');
        due.is("load() of what was put since", book.load(), 1);
        due.same("the message", Books.message(book), "h");
        due.is("no change but load", book.count(8), 1);
        Books.type(book, "(!");
        book.spoil(0, 1);
        due.is("wipe() of a bad text", book.wipe(), 2);
        due.is("spoiled codes", book.count(6), 1);
    }

    private void fault() {
        due.sentence("Promise 8", "Returns the fault of the pad, NONE if there is none.");
        GrowingBook book = new GrowingBook();
        due.is("of an empty pad", book.fault(), 0);
        book.put('a');
        due.is("of a", book.fault(), NONE);
        due.is("once more", book.fault(), NONE);
        book.put('1');
        due.is("of a1", book.fault(), 2);
        book.put('2');
        due.is("of a12", book.fault(), 3);
        book.put('b');
        due.is("of a12b", book.fault(), NONE);
        book.put('!');
        due.is("of a12b!", book.fault(), 4);
        book.put('!');
        due.is("of a12b!!", book.fault(), 4);
        due.is("length of the pad", book.count(7), 6);
        due.is("no change", book.count(8), 0);
    }

    private void loads() {
        due.sentence("Promise 9", "Puts the signs of the pad at the end of the message");
        GrowingBook book = Books.of("gg");
        Books.type(book, "2(h)a10b");
        book.load();
        due.same("the message", Books.message(book), "gghhabbbbbbbbbb");
        due.same("the codes", Books.codes(book), "6 6 7 7 0 1 15 16 17 9");

        due.sentence("Promise 9", "and empties the pad");
        book = Books.typed("ab");
        book.load();
        due.is("length of the pad", book.count(7), 0);
        due.is("load() again", book.load(), GrowingBook.BAD_TEXT);
        book.put('c');
        book.load();
        due.same("the message", Books.message(book), "abc");

        due.sentence("Promise 9", "Returns the length of the message then");
        book = Books.typed("ab");
        due.is("load()", book.load(), 2);
        Books.type(book, "3(ab)");
        due.is("load()", book.load(), 8);
        Books.type(book, "4(58a)");
        due.is("load()", book.load(), 240);
    }

    private void loadMendsAndIsChange() {
        due.sentence("Promise 9", "no code is spoiled any more");
        GrowingBook book = Books.of("gg");
        book.spoil(0, 1);
        Books.type(book, "a1");
        due.is("load() of a1", book.load(), GrowingBook.BAD_TEXT);
        due.is("spoiled codes", book.count(6), 1);
        Books.type(book, "0b");
        due.is("load() of a10b", book.load(), 13);
        due.is("spoiled codes", book.count(6), 0);
        due.is("the code as it comes", book.ofCode(0, 1), 6);

        due.sentence("Promise 9", "This is a change.");
        due.is("can be undone", book.count(8), 3);
        due.is("undo()", book.undo(), 2);
        due.same("the message", Books.message(book), "gg");
        due.is("spoiled codes", book.count(6), 1);
        due.is("length of the pad", book.count(7), 0);
    }

    private void badTexts() {
        due.sentence("Promise 9", "BAD_TEXT if the pad has a fault");
        for (String text : new String[] {"", "i", "1", "1a", "0a", "61a", "(", "a)", "((((a))))", "241", "60(60(60(60h60g60f)))b)"}) {
            GrowingBook book = Books.typed(text);
            due.is("load() of " + text, book.load(), GrowingBook.BAD_TEXT);
            due.is("length of the pad", book.count(7), text.length());
            due.is("length of the message", book.count(0), 0);
            due.is("can be undone", book.count(8), 0);
        }
    }

    private void loadsTooMany() {
        due.sentence("Promise 9", "TOO_MANY if it would be longer than 240.");
        String[] texts = {"4(60a)a", "60(4a)a", "5(49a)", "60(60(60(60h)))", "60(60(60(60h60g60f)))b", "a4(60b)", "(4(60a))(a)"};
        for (String text : texts) {
            GrowingBook book = Books.typed(text);
            due.is("load() of " + text, book.load(), GrowingBook.TOO_MANY);
            due.is("length of the pad", book.count(7), text.length());
            due.is("length of the message", book.count(0), 0);
            due.is("can be undone", book.count(8), 0);
        }
        GrowingBook book = Books.typed("4(59ab)");
        due.is("load() of 240", book.load(), 240);
        due.is("the last sign", book.sign(239), 1);
        book.put('c');
        due.is("load() of one more", book.load(), GrowingBook.TOO_MANY);
        book.cut(1);
        due.is("load() of one more to 239", book.load(), 240);
        due.is("the last sign", book.sign(239), 2);
        due.is("load() of 240, a sign last", Books.typed("60(3a)60b").load(), 240);
        due.is("load() of 241, a sign last", Books.typed("60(3a)60bc").load(), GrowingBook.TOO_MANY);
        due.is("load() of 240, parentheses last", Books.typed("60b60(3a)").load(), 240);
        due.is("load() of 241, parentheses last", Books.typed("60bc60(3a)").load(), GrowingBook.TOO_MANY);
        GrowingBook one = Books.typed("4(60a)");
        one.add(1, 1);
        due.is("load() of 240 to 1", one.load(), GrowingBook.TOO_MANY);
        due.is("length of the pad", one.count(7), 6);
    }
}
