/** Promises 6 to 9: put, wipe, fault and load. */
public final class PadTest {
    private static final Due DUE = new Due();

    public static void main(String[] arguments) {
        putting();
        wiping();
        faults();
        loading();
        loadingTooMany();
        DUE.end("PadTest");
    }

    private static void putting() {
        GrowingBook book = new GrowingBook();
        for (long bad : new long[] {0, 32, 127, 255, 'a' << 8, 32 << 8 | 'a', 'a' << 8 | 32, 'a' << 16 | 'b',
            (long) 'a' << 56, (long) 'a' << 32 | 'a', -1, Long.MIN_VALUE, Long.MIN_VALUE | 'a', Long.MAX_VALUE}) {
            DUE.is("put(" + bad + ")", book.put(bad), GrowingBook.BAD_VALUE);
        }
        DUE.is("count(7)", book.count(7), 0);
        DUE.is("put(33)", book.put(33), 1);
        DUE.is("fault()", book.fault(), 0);
        DUE.is("put(126)", book.put(126), 2);
        DUE.is("no change", book.count(8), 0);
        for (int length = 10; length <= 74; length += 8) {
            DUE.is("put of 8", book.put(Due.packed("abcdefgh")), length);
        }
        DUE.is("put of 7", book.put(Due.packed("abcdefg")), GrowingBook.TOO_MANY);
        DUE.is("a bad put", book.put(32), GrowingBook.BAD_VALUE);
        DUE.is("put of 6", book.put(Due.packed("abcdef")), 80);
        DUE.is("put of 1", book.put('a'), GrowingBook.TOO_MANY);
        DUE.is("a bad put", book.put(0), GrowingBook.BAD_VALUE);
        DUE.is("count(7)", book.count(7), 80);
    }

    private static void wiping() {
        GrowingBook book = new GrowingBook();
        DUE.is("wipe() of none", book.wipe(), 0);
        book.put(Due.packed("2(ab)"));
        DUE.is("wipe()", book.wipe(), 5);
        DUE.is("count(7)", book.count(7), 0);
        DUE.is("wipe() again", book.wipe(), 0);
        DUE.is("no change", book.count(8), 0);
        book.put('h');
        book.load();
        DUE.same("the message", Due.message(book), "h");
    }

    private static void faults() {
        String[] good = {"a", "h", "abcdefgh", "2a", "10a", "19a", "60h", "60(h)", "(((a)))", "2(3(4(5a)b)c)d",
            "(a)(a)", "((a)((a)b)c)", "12a34b", "a2(b)c", "20a30(b)"};
        for (String text : good) {
            DUE.is("fault of " + text, faultOf(text), GrowingBook.NONE);
        }
        Object[][] bad = {{"", 0}, {"i", 0}, {"A", 0}, {"`", 0}, {"!", 0}, {"0", 0}, {"0a", 0}, {"01a", 0}, {"a0", 1},
            {"1", 1}, {"1a", 1}, {"1(", 1}, {"1)", 1}, {"1i", 1}, {"2", 1}, {"60", 2}, {"61a", 1}, {"600a", 2}, {"70", 1},
            {"100a", 2}, {"99", 1}, {"2)", 1}, {"(2)", 2}, {"(1a)", 2}, {")", 0}, {"a)", 1}, {"()", 1}, {"(", 1}, {"(a", 2},
            {"3()", 2}, {"((a)", 4}, {"(a))", 3}, {"((((a))))", 3}, {"(((2(a", 4}, {"(((2a", 5}, {"(((2)", 4},
            {"a(b)2", 5}, {"a,b", 1}, {"ab~", 2}, {"2(a)1(b)", 5}, {"(a)()", 4}, {"(a(", 3}, {"2-a", 1}};
        for (Object[] row : bad) {
            DUE.is("fault of " + row[0], faultOf((String) row[0]), (Integer) row[1]);
        }
        DUE.is("fault of 80 signs", faultOf("a".repeat(80)), GrowingBook.NONE);
        DUE.is("fault of 79 signs and a parenthesis", faultOf("a".repeat(79) + "("), 80);
        DUE.is("fault of 79 signs and a bad one", faultOf("a".repeat(79) + "x"), 79);
    }

    private static int faultOf(String text) {
        GrowingBook book = new GrowingBook();
        Due.type(book, text);
        int fault = book.fault();
        DUE.is("it stays", book.fault(), fault);
        DUE.is("count(7)", book.count(7), text.length());
        if (fault != GrowingBook.NONE) {
            DUE.is("load() of " + text, book.load(), GrowingBook.BAD_TEXT);
            DUE.is("count(7)", book.count(7), text.length());
            DUE.is("changes", book.count(8), 0);
        }
        return fault;
    }

    private static void loading() {
        String[][] rows = {{"abc", "abc"}, {"3a", "aaa"}, {"2(ab)c", "ababc"}, {"a12b", "abbbbbbbbbbbb"},
            {"2(a2(b2(cd)))", "abcdcdbcdcdabcdcdbcdcd"}, {"(h)(g)", "hg"}, {"2(2(a)2(b))", "aabbaabb"}, {"((2a)3b)", "aabbb"}};
        for (String[] row : rows) {
            GrowingBook book = new GrowingBook();
            Due.type(book, row[0]);
            DUE.is("load() of " + row[0], book.load(), row[1].length());
            DUE.same(row[0], Due.message(book), row[1]);
            DUE.is("the pad is empty", book.count(7), 0);
            DUE.is("a change", book.count(8), 1);
        }
        GrowingBook book = new GrowingBook();
        book.add(6, 2);
        book.spoil(0, 1);
        Due.type(book, "2(h)a1");
        DUE.is("load()", book.load(), GrowingBook.BAD_TEXT);
        DUE.is("spoiled still", book.count(6), 1);
        Due.type(book, "0b");
        DUE.is("load()", book.load(), 15);
        DUE.same("the message", Due.message(book), "gghhabbbbbbbbbb");
        DUE.is("spoiled no more", book.count(6), 0);
        DUE.is("undo()", book.undo(), 2);
        DUE.same("the message", Due.message(book), "gg");
        DUE.is("spoiled again", book.count(6), 1);
        DUE.is("the pad stays empty", book.count(7), 0);
    }

    private static void loadingTooMany() {
        String[] rows = {"4(60a)a", "60(4a)a", "5(49a)", "60(60(60(60h)))", "60(60(60(60h60g60f)))b", "241", "a4(60b)"};
        for (String row : rows) {
            GrowingBook book = new GrowingBook();
            Due.type(book, row);
            boolean whole = book.fault() == GrowingBook.NONE;
            DUE.is("load() of " + row, book.load(), whole ? GrowingBook.TOO_MANY : GrowingBook.BAD_TEXT);
            DUE.is("the pad stays", book.count(7), row.length());
            DUE.is("no change", book.count(8), 0);
        }
        GrowingBook book = new GrowingBook();
        Due.type(book, "4(59ab)");
        DUE.is("load() of 240", book.load(), 240);
        DUE.is("sign(239)", book.sign(239), 1);
        book.put('c');
        DUE.is("load() of one more", book.load(), GrowingBook.TOO_MANY);
        book.cut(1);
        DUE.is("load()", book.load(), 240);
        DUE.is("sign(239)", book.sign(239), 2);
    }
}
