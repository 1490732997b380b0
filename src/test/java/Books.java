/** Makes objects for the tests, and shows what is in them. */
final class Books {
    /** Each pair of neighbours stands in it once: each sign of it is a code of its own, each code adds a phrase. */
    static final String DIFFERENT = "aabacadaeafagahbbcbdbebfbgbhccdcecfcgchddedfdgdheefegehffgfhgghha";

    static final int MIN = Integer.MIN_VALUE;
    static final int MAX = Integer.MAX_VALUE;

    private Books() { }

    /** A new object with the settings as they are at first. */
    static GrowingBook of(String signs) {
        GrowingBook book = new GrowingBook();
        add(book, signs);
        return book;
    }

    static GrowingBook of(int widest, int policy, int window, String signs) {
        GrowingBook book = new GrowingBook();
        book.set(GrowingBook.WIDEST, widest);
        book.set(GrowingBook.POLICY, policy);
        book.set(GrowingBook.WINDOW, window);
        add(book, signs);
        return book;
    }

    /** Puts signs at the end of the message, each run of the same one by one call. */
    static void add(GrowingBook book, String signs) {
        int end = 0;
        for (int from = 0; from < signs.length(); from = end) {
            while (end < signs.length() && signs.charAt(end) == signs.charAt(from)) {
                end++;
            }
            book.add(signs.charAt(from) - 'a', end - from);
        }
    }

    /** At most 8 characters as the number that put takes. */
    static long packed(String characters) {
        long number = 0;
        for (int i = 0; i < characters.length(); i++) {
            number = number << 8 | characters.charAt(i);
        }
        return number;
    }

    /** Puts a text of any length on the pad, 8 characters at a time. */
    static GrowingBook type(GrowingBook book, String text) {
        for (int i = 0; i < text.length(); i += 8) {
            book.put(packed(text.substring(i, Math.min(i + 8, text.length()))));
        }
        return book;
    }

    static GrowingBook typed(String text) {
        return type(new GrowingBook(), text);
    }

    /** A new object with a long message, by few calls: 80 signs at a time go through the pad. */
    static GrowingBook loaded(int widest, int policy, int window, String signs) {
        GrowingBook book = of(widest, policy, window, "");
        for (int i = 0; i < signs.length(); i += 80) {
            type(book, signs.substring(i, Math.min(i + 80, signs.length())));
            book.load();
        }
        return book;
    }

    /** Spoils a code so that it comes as this number. */
    static GrowingBook comesAs(GrowingBook book, int code, int number) {
        book.spoil(code, book.ofCode(code, 1) ^ number);
        return book;
    }

    /** The codes as they were written, as a text: "0 10 9". */
    static String codes(GrowingBook book) {
        StringBuilder text = new StringBuilder();
        int codes = book.count(1);
        for (int code = 0; code < codes; code++) {
            text.append(code == 0 ? "" : " ").append(book.ofCode(code, 0));
        }
        return text.toString();
    }

    /** What was read, as a text of signs. */
    static String read(GrowingBook book) {
        StringBuilder text = new StringBuilder();
        int many = book.reading(0);
        for (int place = 0; place < many; place++) {
            text.append((char) ('a' + book.read(place)));
        }
        return text.toString();
    }

    static String message(GrowingBook book) {
        StringBuilder text = new StringBuilder();
        int length = book.count(0);
        for (int place = 0; place < length; place++) {
            text.append((char) ('a' + book.sign(place)));
        }
        return text.toString();
    }

    /** What there is, by 33 calls: an object is used for 512 calls at most. */
    static String view(GrowingBook book) {
        StringBuilder text = new StringBuilder("{");
        for (int what = 0; what < 12; what++) {
            text.append(book.count(what)).append(' ');
        }
        for (int what = 0; what < 6; what++) {
            text.append(book.reading(what)).append(' ');
        }
        for (int place = 0; place < 4; place++) {
            text.append(book.sign(place)).append(' ').append(book.ofCode(place, 1)).append(' ');
            text.append(book.read(place)).append(' ');
        }
        text.append(book.sign(book.count(0) - 1)).append(' ').append(book.fault());
        return text.append('}').toString();
    }

    /** What there is, and what is kept behind it: the history, the slots and the pad's text. It uses them up, by some 400 calls. */
    static String whole(GrowingBook book) {
        StringBuilder text = new StringBuilder(view(book));
        for (int change = 0; change < 7; change++) {
            int left = book.undo();
            text.append(left).append(left < 0 ? "" : view(book));
        }
        for (int slot = 0; slot < 2; slot++) {
            text.append(book.restore(slot)).append(view(book));
        }
        text.append(book.cut(Math.max(1, book.count(0)))).append(book.load()).append(view(book));
        text.append(book.put(')')).append(book.load()).append(view(book));
        return text.toString();
    }
}
