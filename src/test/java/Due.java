/** Counts the answers that are not as due, and ends a test. */
final class Due {
    private int wrong;
    private int asked;

    void is(String call, long got, long want) {
        asked++;
        if (got != want) {
            wrong++;
            System.out.println(call + " answered " + got + ", due is " + want);
        }
    }

    void end(String test) {
        System.out.println(test + ": " + asked + " answers, " + wrong + " not as due");
        if (wrong != 0 || asked == 0) {
            System.exit(1);
        }
    }

    /** At most 8 characters as the number that put takes. */
    static long packed(String characters) {
        long number = 0;
        for (int i = 0; i < characters.length(); i++) {
            number = number << 8 | characters.charAt(i);
        }
        return number;
    }

    /** Puts a text of any length on the pad, 8 characters at a time. */
    static void type(GrowingBook book, String text) {
        for (int i = 0; i < text.length(); i += 8) {
            book.put(packed(text.substring(i, Math.min(i + 8, text.length()))));
        }
    }

    /** Puts the signs of a text at the end of the message, one by one (each is a change). */
    static GrowingBook withMessage(int widest, int policy, int window, String signs) {
        GrowingBook book = new GrowingBook();
        book.set(GrowingBook.WIDEST, widest);
        book.set(GrowingBook.POLICY, policy);
        book.set(GrowingBook.WINDOW, window);
        for (int i = 0; i < signs.length(); i++) {
            book.add(signs.charAt(i) - 'a', 1);
        }
        return book;
    }

    /** What the codes are as they were written, as a text: "0 10 9". */
    static String codes(GrowingBook book) {
        StringBuilder text = new StringBuilder();
        for (int code = 0; code < book.count(1); code++) {
            text.append(code == 0 ? "" : " ").append(book.ofCode(code, 0));
        }
        return text.toString();
    }

    /** What was read, as a text of signs. */
    static String read(GrowingBook book) {
        StringBuilder text = new StringBuilder();
        for (int place = 0; place < book.reading(0); place++) {
            text.append((char) ('a' + book.read(place)));
        }
        return text.toString();
    }

    /** What the message is, as a text of signs. */
    static String message(GrowingBook book) {
        StringBuilder text = new StringBuilder();
        for (int place = 0; place < book.count(0); place++) {
            text.append((char) ('a' + book.sign(place)));
        }
        return text.toString();
    }

    void same(String what, String got, String want) {
        asked++;
        if (!got.equals(want)) {
            wrong++;
            System.out.println(what + " is " + got + ", due is " + want);
        }
    }
}
