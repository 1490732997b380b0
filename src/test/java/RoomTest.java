import java.lang.management.ManagementFactory;

/** All calls of a run live in one room of 7.3 million fields and elements: an object and its 512 calls have to fit. */
public final class RoomTest {
    /** Four bytes for each field or element. */
    private static final long MOST_BYTES = 4 * 7_300_000L;

    public static void main(String[] arguments) {
        Due due = new Due();
        use(new GrowingBook());
        long before = bytes();
        use(new GrowingBook());
        long all = bytes() - before;
        due.is("an object and its calls take " + all + " bytes, which fit", all < MOST_BYTES ? 1 : 0, 1);
        due.end("RoomTest");
    }

    private static long bytes() {
        com.sun.management.ThreadMXBean threads = (com.sun.management.ThreadMXBean) ManagementFactory.getThreadMXBean();
        return threads.getThreadAllocatedBytes(Thread.currentThread().getId());
    }

    /** 512 calls: a message of 240 signs, and then the dearest ones. */
    private static void use(GrowingBook book) {
        for (int i = 0; i < 30; i++) {
            book.add(i * i % 8, 7);
            book.add(i % 8, 1);
        }
        for (int i = 0; i < 28; i++) {
            book.set(i % 3, i % 3 == GrowingBook.POLICY ? i % 2 : 4 + i % 5);
            book.cut(4);
            book.put('2' << 24 | '(' << 16 | 'a' << 8 | ')');
            book.fault();
            book.load();
            book.spoil(i, 7);
            book.ofCode(i, 1);
            book.count(i % 12);
            book.reading(5);
            book.bitsWith(4, i % 3);
            book.best(i % 3);
            book.tenderest(i % 2);
            book.cheapest(i % 2);
            book.save(i % 2);
            book.restore(0);
            book.undo();
        }
    }
}
