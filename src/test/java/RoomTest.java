import java.lang.management.ManagementFactory;

/** All calls of a run live in one room: an object is small, and its calls make no objects at all. */
public final class RoomTest {
    private static final int MOST_BYTES = 1_000_000;
    private static final int LEEWAY = 10_000;

    public static void main(String[] arguments) {
        Due due = new Due();
        use(new GrowingBook());
        long start = bytes();
        GrowingBook book = new GrowingBook();
        long made = bytes();
        use(book);
        long used = bytes();
        due.is("a new object takes " + (made - start) + " bytes, which is little", made - start < MOST_BYTES ? 1 : 0, 1);
        due.is("its calls take " + (used - made) + " bytes, which is none", used - made < LEEWAY ? 1 : 0, 1);
        due.end("RoomTest");
    }

    private static long bytes() {
        com.sun.management.ThreadMXBean threads = (com.sun.management.ThreadMXBean) ManagementFactory.getThreadMXBean();
        return threads.getThreadAllocatedBytes(Thread.currentThread().getId());
    }

    /** Some 500 calls, each method among them. */
    private static void use(GrowingBook book) {
        for (int i = 0; i < 20; i++) {
            book.set(i % 3, i % 3 == GrowingBook.POLICY ? i % 2 : 4 + i % 5);
            book.add(i % 8, 5);
            book.cut(2);
            book.spoil(i, 7);
            book.put('2' << 24 | '(' << 16 | 'a' << 8 | ')');
            book.fault();
            book.load();
            book.put('x');
            book.wipe();
            book.sign(i);
            book.ofCode(i, 1);
            book.count(i % 12);
            book.entry(i, 0);
            book.reading(i % 6);
            book.read(i);
            book.bitsWith(4, i % 3);
            book.best(i % 3);
            book.tenderest(i % 2);
            book.cheapest(i % 2);
            book.save(i % 2);
            book.restore(0);
            book.undo();
        }
    }
}
