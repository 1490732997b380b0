import java.util.Arrays;

/**
 * A message that is written as codes of phrases, and read again: see DOC.md for the promises.
 *
 * All rows are made in constructors and used again, so that no call makes an object.
 */
public final class GrowingBook {
    public static final int NO_SUCH = -1, BAD_VALUE = -2, BAD_TEXT = -3, TOO_MANY = -4, NOT_POSSIBLE = -5, NONE = -6;
    public static final int WIDEST = 0, POLICY = 1, WINDOW = 2;
    public static final int CLEAR = 8, END = 9;

    private static final int SIGNS = 8;
    private static final int FIRST_PHRASE = 10;
    private static final int MOST_SIGNS = 240;
    private static final int MOST_ENTRIES = 512;
    private static final int MOST_BITS = 511;
    private static final int MOST_CHARACTERS = 80;
    private static final int MOST_UNDONE = 6;
    private static final int SLOTS = 2;

    // Each code but CLEAR and END takes a sign; ahead of each CLEAR the book grew by six phrases or more.
    private static final int MOST_CODES = MOST_SIGNS + MOST_SIGNS / 6 + 1;

    // Spoiled codes can be read as phrases of 1, 2, 3 .. signs, each of them longer by one than the one ahead.
    private static final int MOST_READ = MOST_CODES * (MOST_CODES + 1) / 2;

    // Above the bits of all codes and above all signs, so that the first one that is looked at is fewer.
    private static final int ABOVE_ALL = 1 << 30;

    private static final int[] LOWEST = {4, 0, 4};
    private static final int[] HIGHEST = {9, 2, 32};
    private static final int[] FIRST = {6, 1, 8};

    private final State now = new State();
    private final History history = new History();
    private final State[] slots = new State[SLOTS];
    private final boolean[] saved = new boolean[SLOTS];
    private final Pad pad = new Pad();
    private final Writer writer = new Writer();
    private final Reader reader = new Reader();
    private final int[] coming = new int[MOST_CODES];

    // The questions "what if" have rows of their own, as they must change nothing.
    private final Writer trialWriter = new Writer();
    private final Reader trialReader = new Reader();
    private final int[] trialCodes = new int[MOST_CODES];

    public GrowingBook() {
        for (int slot = 0; slot < SLOTS; slot++) {
            slots[slot] = new State();
        }
        refresh();
    }

    // ---- settings, the message

    public int set(int setting, int value) {
        if (!isSetting(setting, value)) {
            return BAD_VALUE;
        }
        history.record(now);
        int previous = now.settings[setting];
        now.settings[setting] = value;
        now.mendCodes();
        refresh();
        return previous;
    }

    public int add(int sign, int many) {
        if (sign < 0 || sign >= SIGNS || many < 1 || many > MOST_SIGNS) {
            return BAD_VALUE;
        }
        if (now.length + many > MOST_SIGNS) {
            return TOO_MANY;
        }
        history.record(now);
        Arrays.fill(now.signs, now.length, now.length + many, sign);
        now.length += many;
        now.mendCodes();
        refresh();
        return now.length;
    }

    public int cut(int many) {
        if (many < 1 || many > MOST_SIGNS) {
            return BAD_VALUE;
        }
        if (many > now.length) {
            return NOT_POSSIBLE;
        }
        history.record(now);
        now.length -= many;
        now.mendCodes();
        refresh();
        return now.length;
    }

    public int spoil(int code, int bits) {
        if (!isCode(code)) {
            return NO_SUCH;
        }
        if (bits < 1 || bits > MOST_BITS) {
            return BAD_VALUE;
        }
        history.record(now);
        now.turned[code] ^= bits;
        refresh();
        return coming[code];
    }

    // ---- texts

    public int put(long characters) {
        int many = Pad.charactersIn(characters);
        if (many == 0) {
            return BAD_VALUE;
        }
        if (pad.length + many > MOST_CHARACTERS) {
            return TOO_MANY;
        }
        pad.append(characters, many);
        return pad.length;
    }

    public int wipe() {
        int had = pad.length;
        pad.length = 0;
        return had;
    }

    public int fault() {
        return pad.findFault();
    }

    public int load() {
        if (pad.findFault() != NONE) {
            return BAD_TEXT;
        }
        int many = pad.spell();
        if (now.length + many > MOST_SIGNS) {
            return TOO_MANY;
        }
        history.record(now);
        System.arraycopy(pad.spelled, 0, now.signs, now.length, many);
        now.length += many;
        pad.length = 0;
        now.mendCodes();
        refresh();
        return now.length;
    }

    // ---- what there is

    public int sign(int place) {
        return place < 0 || place >= now.length ? NO_SUCH : now.signs[place];
    }

    public int ofCode(int code, int what) {
        if (!isCode(code)) {
            return NO_SUCH;
        }
        switch (what) {
            case 0: return writer.numbers[code];
            case 1: return coming[code];
            case 2: return writer.widths[code];
            case 3: return writer.places[code];
            case 4: return writer.lengths[code];
            case 5: return writer.books[code];
            default: return BAD_VALUE;
        }
    }

    public int count(int what) {
        switch (what) {
            case 0: return now.length;
            case 1: return writer.codes;
            case 2: return writer.bits;
            case 3: return writer.clears;
            case 4: return writer.book.entries;
            case 5: return writer.longest;
            case 6: return now.countSpoiled();
            case 7: return pad.length;
            case 8: return history.held;
            case 9: return now.settings[WIDEST];
            case 10: return now.settings[POLICY];
            case 11: return now.settings[WINDOW];
            default: return BAD_VALUE;
        }
    }

    public int entry(int entry, int what) {
        if (entry < 0 || entry >= writer.book.entries || entry >= MOST_ENTRIES) {
            return NO_SUCH;
        }
        switch (what) {
            case 0: return writer.book.lengths[entry];
            case 1: return writer.book.lastSigns[entry];
            case 2: return writer.book.shorter[entry];
            default: return BAD_VALUE;
        }
    }

    // ---- reading

    public int reading(int what) {
        switch (what) {
            case 0: return reader.many;
            case 1: return reader.faultPlace;
            case 2: return reader.reason;
            case 3: return reader.entries;
            case 4: return reader.early;
            case 5: return reader.firstDifference(now.signs, now.length);
            default: return BAD_VALUE;
        }
    }

    public int read(int place) {
        return place < 0 || place >= reader.many || place >= MOST_READ ? NO_SUCH : reader.signs[place];
    }

    // ---- what if; nothing changes

    public int bitsWith(int widest, int policy) {
        if (!isSetting(WIDEST, widest) || !isSetting(POLICY, policy)) {
            return BAD_VALUE;
        }
        return trialBits(now.length, widest, policy);
    }

    public int best(int what) {
        if (what < 0 || what > 2) {
            return BAD_VALUE;
        }
        int bestWidest = NONE;
        int bestPolicy = NONE;
        int fewest = ABOVE_ALL;
        for (int widest = LOWEST[WIDEST]; widest <= HIGHEST[WIDEST]; widest++) {
            for (int policy = LOWEST[POLICY]; policy <= HIGHEST[POLICY]; policy++) {
                int bits = trialBits(now.length, widest, policy);
                if (bits < fewest) {
                    bestWidest = widest;
                    bestPolicy = policy;
                    fewest = bits;
                }
            }
        }
        return what == 0 ? bestWidest : what == 1 ? bestPolicy : fewest;
    }

    public int tenderest(int what) {
        if (what != 0 && what != 1) {
            return BAD_VALUE;
        }
        int tender = 0;
        int fewest = ABOVE_ALL;
        // No code can leave fewer signs than none, so the search may end there.
        for (int code = 0; code < writer.codes && fewest > 0; code++) {
            int left = signsLeft(code);
            if (left < fewest) {
                tender = code;
                fewest = left;
            }
        }
        return what == 0 ? tender : fewest;
    }

    public int cheapest(int what) {
        if (what != 0 && what != 1) {
            return BAD_VALUE;
        }
        if (now.length >= MOST_SIGNS) {
            return NOT_POSSIBLE;
        }
        int cheap = 0;
        int fewest = ABOVE_ALL;
        for (int sign = 0; sign < SIGNS; sign++) {
            // What stands behind the end of the message is no part of it: it may be written over.
            now.signs[now.length] = sign;
            int bits = trialBits(now.length + 1, now.settings[WIDEST], now.settings[POLICY]);
            if (bits < fewest) {
                cheap = sign;
                fewest = bits;
            }
        }
        return what == 0 ? cheap : fewest;
    }

    // ---- undo, saving

    public int undo() {
        if (history.held == 0) {
            return NOT_POSSIBLE;
        }
        history.takeBack(now);
        refresh();
        return history.held;
    }

    public int save(int slot) {
        if (slot < 0 || slot >= SLOTS) {
            return BAD_VALUE;
        }
        copyState(now, slots[slot]);
        saved[slot] = true;
        return now.length;
    }

    public int restore(int slot) {
        if (slot < 0 || slot >= SLOTS) {
            return BAD_VALUE;
        }
        if (!saved[slot]) {
            return NOT_POSSIBLE;
        }
        history.record(now);
        copyState(slots[slot], now);
        refresh();
        return now.length;
    }

    // ---- parts of the above

    private static boolean isSetting(int setting, int value) {
        return setting >= WIDEST && setting <= WINDOW && value >= LOWEST[setting] && value <= HIGHEST[setting];
    }

    private boolean isCode(int code) {
        return code >= 0 && code < writer.codes && code < MOST_CODES;
    }

    /** Writes and reads anew: what the object answers about codes is always of the state as it is now. */
    private void refresh() {
        writer.writeOut(now.signs, now.length, now.settings[WIDEST], now.settings[POLICY], now.settings[WINDOW]);
        for (int code = 0; code < writer.codes; code++) {
            coming[code] = writer.numbers[code] ^ now.turned[code];
        }
        reader.readAll(coming, writer.codes, now.settings[WIDEST]);
    }

    private int trialBits(int length, int widest, int policy) {
        trialWriter.writeOut(now.signs, length, widest, policy, now.settings[WINDOW]);
        return trialWriter.bits;
    }

    /** How many signs are read ahead of the first difference if the lowest bit of this code alone is turned. */
    private int signsLeft(int code) {
        System.arraycopy(writer.numbers, 0, trialCodes, 0, writer.codes);
        trialCodes[code] ^= 1;
        trialReader.readAll(trialCodes, writer.codes, now.settings[WIDEST]);
        int difference = trialReader.firstDifference(now.signs, now.length);
        return difference == NONE ? now.length : difference;
    }

    private static void copyState(State from, State to) {
        if (from == null || to == null) {
            return;
        }
        System.arraycopy(from.settings, 0, to.settings, 0, from.settings.length);
        System.arraycopy(from.signs, 0, to.signs, 0, MOST_SIGNS);
        System.arraycopy(from.turned, 0, to.turned, 0, MOST_CODES);
        to.length = from.length;
    }

    /** What undo and restore bring back. */
    private static final class State {
        final int[] settings = FIRST.clone();
        final int[] signs = new int[MOST_SIGNS];
        final int[] turned = new int[MOST_CODES];
        int length;

        void mendCodes() {
            Arrays.fill(turned, 0);
        }

        int countSpoiled() {
            int spoiled = 0;
            for (int code = 0; code < MOST_CODES; code++) {
                spoiled += turned[code] != 0 ? 1 : 0;
            }
            return spoiled;
        }
    }

    /** The latest states in a ring, so that the oldest one is dropped by being written over. */
    private static final class History {
        final State[] states = new State[MOST_UNDONE];
        int latest;
        int held;

        History() {
            for (int place = 0; place < MOST_UNDONE; place++) {
                states[place] = new State();
            }
        }

        void record(State state) {
            latest = latest >= MOST_UNDONE - 1 ? 0 : latest + 1;
            held = Math.min(held + 1, MOST_UNDONE);
            copyState(state, states[latest]);
        }

        void takeBack(State state) {
            copyState(states[latest], state);
            latest = latest <= 0 ? MOST_UNDONE - 1 : latest - 1;
            held--;
        }
    }

    /** The text that is put together before it is loaded. */
    private static final class Pad {
        static final int DEEPEST = 3;
        static final int HIGHEST_NUMBER = 60;
        static final int CHARACTERS_AT_ONCE = 8;

        final int[] characters = new int[MOST_CHARACTERS];
        final int[] spelled = new int[MOST_SIGNS];
        final int[] begins = new int[DEEPEST];
        final int[] times = new int[DEEPEST];
        int length;

        /** How many characters a number holds, 0 if it holds none or what is no character. */
        static int charactersIn(long packed) {
            long rest = packed;
            int many = 0;
            while (many < CHARACTERS_AT_ONCE && (rest & 255) != 0) {
                if ((rest & 255) < 33 || (rest & 255) > 126) {
                    return 0;
                }
                rest >>>= 8;
                many++;
            }
            return rest == 0 ? many : 0;
        }

        void append(long packed, int many) {
            for (int left = many - 1; left >= 0 && length < MOST_CHARACTERS; left--) {
                characters[length] = (int) (packed >>> (8 * left)) & 255;
                length++;
            }
        }

        static boolean isDigit(int character) {
            return character >= '0' && character <= '9';
        }

        static boolean isSign(int character) {
            return character >= 'a' && character < 'a' + SIGNS;
        }

        int findFault() {
            int depth = 0;
            int number = 0;
            boolean pieceStands = false;
            for (int place = 0; place < length; place++) {
                int character = characters[place];
                if (isDigit(character)) {
                    number = number * 10 + character - '0';
                    if (number == 0 || number > HIGHEST_NUMBER) {
                        return place;
                    }
                } else if (isSign(character)) {
                    if (number == 1) {
                        return place;
                    }
                    number = 0;
                    pieceStands = true;
                } else if (character == '(') {
                    if (number == 1 || depth == DEEPEST) {
                        return place;
                    }
                    depth++;
                    number = 0;
                    pieceStands = false;
                } else if (character == ')') {
                    if (number != 0 || depth == 0 || !pieceStands) {
                        return place;
                    }
                    depth--;
                } else {
                    return place;
                }
            }
            return number != 0 || depth != 0 || !pieceStands ? length : NONE;
        }

        /** Spells a text without fault into signs; returns how many, or more than fit if they are too many. */
        int spell() {
            int depth = 0;
            int number = 0;
            int many = 0;
            for (int place = 0; place < length && many <= MOST_SIGNS; place++) {
                int character = characters[place];
                if (isDigit(character)) {
                    number = number * 10 + character - '0';
                } else if (character == '(' && depth < DEEPEST) {
                    begins[depth] = many;
                    times[depth] = Math.max(number, 1);
                    depth++;
                    number = 0;
                } else if (character == ')' && depth > 0) {
                    depth--;
                    many = repeat(begins[depth], many, times[depth]);
                } else {
                    many = spellSign(many, character - 'a', Math.max(number, 1));
                    number = 0;
                }
            }
            return many;
        }

        private int spellSign(int many, int sign, int times) {
            if (many + times > MOST_SIGNS) {
                return MOST_SIGNS + 1;
            }
            Arrays.fill(spelled, many, many + times, sign);
            return many + times;
        }

        private int repeat(int from, int to, int times) {
            int end = from + (to - from) * times;
            if (end > MOST_SIGNS) {
                return MOST_SIGNS + 1;
            }
            for (int place = to; place < end; place++) {
                spelled[place] = spelled[place - (to - from)];
            }
            return end;
        }
    }

    /** The writer's entries; each one knows the entries that are longer than it by one sign. */
    private static final class Book {
        final int[] shorter = new int[MOST_ENTRIES];
        final int[] lastSigns = new int[MOST_ENTRIES];
        final int[] lengths = new int[MOST_ENTRIES];
        // 0 where there is none, as no phrase has the number 0.
        final int[] longer = new int[MOST_ENTRIES * SIGNS];
        int entries;

        Book() {
            for (int entry = 0; entry < FIRST_PHRASE; entry++) {
                shorter[entry] = NONE;
                lastSigns[entry] = entry < SIGNS ? entry : NONE;
                lengths[entry] = entry < SIGNS ? 1 : 0;
            }
            entries = FIRST_PHRASE;
        }

        void dropPhrases() {
            entries = FIRST_PHRASE;
            Arrays.fill(longer, 0, FIRST_PHRASE * SIGNS, 0);
        }

        void addPhrase(int entry, int sign) {
            if (entries >= MOST_ENTRIES) {
                return;
            }
            shorter[entries] = entry;
            lastSigns[entries] = sign;
            lengths[entries] = lengths[entry] + 1;
            longer[entry * SIGNS + sign] = entries;
            // Its row may be left over from a book that was cleared.
            Arrays.fill(longer, entries * SIGNS, (entries + 1) * SIGNS, 0);
            entries++;
        }

        int longestAt(int[] signs, int place, int end) {
            int entry = signs[place];
            for (int next = place + 1; next < end; next++) {
                int more = longer[entry * SIGNS + signs[next]];
                if (more == 0) {
                    return entry;
                }
                entry = more;
            }
            return entry;
        }
    }

    /** Writes a message; afterwards it holds the codes and the book at the end. */
    private static final class Writer {
        final Book book = new Book();
        final int[] numbers = new int[MOST_CODES];
        final int[] widths = new int[MOST_CODES];
        final int[] places = new int[MOST_CODES];
        final int[] lengths = new int[MOST_CODES];
        final int[] books = new int[MOST_CODES];
        int codes;
        int bits;
        int clears;
        int longest;
        private int full;
        // Holds only while the book is full.
        private int firstSinceFull;

        void writeOut(int[] signs, int length, int widest, int policy, int window) {
            begin(widest);
            int place = 0;
            for (int step = 0; step < MOST_SIGNS && place < length; step++) {
                int entry = book.longestAt(signs, place, length);
                writeCode(entry, place, book.lengths[entry]);
                place += book.lengths[entry];
                if (place < length) {
                    grow(entry, signs[place]);
                    if (mustClear(policy, window)) {
                        writeCode(CLEAR, NONE, 0);
                        clears++;
                        book.dropPhrases();
                    }
                }
            }
            writeCode(END, NONE, 0);
        }

        private void begin(int widest) {
            book.dropPhrases();
            full = 1 << widest;
            codes = 0;
            bits = 0;
            clears = 0;
            longest = 0;
        }

        private void writeCode(int number, int place, int length) {
            if (codes >= MOST_CODES) {
                return;
            }
            int width = bitsOf(book.entries - 1);
            numbers[codes] = number;
            widths[codes] = width;
            places[codes] = place;
            lengths[codes] = length;
            books[codes] = book.entries;
            bits += width;
            codes++;
        }

        private static int bitsOf(int number) {
            int width = LOWEST[WIDEST];
            while (width < HIGHEST[WIDEST] && number >> width != 0) {
                width++;
            }
            return width;
        }

        private void grow(int entry, int sign) {
            if (book.entries >= full) {
                return;
            }
            book.addPhrase(entry, sign);
            longest = Math.max(longest, book.lengths[entry] + 1);
            // Where it becomes full now, the next code is the first one since.
            firstSinceFull = codes;
        }

        private boolean mustClear(int policy, int window) {
            if (policy == 0 || book.entries < full) {
                return false;
            }
            return policy == 1 || losesBy(window);
        }

        private boolean losesBy(int window) {
            if (codes - firstSinceFull < 2 * window) {
                return false;
            }
            return signsOf(codes - window, codes) < signsOf(codes - 2 * window, codes - window);
        }

        private int signsOf(int from, int to) {
            int sum = 0;
            for (int code = from; code < to; code++) {
                sum += lengths[code];
            }
            return sum;
        }
    }

    /**
     * Reads codes; afterwards it holds the signs, the fault and the number of entries.
     * A phrase is the signs of the code ahead with the next one that was read behind them: they stand side by
     * side in what was read, so that a phrase is a place there and a length.
     */
    private static final class Reader {
        final int[] signs = new int[MOST_READ];
        int many;
        int entries;
        int early;
        int faultPlace;
        int reason;
        private final int[] begins = new int[MOST_ENTRIES];
        private final int[] lengths = new int[MOST_ENTRIES];
        private int full;
        private int aheadBegin;
        // 0 if there was no code for an entry since the last CLEAR.
        private int aheadLength;

        void readAll(int[] codes, int count, int widest) {
            begin(widest);
            for (int place = 0; place < count; place++) {
                int code = codes[place];
                if (code == END) {
                    if (place + 1 < count) {
                        noteFault(place + 1, 3);
                    }
                    return;
                }
                if (code == CLEAR) {
                    dropPhrases();
                } else if (canStand(code)) {
                    readEntry(code);
                } else {
                    noteFault(place, 1);
                    return;
                }
            }
            noteFault(count, 2);
        }

        private void begin(int widest) {
            full = 1 << widest;
            many = 0;
            early = 0;
            faultPlace = NONE;
            reason = 0;
            dropPhrases();
        }

        private void dropPhrases() {
            entries = FIRST_PHRASE;
            aheadLength = 0;
        }

        private void noteFault(int place, int why) {
            faultPlace = place;
            reason = why;
        }

        private boolean canGrow() {
            return aheadLength > 0 && entries < full && entries < MOST_ENTRIES;
        }

        private boolean canStand(int code) {
            return code >= 0 && (code < entries || code == entries && canGrow());
        }

        private void readEntry(int code) {
            early += code == entries ? 1 : 0;
            if (canGrow()) {
                begins[entries] = aheadBegin;
                lengths[entries] = aheadLength + 1;
                entries++;
            }
            aheadBegin = many;
            if (code < SIGNS) {
                aheadLength = 1;
                readSign(code);
            } else {
                aheadLength = lengths[code];
                readPhrase(begins[code], lengths[code]);
            }
        }

        // Sign by sign from the front: the last sign of a phrase that is not finished yet is the first one read here.
        private void readPhrase(int begin, int length) {
            for (int place = begin; place < begin + length && place < many; place++) {
                readSign(signs[place]);
            }
        }

        private void readSign(int sign) {
            if (many < MOST_READ) {
                signs[many] = sign;
                many++;
            }
        }

        int firstDifference(int[] message, int length) {
            int both = Math.min(many, length);
            for (int place = 0; place < both; place++) {
                if (signs[place] != message[place]) {
                    return place;
                }
            }
            return many == length ? NONE : both;
        }
    }
}
