import java.math.BigInteger;
import java.util.ArrayDeque;
import java.util.ArrayList;
import java.util.Arrays;
import java.util.List;
import java.util.TreeMap;
import java.util.regex.Pattern;

/** What the document says, once more and in the slowest form: texts, lists and patterns, all worked out anew at each call. */
final class Model {
    /** A state that is never changed: a change makes a new one. */
    record State(List<Integer> settings, String message, TreeMap<Integer, Integer> turned) { }

    record Code(int number, int width, int place, int signs, int entries) { }

    record Written(List<Code> codes, List<String> book, int longest) {
        int bits() {
            return codes.stream().mapToInt(Code::width).sum();
        }
    }

    record Reading(String signs, int faultPlace, int reason, int entries, int early) { }

    private static final int[][] RANGES = {{4, 9}, {0, 2}, {4, 32}};

    private State state = new State(List.of(6, 1, 8), "", new TreeMap<>());
    private final ArrayDeque<State> history = new ArrayDeque<>();
    private final State[] slots = new State[2];
    private String pad = "";

    static List<String> newBook() {
        return new ArrayList<>(List.of("a", "b", "c", "d", "e", "f", "g", "h", "", ""));
    }

    static Written write(String message, int widest, int policy, int window) {
        List<Code> codes = new ArrayList<>();
        List<String> book = newBook();
        List<Integer> sinceFull = new ArrayList<>();
        int longest = 0;
        String rest = message;
        while (!rest.isEmpty()) {
            String phrase = rest;
            while (!book.contains(phrase)) {
                phrase = phrase.substring(0, phrase.length() - 1);
            }
            boolean wasFull = book.size() == 1 << widest;
            codes.add(new Code(book.indexOf(phrase), width(book), message.length() - rest.length(), phrase.length(), book.size()));
            rest = rest.substring(phrase.length());
            if (wasFull) {
                sinceFull.add(phrase.length());
            } else if (!rest.isEmpty()) {
                book.add(phrase + rest.charAt(0));
                longest = Math.max(longest, phrase.length() + 1);
            }
            boolean full = book.size() == 1 << widest;
            if (!rest.isEmpty() && full && (policy == 1 || policy == 2 && loses(sinceFull, window))) {
                codes.add(new Code(8, width(book), -6, 0, book.size()));
                book = newBook();
                sinceFull.clear();
            }
        }
        codes.add(new Code(9, width(book), -6, 0, book.size()));
        return new Written(codes, book, longest);
    }

    private static boolean loses(List<Integer> since, int window) {
        int n = since.size();
        if (n < 2 * window) {
            return false;
        }
        int latest = since.subList(n - window, n).stream().mapToInt(i -> i).sum();
        int ahead = since.subList(n - 2 * window, n - window).stream().mapToInt(i -> i).sum();
        return latest < ahead;
    }

    private static int width(List<String> book) {
        return Math.max(4, BigInteger.valueOf(book.size() - 1).bitLength());
    }

    static Reading read(List<Integer> codes, int widest) {
        List<String> book = newBook();
        StringBuilder signs = new StringBuilder();
        String ahead = null;
        int early = 0;
        for (int place = 0; place < codes.size(); place++) {
            int code = codes.get(place);
            if (code == 9) {
                boolean last = place == codes.size() - 1;
                return new Reading(signs.toString(), last ? -6 : place + 1, last ? 0 : 3, book.size(), early);
            }
            if (code == 8) {
                book = newBook();
                ahead = null;
                continue;
            }
            boolean grows = ahead != null && book.size() < 1 << widest;
            String phrase;
            if (code < book.size()) {
                phrase = book.get(code);
            } else if (code == book.size() && grows) {
                phrase = ahead + ahead.charAt(0);
                early++;
            } else {
                return new Reading(signs.toString(), place, 1, book.size(), early);
            }
            if (grows) {
                book.add(ahead + phrase.charAt(0));
            }
            signs.append(phrase);
            ahead = phrase;
        }
        return new Reading(signs.toString(), codes.size(), 2, book.size(), early);
    }

    static int difference(String read, String message) {
        if (read.equals(message)) {
            return -6;
        }
        int place = 0;
        while (place < read.length() && place < message.length() && read.charAt(place) == message.charAt(place)) {
            place++;
        }
        return place;
    }

    private Written written() {
        return write(state.message, state.settings.get(0), state.settings.get(1), state.settings.get(2));
    }

    private List<Integer> coming() {
        List<Integer> row = new ArrayList<>();
        for (Code code : written().codes) {
            row.add(code.number ^ state.turned.getOrDefault(row.size(), 0));
        }
        return row;
    }

    private Reading asItComes() {
        return read(coming(), state.settings.get(0));
    }

    private void change(State next) {
        history.addLast(state);
        if (history.size() > 6) {
            history.removeFirst();
        }
        state = next;
    }

    private int changeMessage(String message) {
        change(new State(state.settings, message, new TreeMap<>()));
        return message.length();
    }

    int set(int setting, int value) {
        if (setting < 0 || setting > 2 || value < RANGES[setting][0] || value > RANGES[setting][1]) {
            return -2;
        }
        List<Integer> settings = new ArrayList<>(state.settings);
        int previous = settings.set(setting, value);
        change(new State(settings, state.message, new TreeMap<>()));
        return previous;
    }

    int add(int sign, int many) {
        if (sign < 0 || sign > 7 || many < 1 || many > 240) {
            return -2;
        }
        String message = state.message + "abcdefgh".substring(sign, sign + 1).repeat(many);
        return message.length() > 240 ? -4 : changeMessage(message);
    }

    int cut(int many) {
        if (many < 1 || many > 240) {
            return -2;
        }
        int left = state.message.length() - many;
        return left < 0 ? -5 : changeMessage(state.message.substring(0, left));
    }

    int spoil(int code, int bits) {
        if (code < 0 || code >= written().codes.size()) {
            return -1;
        }
        if (bits < 1 || bits > 511) {
            return -2;
        }
        TreeMap<Integer, Integer> turned = new TreeMap<>(state.turned);
        turned.merge(code, bits, (old, more) -> old ^ more);
        turned.values().removeIf(all -> all == 0);
        change(new State(state.settings, state.message, turned));
        return coming().get(code);
    }

    int put(long characters) {
        StringBuilder text = new StringBuilder();
        String hex = String.format("%016x", characters);
        for (int i = 0; i < 16; i += 2) {
            int character = Integer.parseInt(hex.substring(i, i + 2), 16);
            if (text.length() == 0 && character == 0) {
                continue;
            }
            if (character < 33 || character > 126) {
                return -2;
            }
            text.append((char) character);
        }
        if (text.length() == 0) {
            return -2;
        }
        if (pad.length() + text.length() > 80) {
            return -4;
        }
        pad += text;
        return pad.length();
    }

    int wipe() {
        int had = pad.length();
        pad = "";
        return had;
    }

    private static final String NUMBER = "(?:[2-9]|[1-5][0-9]|60)?";
    private static final Pattern TEXT = Pattern.compile(text(0));

    private static String text(int depth) {
        String deeper = depth == 3 ? "" : "|\\(" + text(depth + 1) + "\\)";
        return "(?:" + NUMBER + "(?:[a-h]" + deeper + "))+";
    }

    /** A character can stand at its place if some text that is right begins so. */
    private static boolean begins(String text) {
        for (String more : List.of("", "a", "0a")) {
            for (String ends : List.of("", ")", "))", ")))")) {
                if (TEXT.matcher(text + more + ends).matches()) {
                    return true;
                }
            }
        }
        return false;
    }

    int fault() {
        if (TEXT.matcher(pad).matches()) {
            return -6;
        }
        for (int i = 0; i < pad.length(); i++) {
            if (!begins(pad.substring(0, i + 1))) {
                return i;
            }
        }
        return pad.length();
    }

    /** The signs of a right text, or null if they are more than 240. */
    private static String spell(String text) {
        StringBuilder signs = new StringBuilder();
        for (int i = 0; i < text.length(); ) {
            int digits = i;
            while (Character.isDigit(text.charAt(i))) {
                i++;
            }
            int times = digits == i ? 1 : Integer.parseInt(text.substring(digits, i));
            String piece = text.substring(i, i + 1);
            int end = i + 1;
            if (piece.equals("(")) {
                for (int open = 1; open > 0; end++) {
                    open += text.charAt(end) == '(' ? 1 : text.charAt(end) == ')' ? -1 : 0;
                }
                piece = spell(text.substring(i + 1, end - 1));
            }
            if (piece == null || signs.length() + piece.length() * times > 240) {
                return null;
            }
            signs.append(piece.repeat(times));
            i = end;
        }
        return signs.toString();
    }

    int load() {
        if (fault() != -6) {
            return -3;
        }
        String signs = spell(pad);
        if (signs == null || state.message.length() + signs.length() > 240) {
            return -4;
        }
        pad = "";
        return changeMessage(state.message + signs);
    }

    int sign(int place) {
        return place < 0 || place >= state.message.length() ? -1 : state.message.charAt(place) - 'a';
    }

    int ofCode(int code, int what) {
        List<Code> codes = written().codes;
        if (code < 0 || code >= codes.size()) {
            return -1;
        }
        Code of = codes.get(code);
        List<Integer> row = List.of(of.number, coming().get(code), of.width, of.place, of.signs, of.entries);
        return what < 0 || what > 5 ? -2 : row.get(what);
    }

    int count(int what) {
        Written written = written();
        int clears = (int) written.codes.stream().filter(code -> code.number == 8).count();
        int[] row = {state.message.length(), written.codes.size(), written.bits(), clears, written.book.size(), written.longest,
            state.turned.size(), pad.length(), history.size(), state.settings.get(0), state.settings.get(1), state.settings.get(2)};
        return what < 0 || what > 11 ? -2 : row[what];
    }

    int entry(int entry, int what) {
        List<String> book = written().book;
        if (entry < 0 || entry >= book.size()) {
            return -1;
        }
        String phrase = book.get(entry);
        int n = phrase.length();
        switch (what) {
            case 0: return n;
            case 1: return n == 0 ? -6 : phrase.charAt(n - 1) - 'a';
            case 2: return n < 2 ? -6 : book.indexOf(phrase.substring(0, n - 1));
            default: return -2;
        }
    }

    int reading(int what) {
        Reading reading = asItComes();
        int[] row = {reading.signs.length(), reading.faultPlace, reading.reason, reading.entries, reading.early,
            difference(reading.signs, state.message)};
        return what < 0 || what > 5 ? -2 : row[what];
    }

    int read(int place) {
        String signs = asItComes().signs;
        return place < 0 || place >= signs.length() ? -1 : signs.charAt(place) - 'a';
    }

    int bitsWith(int widest, int policy) {
        boolean bad = widest < 4 || widest > 9 || policy < 0 || policy > 2;
        return bad ? -2 : write(state.message, widest, policy, state.settings.get(2)).bits();
    }

    int best(int what) {
        if (what < 0 || what > 2) {
            return -2;
        }
        List<int[]> all = new ArrayList<>();
        for (int widest = 4; widest <= 9; widest++) {
            for (int policy = 0; policy <= 2; policy++) {
                all.add(new int[] {bitsWith(widest, policy), widest, policy});
            }
        }
        all.sort(Arrays::compare);
        return what == 2 ? all.get(0)[0] : all.get(0)[1 + what];
    }

    int tenderest(int what) {
        if (what < 0 || what > 1) {
            return -2;
        }
        List<int[]> all = new ArrayList<>();
        List<Code> codes = written().codes;
        for (int turned = 0; turned < codes.size(); turned++) {
            List<Integer> row = new ArrayList<>();
            for (Code code : codes) {
                row.add(row.size() == turned ? code.number ^ 1 : code.number);
            }
            int difference = difference(read(row, state.settings.get(0)).signs, state.message);
            all.add(new int[] {difference == -6 ? state.message.length() : difference, turned});
        }
        all.sort(Arrays::compare);
        return all.get(0)[1 - what];
    }

    int cheapest(int what) {
        if (what < 0 || what > 1) {
            return -2;
        }
        if (state.message.length() == 240) {
            return -5;
        }
        List<int[]> all = new ArrayList<>();
        for (int sign = 0; sign < 8; sign++) {
            String message = state.message + (char) ('a' + sign);
            int bits = write(message, state.settings.get(0), state.settings.get(1), state.settings.get(2)).bits();
            all.add(new int[] {bits, sign});
        }
        all.sort(Arrays::compare);
        return all.get(0)[1 - what];
    }

    int undo() {
        if (history.isEmpty()) {
            return -5;
        }
        state = history.removeLast();
        return history.size();
    }

    int save(int slot) {
        if (slot < 0 || slot > 1) {
            return -2;
        }
        slots[slot] = state;
        return state.message.length();
    }

    int restore(int slot) {
        if (slot < 0 || slot > 1) {
            return -2;
        }
        if (slots[slot] == null) {
            return -5;
        }
        change(slots[slot]);
        return state.message.length();
    }
}
