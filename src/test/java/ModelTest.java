/** Long runs of calls, ordinary and wrong ones, each answer compared with the model's. The numbers are drawn by a fixed rule. */
public final class ModelTest {
    private static final int RUNS = 400;
    private static final int CALLS = 512;
    private static final Due DUE = new Due();
    private static final int[] ODD = {Integer.MIN_VALUE, -7, -1, 240, 241, 511, 512, 600, Integer.MAX_VALUE};

    private long seed;
    private int run;
    /** An object is used for so many calls only: what later ones answer is free. */
    private int calls;
    private GrowingBook book;
    private Model model;
    /** How many signs the run likes: few of them make long phrases. */
    private int likes;

    public static void main(String[] arguments) {
        ModelTest test = new ModelTest();
        for (int run = 0; run < RUNS; run++) {
            test.begin(run);
            while (test.calls < CALLS) {
                test.call();
            }
        }
        DUE.end("ModelTest");
    }

    private void begin(int number) {
        run = number;
        calls = 0;
        seed = number * 7919L + 1;
        book = new GrowingBook();
        model = new Model();
        likes = 1 + draw(8);
    }

    private int draw(int below) {
        seed = seed * 6364136223846793005L + 1442695040888963407L;
        return (int) ((seed >>> 33) % below);
    }

    private int upTo(int most) {
        return draw(25) == 0 ? ODD[draw(ODD.length)] : draw(most + 1);
    }

    private void due(String call, long got, long want) {
        calls++;
        DUE.is("run " + run + ": " + call, got, want);
    }

    private void call() {
        int kind = draw(100);
        if (kind < 34) {
            change(draw(12));
        } else if (kind < 44) {
            text();
        } else if (kind < 52) {
            whatIf(draw(4));
        } else if (kind < 56) {
            due("undo", book.undo(), model.undo());
        } else {
            ask(draw(6));
        }
    }

    private void change(int kind) {
        int a;
        int b;
        switch (kind) {
            case 0:
                a = draw(20) == 0 ? upTo(3) : draw(3);
                b = a == 0 ? 3 + draw(8) : a == 1 ? draw(4) - draw(2) : 3 + draw(draw(2) == 0 ? 4 : 31);
                due("set " + a + " " + b, book.set(a, b), model.set(a, b));
                break;
            case 1: case 2: case 3:
                a = draw(20) == 0 ? upTo(8) : draw(likes);
                b = draw(4) == 0 ? 1 + draw(40) : upTo(3);
                due("add " + a + " " + b, book.add(a, b), model.add(a, b));
                break;
            case 4:
                a = draw(6) == 0 ? upTo(200) : upTo(12);
                due("cut " + a, book.cut(a), model.cut(a));
                break;
            case 5: case 6: case 7: case 8:
                a = upTo(Math.max(0, model.count(1) + 1));
                b = draw(3) == 0 ? upTo(511) : draw(2) == 0 ? 1 << draw(9) : towards(a);
                due("spoil " + a + " " + b, book.spoil(a, b), model.spoil(a, b));
                break;
            case 9:
                a = upTo(2);
                due("save " + a, book.save(a), model.save(a));
                break;
            case 10:
                a = upTo(2);
                due("restore " + a, book.restore(a), model.restore(a));
                break;
            default:
                due("wipe", book.wipe(), model.wipe());
                break;
        }
    }

    /** Bits that turn a code into one that can just stand, or just not. */
    private int towards(int code) {
        int entries = model.ofCode(code, 5);
        return entries < 0 ? 1 : (entries - 2 + draw(3)) ^ model.ofCode(code, 1);
    }

    private void text() {
        int kind = draw(8);
        if (kind == 0) {
            long number = (long) draw(1 << 30) << draw(35) | draw(1 << 30);
            due("put " + number, book.put(number), model.put(number));
        } else if (kind < 5) {
            StringBuilder text = new StringBuilder();
            piece(text, 0);
            if (draw(8) == 0) {
                text.setCharAt(draw(text.length()), "0123456789()ahi!~A"
                    .charAt(draw(18)));
            }
            int from = draw(10) == 0 ? draw(text.length()) : 0;
            for (int i = from; i < text.length() && calls + 2 <= CALLS; i += 8) {
                long number = Books.packed(text.substring(i, Math.min(i + 8, text.length())));
                due("put " + number, book.put(number), model.put(number));
                due("fault", book.fault(), model.fault());
            }
        } else if (kind < 7) {
            due("load", book.load(), model.load());
        } else {
            due("fault", book.fault(), model.fault());
        }
    }

    private void piece(StringBuilder text, int depth) {
        for (int more = 0; more == 0 || draw(3) == 0; more++) {
            if (draw(2) == 0) {
                text.append(draw(5) == 0 ? draw(70) : 2 + draw(4));
            }
            if (draw(3) == 0 && depth < 4) {
                text.append('(');
                piece(text, depth + 1);
                text.append(draw(40) == 0 ? "" : ")");
            } else {
                text.append((char) ('a' + draw(likes)));
            }
        }
    }

    private void whatIf(int kind) {
        int a;
        int b;
        switch (kind) {
            case 0:
                a = 3 + draw(8);
                b = draw(5) - 1;
                due("bitsWith " + a + " " + b, book.bitsWith(a, b), model.bitsWith(a, b));
                break;
            case 1:
                a = upTo(3);
                due("best " + a, book.best(a), model.best(a));
                break;
            case 2:
                a = upTo(2);
                due("tenderest " + a, book.tenderest(a), model.tenderest(a));
                break;
            default:
                a = upTo(2);
                due("cheapest " + a, book.cheapest(a), model.cheapest(a));
                break;
        }
    }

    private void ask(int kind) {
        int a;
        int b;
        switch (kind) {
            case 0:
                a = upTo(model.count(0));
                due("sign " + a, book.sign(a), model.sign(a));
                break;
            case 1:
                a = upTo(model.count(1));
                b = upTo(6);
                due("ofCode " + a + " " + b, book.ofCode(a, b), model.ofCode(a, b));
                break;
            case 2:
                a = upTo(12);
                due("count " + a, book.count(a), model.count(a));
                break;
            case 3:
                a = upTo(model.count(4));
                b = upTo(3);
                due("entry " + a + " " + b, book.entry(a, b), model.entry(a, b));
                break;
            case 4:
                a = upTo(6);
                due("reading " + a, book.reading(a), model.reading(a));
                break;
            default:
                a = upTo(model.reading(0));
                due("read " + a, book.read(a), model.read(a));
                break;
        }
    }
}
