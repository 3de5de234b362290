/** Long runs of calls, the same ones each time, each answer compared with the one of Model. */
public final class ModelTest {
    private static final int RUNS = 1500;
    /** A step makes some thirty calls at most: so a run stays inside the 512 of the document. */
    private static final int CALLS = 470;
    private static final int[] ODD = {Integer.MIN_VALUE, -1000006, -2, -1, 10, 25, 258, 1 << 30, Integer.MAX_VALUE};

    private static long seed = 1;
    private static BowSpeeches x;
    private static Model m;
    private static int run;
    private static int calls;

    public static void main(String[] args) {
        for (run = 0; run < RUNS; run++) {
            x = new BowSpeeches();
            m = new Model();
            calls = 0;
            while (calls < CALLS) {
                step();
            }
        }
        Check.end();
    }

    /** A number from 0 to below the bound, from a row that is the same in every run of this test. */
    private static int below(int bound) {
        seed = seed * 6364136223846793005L + 1442695040888963407L;
        return (int) ((seed >>> 33) % bound);
    }

    /** Mostly a number from low to high, now and then one beside them or far from them. */
    private static int near(int low, int high) {
        int kind = below(60);
        if (kind == 0) {
            return ODD[below(ODD.length)];
        }
        return kind <= 2 ? low - 1 + below(high - low + 3) : low + below(high - low + 1);
    }

    private static void due(int got, int want, String call, long... arguments) {
        calls++;
        StringBuilder told = new StringBuilder("run " + run + ", call " + calls + ": " + call + "(");
        for (long argument : arguments) {
            told.append(argument).append(' ');
        }
        Check.due(told.append(")").toString(), got, want);
    }

    private static void step() {
        int kind = below(100);
        if (kind < 16) {
            speak();
        } else if (kind < 36) {
            change(below(12));
        } else if (kind < 88) {
            ask(below(10));
        } else if (kind < 94) {
            write();
        } else {
            pads(below(6));
        }
    }

    private static void bow(int depth, int side, int pause) {
        due(x.bow(depth, side, pause), m.bow(depth, side, pause), "bow", depth, side, pause);
    }

    /** A sentence, now and then one that is awry, and a look at what it brought. */
    private static void speak() {
        int sentences = 1 + below(4);
        for (int i = 0; i < sentences; i++) {
            word(1);
            word(2);
            word(below(25) == 0 ? 2 : 1);
            if (below(5) == 0) {
                word(3);
            }
        }
        if (below(3) > 0) {
            ask(below(10));
            ask(below(10));
            due(x.give(), m.give(), "give");
        }
    }

    private static void word(int bows) {
        for (int i = 1; i <= bows; i++) {
            int pause = i == bows ? m.count(0) + below(10 - m.count(0)) : below(8) > 0 ? 0 : below(m.count(0));
            bow(1 + below(3), below(2), pause);
        }
    }

    private static void change(int which) {
        int a;
        int b;
        switch (which) {
            case 0:
                a = near(0, 2);
                b = near(1, 9);
                due(x.set(a, b), m.set(a, b), "set", a, b);
                break;
            case 1:
                a = near(0, 5);
                b = near(0, 2);
                due(x.eyes(a, b), m.eyes(a, b), "eyes", a, b);
                break;
            case 2:
            case 3:
                bow(near(1, 3), near(0, 1), near(0, 9));
                break;
            case 4:
                due(x.takeBack(), m.takeBack(), "takeBack");
                break;
            case 5:
                due(x.hush(), m.hush(), "hush");
                break;
            case 6:
                due(x.give(), m.give(), "give");
                break;
            case 7:
            case 8:
                due(x.undo(), m.undo(), "undo");
                break;
            case 9:
                a = near(0, 1);
                due(x.save(a), m.save(a), "save", a);
                break;
            case 10:
                a = near(0, 1);
                due(x.restore(a), m.restore(a), "restore", a);
                break;
            default:
                due(x.read(), m.read(), "read");
        }
    }

    private static void ask(int which) {
        int a = near(0, 5);
        int b = near(0, 5);
        int e = near(0, 2);
        int w = near(0, 3);
        int c;
        switch (which) {
            case 0:
                due(x.speech(e, w), m.speech(e, w), "speech", e, w);
                break;
            case 1:
                c = near(0, 12);
                due(x.word(e, c), m.word(e, c), "word", e, c);
                break;
            case 2:
                c = near(0, 3);
                due(x.sentence(e, c, w), m.sentence(e, c, w), "sentence", e, c, w);
                break;
            case 3:
                due(x.favour(a, b), m.favour(a, b), "favour", a, b);
                break;
            case 4:
            case 5:
                c = near(0, 9);
                due(x.count(c), m.count(c), "count", c);
                break;
            case 6:
                due(x.courtier(a, w), m.courtier(a, w), "courtier", a, w);
                break;
            case 7:
                due(x.ifGiven(a, b), m.ifGiven(a, b), "ifGiven", a, b);
                break;
            case 8:
                due(x.bestBow(), m.bestBow(), "bestBow");
                break;
            default:
                due(x.darling(), m.darling(), "darling");
        }
    }

    /** Bows as a text, now and then with a sign that does not belong there, mostly read at once. */
    private static void write() {
        StringBuilder text = new StringBuilder();
        int bows = 1 + below(6);
        for (int i = 0; i < bows; i++) {
            text.append((char) ('1' + below(3))).append(below(2) == 0 ? 'l' : 'r');
            if (below(2) == 0) {
                text.append('.').append((char) ('0' + below(10)));
            }
        }
        if (below(6) == 0) {
            text.setCharAt(below(text.length()), "123lr.0456LR,/:!~4".charAt(below(18)));
        }
        if (below(6) == 0) {
            text.setLength(below(text.length()) + 1);
        }
        for (int i = 0; i < text.length(); i += 8) {
            put(Bows.packed(text.substring(i, Math.min(i + 8, text.length()))));
        }
        due(x.fault(), m.fault(), "fault");
        if (below(4) > 0) {
            due(x.read(), m.read(), "read");
        }
        if (below(3) > 0) {
            due(x.wipe(), m.wipe(), "wipe");
        }
    }

    private static void put(long characters) {
        due(x.put(characters), m.put(characters), "put", characters);
    }

    private static void pads(int which) {
        switch (which) {
            case 0:
                due(x.wipe(), m.wipe(), "wipe");
                break;
            case 1:
                due(x.fault(), m.fault(), "fault");
                break;
            case 2:
                due(x.count(8), m.count(8), "count", 8);
                break;
            case 3:
                put((long) below(1 << 30) << 34 | (long) below(1 << 30) << 5 | below(32));
                break;
            case 4:
                put(Bows.packed("1l.32r") & ~(255L << 8 * below(8)));
                break;
            default:
                put((long) below(256) << 8 * below(8) | '1');
        }
    }
}
