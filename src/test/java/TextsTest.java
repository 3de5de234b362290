/** Promises 18 to 20. */
public final class TextsTest {
    private static final int BAD_VALUE = -1000002, TOO_MANY = -1000004, NONE = -1000006;

    public static void main(String[] args) {
        promise18Put();
        promise18Codes();
        promise18Gaps();
        promise18Full();
        promise19Wipe();
        promise20Fault();
        promise20EveryCharacter();
        promise20LongTexts();
        noChange();
        Check.end();
    }

    private static void promise18Put() {
        String text = "1r2l3r.4";
        for (int length = 1; length <= 8; length++) {
            BowSpeeches x = new BowSpeeches();
            Check.due("put() of " + length, x.put(Bows.packed(text.substring(0, length))), length);
            Check.due("count(8)", x.count(8), length);
            Check.due("put() of " + length + " more", x.put(Bows.packed(text.substring(0, length))), 2 * length);
        }
        // The lowest 8 bits are the last character.
        BowSpeeches x = new BowSpeeches();
        x.put('3' << 8 | 'r');
        Check.due("3r", x.read(), 1);
        Check.due("its number", x.takeBack(), 5);
        BowSpeeches y = new BowSpeeches();
        y.put(Bows.packed("1r3l.321"));
        Check.due("a pad of one piece", y.fault(), 7);
        y.put(Bows.packed("r"));
        Check.due("1r3l.321r", y.fault(), 7);
        y.wipe();
        y.put(Bows.packed("1r3l.32l"));
        y.put(Bows.packed(".9"));
        Check.due("a pad of two pieces", y.read(), 3);
        Check.due("word 0", y.word(0, 0), 6 + 6 * 1 + 4);
        Check.due("word 1", y.word(0, 1), 2);
    }

    private static void promise18Codes() {
        for (int code = 1; code < 256; code++) {
            boolean good = code >= 33 && code <= 126;
            for (int place = 0; place < 8; place++) {
                BowSpeeches x = new BowSpeeches();
                long characters = 0x3131313131313131L >>> 8 * (7 - place) & ~(255L << 8 * place) | (long) code << 8 * place;
                Check.due("put(" + characters + ")", x.put(characters), good ? place + 1 : BAD_VALUE);
                Check.due("the pad behind it", x.count(8), good ? place + 1 : 0);
            }
        }
        BowSpeeches x = new BowSpeeches();
        Check.due("eight, the lowest one wrong", x.put(Bows.packed("1l1l1l1") << 8 | 32), BAD_VALUE);
        Check.due("put(-1)", x.put(-1), BAD_VALUE);
        Check.due("put(Long.MIN_VALUE)", x.put(Long.MIN_VALUE), BAD_VALUE);
        Check.due("put(Long.MIN_VALUE + '1')", x.put(Long.MIN_VALUE + '1'), BAD_VALUE);
        Check.due("put(Long.MAX_VALUE)", x.put(Long.MAX_VALUE), BAD_VALUE);
        Check.due("the pad", x.count(8), 0);
        Check.due("eight times 126", x.put(0x7E7E7E7E7E7E7E7EL), 8);
        Check.due("eight times 33", x.put(0x2121212121212121L), 16);
    }

    private static void promise18Gaps() {
        BowSpeeches x = new BowSpeeches();
        Check.due("put(0)", x.put(0), BAD_VALUE);
        for (int gap = 0; gap < 7; gap++) {
            long below = gap == 0 ? 0 : 0x3131313131313131L >>> 8 * (8 - gap);
            for (int bit = 8 * (gap + 1); bit < 64; bit++) {
                Check.due("bit " + bit + " above a gap at " + gap, x.put(below | 1L << bit), BAD_VALUE);
            }
            for (int place = gap + 1; place < 8; place++) {
                Check.due("character " + place + " above a gap at " + gap, x.put(below | (long) '1' << 8 * place), BAD_VALUE);
            }
        }
        Check.due("the pad", x.count(8), 0);
    }

    private static void promise18Full() {
        for (int length = 53; length <= 60; length++) {
            BowSpeeches x = Bows.withText("x".repeat(length));
            Check.due("length", x.count(8), length);
            for (int more = 1; more <= 8; more++) {
                BowSpeeches y = Bows.withText("x".repeat(length));
                boolean room = length + more <= 60;
                Check.due(more + " behind " + length, y.put(Bows.packed("12345678".substring(0, more))), room ? length + more : TOO_MANY);
                Check.due("length then", y.count(8), room ? length + more : length);
            }
            Check.due("a bad value goes first", x.put(32), BAD_VALUE);
            Check.due("none goes first", x.put(0), BAD_VALUE);
            Check.due("a gap goes first", x.put(0x3131313131310031L), BAD_VALUE);
        }
        // All 60 characters are kept.
        BowSpeeches x = Bows.withText("1l.11l.21l.01l.11l.21l.01l.11l.21l.01l.11l.21l.01l.11l.23r.9");
        Check.due("length", x.count(8), 60);
        Check.due("no room", x.put('1'), TOO_MANY);
        Check.due("fault()", x.fault(), NONE);
        Check.due("read()", x.read(), 15);
        Check.due("the last one", x.takeBack(), 5);
    }

    private static void promise19Wipe() {
        BowSpeeches x = new BowSpeeches();
        Check.due("wipe() of nothing", x.wipe(), 0);
        for (int length = 1; length <= 60; length++) {
            Bows.write(x, "1".repeat(length));
            Check.due("wipe()", x.wipe(), length);
            Check.due("the pad is empty", x.count(8), 0);
        }
        Check.due("wipe() again", x.wipe(), 0);
        Bows.write(x, "1l");
        x.wipe();
        Bows.write(x, "3r");
        Check.due("nothing is left of it", x.read(), 1);
        Check.due("the bow", x.takeBack(), 5);
    }

    private static void fault(String text, int due) {
        Check.due("fault() of " + text, Bows.withText(text).fault(), due);
    }

    private static void promise20Fault() {
        fault("", 0);
        fault("1", 1);
        fault("3", 1);
        fault("0", 0);
        fault("4", 0);
        fault("l", 0);
        fault(".", 0);
        fault("1l", NONE);
        fault("3r", NONE);
        fault("1L", 1);
        fault("1R", 1);
        fault("11", 1);
        fault("1.", 1);
        fault("1l.", 3);
        fault("1l.0", NONE);
        fault("1l.9", NONE);
        fault("1l.l", 3);
        fault("1l..", 3);
        fault("1l.:", 3);
        fault("1l./", 3);
        fault("1l.10", 4);
        fault("1l.11", 5);
        fault("1l.1.", 4);
        fault("1l.1.1", 4);
        fault("1l.1l", 4);
        fault("1ll", 2);
        fault("1l0", 2);
        fault("1l3", 3);
        fault("1l4", 2);
        fault("1l3r", NONE);
        fault("1l.33r", NONE);
        fault("1l.33r.", 7);
        fault("1l.33r.0", NONE);
        fault("1l,3", 2);
        fault("x1l", 0);
        fault("1l1l1lx1", 6);
    }

    /** Each character at each kind of place. */
    private static void promise20EveryCharacter() {
        for (char c = 33; c <= 126; c++) {
            boolean depth = c >= '1' && c <= '3';
            boolean side = c == 'l' || c == 'r';
            boolean digit = c >= '0' && c <= '9';
            fault("" + c, depth ? 1 : 0);
            fault("2" + c, side ? NONE : 1);
            fault("2r" + c, depth || c == '.' ? 3 : 2);
            fault("2r." + c, digit ? NONE : 3);
            fault("2r.7" + c, depth ? 5 : 4);
            fault("2r.71" + c, side ? NONE : 5);
        }
    }

    private static void promise20LongTexts() {
        fault("1l".repeat(30), NONE);
        fault("3r.5".repeat(15), NONE);
        fault("1l".repeat(29) + "1", 59);
        fault("1l".repeat(29) + "1x", 59);
        fault("1l.1".repeat(14) + "1l.", 59);
        fault("1l.1".repeat(14) + "1l.x", 59);
        fault("1l".repeat(29) + ".1", NONE);
        fault("1l".repeat(28) + ".11.", 59);
        fault("1".repeat(60), 1);
        BowSpeeches x = Bows.withText("1l");
        for (int time = 0; time < 3; time++) {
            Check.due("fault() again", x.fault(), NONE);
        }
        x.put('.');
        Check.due("fault() of 1l.", x.fault(), 3);
        x.put('7');
        Check.due("fault() of 1l.7", x.fault(), NONE);
    }

    private static void noChange() {
        BowSpeeches x = new BowSpeeches();
        x.put('1');
        x.put('l');
        x.fault();
        x.wipe();
        Check.due("texts are no changes", x.count(9), 0);
    }
}
