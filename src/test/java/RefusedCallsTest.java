import java.util.List;
import java.util.function.Consumer;
import java.util.function.ToIntFunction;

/**
 * For each call that is refused: the error that is due, the first one where several apply, and that all is as it would
 * be without the call. At the end the same for calls that only look.
 */
public final class RefusedCallsTest {
    private static final int NO_SUCH = -1000001, BAD_VALUE = -1000002, BAD_TEXT = -1000003, TOO_MANY = -1000004,
            NOT_POSSIBLE = -1000005;
    private static final int MIN = Integer.MIN_VALUE, MAX = Integer.MAX_VALUE;
    private static final int[] NO_COURTIERS = {MIN, -1, 6, MAX};
    private static final int[] NO_EYES = {MIN, -1, 3, MAX};
    private static final int[] NO_SLOTS = {MIN, -1, 2, MAX};

    /** Five, one for each reason, and one that only eyes 2 understand. */
    private static final String[] NOTHING_SAID = {"", "1l.31l1l.31r.31l1l1l1l", "1l.31l1l.3", "1l.31r.32l", "1l.31l1l.31l",
        "1l.11l1l.11r"};

    private static final Consumer<BowSpeeches> FRESH = x -> { };
    private static final Consumer<BowSpeeches> RICH = RefusedCallsTest::rich;
    private static final Consumer<BowSpeeches> FULL = RefusedCallsTest::full;
    private static final Consumer<BowSpeeches> EXTREME = RefusedCallsTest::extreme;
    private static final List<Consumer<BowSpeeches>> ALL = List.of(FRESH, RICH, FULL, EXTREME);

    public static void main(String[] args) {
        promise2Set();
        promise3Eyes();
        promise4Bow();
        promise5TakeBack();
        promise6Read();
        promise8Give();
        promise9Speech();
        promise10Word();
        promise11Sentence();
        promise12Favour();
        promise13Count();
        promise14Courtier();
        promise15IfGiven();
        promise18Put();
        promise21Undo();
        promise22Save();
        promise23Restore();
        looks();
        Check.end();
    }

    // ---- states

    /** Different from a new object in all that there is: slots, history, pad, favours, eyes, settings, bows. */
    private static void rich(BowSpeeches x) {
        Bows.sayKind(x, 4, 1);
        x.save(0);
        x.eyes(1, 1);
        x.eyes(2, 2);
        x.give();
        x.set(1, 7);
        x.save(1);
        Bows.write(x, "3r.31l.13r.32l.43l3l3l.3");
        x.read();
        x.set(2, 6);
        Bows.write(x, "2l.x");
    }

    /** Bows, pad, history and slots are full; the pad has a fault. */
    private static void full(BowSpeeches x) {
        rich(x);
        for (int bow = x.count(3); bow < 24; bow++) {
            x.bow(2, 1, bow % 10);
        }
        x.wipe();
        Bows.write(x, "2l.9".repeat(14) + "1r.x");
    }

    /** As full, but the text of the pad can be read. */
    private static void fullAndReadable(BowSpeeches x) {
        full(x);
        x.wipe();
        Bows.write(x, "2l.9".repeat(15));
    }

    /** Favours of 99 and -99, settings at their ends, a speech that can be given. */
    private static void extreme(BowSpeeches x) {
        x.set(1, 9);
        x.set(2, 9);
        Bows.giveTimes(x, 6, true, 0, 5);
        Bows.giveTimes(x, 6, false, 5, 0);
        x.save(0);
        Bows.sayKind(x, 0, 5);
        Bows.sayUnkind(x, 5, 0);
        x.save(1);
        Bows.write(x, "1l.3");
    }

    private static Consumer<BowSpeeches> behind(Consumer<BowSpeeches> first, Consumer<BowSpeeches> then) {
        return first.andThen(then);
    }

    // ---- what is looked at

    private static void refused(Consumer<BowSpeeches> state, String call, ToIntFunction<BowSpeeches> answer, int due) {
        Look.changesNothing(call, state, answer, due);
    }

    private static void refused(String call, ToIntFunction<BowSpeeches> answer, int due) {
        for (int state = 0; state < ALL.size(); state++) {
            refused(ALL.get(state), call + " in state " + state, answer, due);
        }
    }

    // ---- changes

    private static void promise2Set() {
        Check.about("2: BAD_VALUE if there is no such setting");
        for (int setting : new int[] {MIN, -1, 3, MAX}) {
            refused("set(" + setting + ", 3)", x -> x.set(setting, 3), BAD_VALUE);
        }
        Check.about("2: BAD_VALUE if value is out of its range");
        for (int setting = 0; setting < 3; setting++) {
            int s = setting;
            for (int value : new int[] {MIN, s == 0 ? 1 : 0, 10, MAX}) {
                refused("set(" + s + ", " + value + ")", x -> x.set(s, value), BAD_VALUE);
            }
        }
    }

    private static void promise3Eyes() {
        Check.about("3: NO_SUCH if there is no such courtier");
        for (int courtier : NO_COURTIERS) {
            refused("eyes(" + courtier + ", 2)", x -> x.eyes(courtier, 2), NO_SUCH);
        }
        Check.about("3: NO_SUCH goes before BAD_VALUE");
        for (int courtier : NO_COURTIERS) {
            refused("eyes(" + courtier + ", 3)", x -> x.eyes(courtier, 3), NO_SUCH);
            refused("eyes(" + courtier + ", -1)", x -> x.eyes(courtier, -1), NO_SUCH);
        }
        Check.about("3: BAD_VALUE if eyes is out of range");
        for (int eyes : NO_EYES) {
            refused("eyes(0, " + eyes + ")", x -> x.eyes(0, eyes), BAD_VALUE);
            refused("eyes(5, " + eyes + ")", x -> x.eyes(5, eyes), BAD_VALUE);
        }
    }

    private static void promise4Bow() {
        Check.about("4: BAD_VALUE if an argument is out of range, also with 24 bows, where TOO_MANY applies too");
        for (int depth : new int[] {MIN, 0, 4, MAX}) {
            refused("bow(" + depth + ", 0, 0)", x -> x.bow(depth, 0, 0), BAD_VALUE);
        }
        for (int side : new int[] {MIN, -1, 2, MAX}) {
            refused("bow(1, " + side + ", 0)", x -> x.bow(1, side, 0), BAD_VALUE);
        }
        for (int pause : new int[] {MIN, -1, 10, MAX}) {
            refused("bow(3, 1, " + pause + ")", x -> x.bow(3, 1, pause), BAD_VALUE);
        }
        Check.about("4: TOO_MANY if it has 24");
        refused(FULL, "bow(1, 0, 0)", x -> x.bow(1, 0, 0), TOO_MANY);
        refused(FULL, "bow(3, 1, 9)", x -> x.bow(3, 1, 9), TOO_MANY);
    }

    private static void promise5TakeBack() {
        Check.about("5: NOT_POSSIBLE if the speech is empty");
        refused(FRESH, "takeBack() of a new object", x -> x.takeBack(), NOT_POSSIBLE);
        refused(behind(RICH, x -> x.hush()), "takeBack() behind hush()", x -> x.takeBack(), NOT_POSSIBLE);
        refused(behind(EXTREME, x -> x.give()), "takeBack() behind give()", x -> x.takeBack(), NOT_POSSIBLE);
        refused(x -> {
            x.bow(1, 0, 0);
            x.takeBack();
        }, "takeBack() behind takeBack()", x -> x.takeBack(), NOT_POSSIBLE);
    }

    private static void promise6Read() {
        Check.about("6: BAD_TEXT if the pad has a fault");
        refused(FRESH, "read() of an empty pad", x -> x.read(), BAD_TEXT);
        refused(RICH, "read() of a pad with a fault", x -> x.read(), BAD_TEXT);
        refused(EXTREME.andThen(x -> x.put('1')), "read() of a pad that ends too early", x -> x.read(), BAD_TEXT);
        Check.about("6: BAD_TEXT goes before TOO_MANY");
        refused(FULL, "read() of a pad with a fault, with 24 bows", x -> x.read(), BAD_TEXT);
        refused(behind(FULL, x -> x.wipe()), "read() of an empty pad, with 24 bows", x -> x.read(), BAD_TEXT);
        refused(x -> Bows.write(x, "1l".repeat(29) + "1"), "read() of 29 bows and a depth", x -> x.read(), BAD_TEXT);
        Check.about("6: TOO_MANY if it would have more than 24");
        refused(RefusedCallsTest::fullAndReadable, "read() of 15 bows behind 24", x -> x.read(), TOO_MANY);
        refused(behind(FULL, x -> {
            x.wipe();
            x.put(Bows.packed("1l"));
        }), "read() of one bow behind 24", x -> x.read(), TOO_MANY);
        refused(x -> Bows.write(x, "1l".repeat(25)), "read() of 25 bows", x -> x.read(), TOO_MANY);
        refused(x -> {
            x.bow(1, 0, 0);
            Bows.write(x, "1l".repeat(24));
        }, "read() of 24 bows behind one", x -> x.read(), TOO_MANY);
    }

    private static void promise8Give() {
        Check.about("8: NOT_POSSIBLE if it says nothing (to eyes that see all as it is)");
        refused(FRESH, "give() of a new object", x -> x.give(), NOT_POSSIBLE);
        refused(FULL, "give() of 24 bows that say nothing", x -> x.give(), NOT_POSSIBLE);
        for (String text : NOTHING_SAID) {
            refused(saying(text), "give() of " + text, x -> x.give(), NOT_POSSIBLE);
        }
    }

    /** A speech before courtiers with all sorts of eyes. */
    private static Consumer<BowSpeeches> saying(String text) {
        return x -> {
            Bows.write(x, text);
            x.read();
            x.eyes(2, 1);
            x.eyes(3, 2);
            x.eyes(4, 2);
        };
    }

    // ---- what there is

    private static void promise9Speech() {
        Check.about("9: BAD_VALUE if an argument is out of range");
        for (int eyes : NO_EYES) {
            refused("speech(" + eyes + ", 0)", x -> x.speech(eyes, 0), BAD_VALUE);
        }
        for (int what : new int[] {MIN, -1, 4, MAX}) {
            refused("speech(0, " + what + ")", x -> x.speech(0, what), BAD_VALUE);
            refused("speech(2, " + what + ")", x -> x.speech(2, what), BAD_VALUE);
            refused("speech(3, " + what + ")", x -> x.speech(3, what), BAD_VALUE);
        }
    }

    private static void promise10Word() {
        Check.about("10: BAD_VALUE if eyes is out of range, also where NO_SUCH applies too");
        for (int eyes : NO_EYES) {
            refused("word(" + eyes + ", 0)", x -> x.word(eyes, 0), BAD_VALUE);
            refused("word(" + eyes + ", 24)", x -> x.word(eyes, 24), BAD_VALUE);
            refused("word(" + eyes + ", -1)", x -> x.word(eyes, -1), BAD_VALUE);
        }
        Check.about("10: NO_SUCH if there is no such group");
        for (int eyes = 0; eyes < 3; eyes++) {
            int e = eyes;
            refused("word(" + e + ", -1)", x -> x.word(e, -1), NO_SUCH);
            refused("word(" + e + ", MIN)", x -> x.word(e, MIN), NO_SUCH);
            refused("word(" + e + ", MAX)", x -> x.word(e, MAX), NO_SUCH);
            refused("the group behind the last, eyes " + e, x -> x.word(e, x.speech(e, 0)), NO_SUCH);
        }
    }

    private static void promise11Sentence() {
        Check.about("11: BAD_VALUE if eyes or what is out of range, also where NO_SUCH applies too");
        for (int sentence : new int[] {-1, 0, 8}) {
            for (int eyes : NO_EYES) {
                refused("sentence(" + eyes + ", " + sentence + ", 0)", x -> x.sentence(eyes, sentence, 0), BAD_VALUE);
            }
            for (int what : new int[] {MIN, -1, 4, MAX}) {
                refused("sentence(0, " + sentence + ", " + what + ")", x -> x.sentence(0, sentence, what), BAD_VALUE);
            }
        }
        Check.about("11: NO_SUCH if there is no such sentence");
        for (int eyes = 0; eyes < 3; eyes++) {
            int e = eyes;
            for (int what = 0; what < 4; what++) {
                int w = what;
                refused("sentence(" + e + ", -1, " + w + ")", x -> x.sentence(e, -1, w), NO_SUCH);
                refused("the sentence behind the last, eyes " + e, x -> x.sentence(e, x.speech(e, 2), w), NO_SUCH);
            }
            refused("sentence(" + e + ", MIN, 0)", x -> x.sentence(e, MIN, 0), NO_SUCH);
            refused("sentence(" + e + ", MAX, 0)", x -> x.sentence(e, MAX, 0), NO_SUCH);
        }
        Check.about("11: NO_SUCH: none if the speech says nothing");
        for (String text : NOTHING_SAID) {
            refused(saying(text), "sentence(0, 0, 0) of " + text, x -> x.sentence(0, 0, 0), NO_SUCH);
        }
    }

    private static void promise12Favour() {
        Check.about("12: NO_SUCH if there is no such courtier");
        for (int courtier : NO_COURTIERS) {
            refused("favour(" + courtier + ", 0)", x -> x.favour(courtier, 0), NO_SUCH);
            refused("favour(5, " + courtier + ")", x -> x.favour(5, courtier), NO_SUCH);
            refused("favour(" + courtier + ", " + courtier + ")", x -> x.favour(courtier, courtier), NO_SUCH);
        }
    }

    private static void promise13Count() {
        Check.about("13: BAD_VALUE if what is out of range");
        for (int what : new int[] {MIN, -1, 10, MAX}) {
            refused("count(" + what + ")", x -> x.count(what), BAD_VALUE);
        }
    }

    private static void promise14Courtier() {
        Check.about("14: NO_SUCH if there is no such courtier, also where BAD_VALUE applies too");
        for (int courtier : NO_COURTIERS) {
            for (int what = -1; what <= 4; what++) {
                int w = what;
                refused("courtier(" + courtier + ", " + w + ")", x -> x.courtier(courtier, w), NO_SUCH);
            }
        }
        Check.about("14: BAD_VALUE if what is out of range");
        for (int what : new int[] {MIN, -1, 4, MAX}) {
            refused("courtier(0, " + what + ")", x -> x.courtier(0, what), BAD_VALUE);
            refused("courtier(5, " + what + ")", x -> x.courtier(5, what), BAD_VALUE);
        }
    }

    // ---- what if

    private static void promise15IfGiven() {
        Check.about("15: NO_SUCH if there is no such courtier, also where NOT_POSSIBLE applies too");
        for (int courtier : NO_COURTIERS) {
            refused("ifGiven(" + courtier + ", 0)", x -> x.ifGiven(courtier, 0), NO_SUCH);
            refused("ifGiven(5, " + courtier + ")", x -> x.ifGiven(5, courtier), NO_SUCH);
        }
        Check.about("15: NOT_POSSIBLE if it cannot be given");
        refused(FRESH, "ifGiven(0, 1)", x -> x.ifGiven(0, 1), NOT_POSSIBLE);
        refused(FULL, "ifGiven(0, 1) of 24 bows that say nothing", x -> x.ifGiven(0, 1), NOT_POSSIBLE);
        for (String text : NOTHING_SAID) {
            refused(saying(text), "ifGiven(1, 0) of " + text, x -> x.ifGiven(1, 0), NOT_POSSIBLE);
            refused(saying(text), "ifGiven(3, 0), eyes 2, of " + text, x -> x.ifGiven(3, 0), NOT_POSSIBLE);
            refused(saying(text), "ifGiven(5, 5) of " + text, x -> x.ifGiven(5, 5), NOT_POSSIBLE);
        }
    }

    // ---- texts

    private static void promise18Put() {
        Check.about("18: BAD_VALUE if there is no character, also where the pad is full");
        refused("put(0)", x -> x.put(0), BAD_VALUE);
        Check.about("18: BAD_VALUE if a code is not 33 to 126, also where the pad is full");
        for (int code : new int[] {1, 32, 127, 128, 255}) {
            refused("put(" + code + ")", x -> x.put(code), BAD_VALUE);
            refused("put(" + code + ") behind 1", x -> x.put('1' << 8 | code), BAD_VALUE);
            refused("put(" + code + ") before seven", x -> x.put((long) code << 56 | 0x31313131313131L), BAD_VALUE);
        }
        Check.about("18: BAD_VALUE if a bit above 8 bits that are 0 is not 0, also where the pad is full");
        for (long bad : new long[] {0x100, 0x3100, 1L << 63, 0x310031L, 1L << 16 | 0x31, 1L << 63 | 0x31, 1L << 56 | 0x313131313131L}) {
            refused("put(" + bad + ")", x -> x.put(bad), BAD_VALUE);
        }
        Check.about("18: TOO_MANY if the pad would be longer than 60");
        refused(FULL, "put() of one behind 60", x -> x.put('1'), TOO_MANY);
        refused(RefusedCallsTest::fullAndReadable, "put() of eight behind 60", x -> x.put(Bows.packed("1l1l1l1l")), TOO_MANY);
        refused(x -> Bows.write(x, "1l".repeat(29)), "put() of three behind 58", x -> x.put(Bows.packed("1l1")), TOO_MANY);
        refused(x -> Bows.write(x, "1l.1".repeat(13) + "1"), "put() of eight behind 53", x -> x.put(Bows.packed("l1l1l1l1")), TOO_MANY);
    }

    // ---- undo, saving

    private static void promise21Undo() {
        Check.about("21: NOT_POSSIBLE if there is none");
        refused(FRESH, "undo() of a new object", x -> x.undo(), NOT_POSSIBLE);
        refused(x -> {
            x.save(0);
            Bows.write(x, "1l");
        }, "undo() where no change was made", x -> x.undo(), NOT_POSSIBLE);
        for (Consumer<BowSpeeches> state : List.of(RICH, FULL, EXTREME)) {
            refused(behind(state, Bows::undoAll), "undo() where all is undone", x -> x.undo(), NOT_POSSIBLE);
        }
    }

    private static void promise22Save() {
        Check.about("22: BAD_VALUE if there is no such slot");
        for (int slot : NO_SLOTS) {
            refused("save(" + slot + ")", x -> x.save(slot), BAD_VALUE);
        }
    }

    private static void promise23Restore() {
        Check.about("23: BAD_VALUE if there is no such slot, also where nothing was saved");
        for (int slot : NO_SLOTS) {
            refused("restore(" + slot + ")", x -> x.restore(slot), BAD_VALUE);
        }
        Check.about("23: NOT_POSSIBLE if nothing was saved in it");
        refused(FRESH, "restore(0)", x -> x.restore(0), NOT_POSSIBLE);
        refused(FRESH, "restore(1)", x -> x.restore(1), NOT_POSSIBLE);
        Consumer<BowSpeeches> bows = x -> Bows.sayKind(x, 3, 4);
        refused(behind(bows, x -> x.save(0)), "restore(1) where only 0 is saved", x -> x.restore(1), NOT_POSSIBLE);
        refused(behind(bows, x -> x.save(1)), "restore(0) where only 1 is saved", x -> x.restore(0), NOT_POSSIBLE);
    }

    // ---- calls that only look

    private static void looks() {
        Check.about("what there is, what if: nothing changes");
        for (Consumer<BowSpeeches> s : ALL) {
            Look.leavesAll("a look at all", s, x -> Look.at(x).length());
            Look.leavesAll("bestBow()", s, x -> x.bestBow());
            Look.leavesAll("darling()", s, x -> x.darling());
            Look.leavesAll("fault()", s, x -> x.fault());
            Look.leavesAll("ifGiven()", s, x -> x.ifGiven(3, 2));
            Look.leavesAll("count(6)", s, x -> x.count(6));
            Look.leavesAll("courtier()", s, x -> x.courtier(1, 3));
        }
    }
}
