import java.util.ArrayList;
import java.util.List;
import java.util.function.Consumer;

/** Promises 18 to 23: each sentence that names a boundary. */
public final class TextsAndUndoBoundariesTest {
    private static final int BAD_VALUE = -1000002, BAD_TEXT = -1000003, TOO_MANY = -1000004, NOT_POSSIBLE = -1000005,
            NONE = -1000006;

    public static void main(String[] args) {
        promise18Length();
        promise18Order();
        promise18NoCharacter();
        promise18Codes();
        promise18BitsAbove();
        promise18TooMany();
        promise19Wipe();
        promise20Fault();
        promise21None();
        promise21HowMany();
        promise21AtMostSix();
        promise21EachChange();
        promise21NothingIsDifferent();
        promise21NoError();
        promise21NoChanges();
        promise21WrapsAround();
        promise21NotThePad();
        promise21NotTheSlots();
        promise22HowMany();
        promise22NoSuchSlot();
        promise22Overwrites();
        promise22NotThePad();
        promise22NotTheHistory();
        promise23HowMany();
        promise23NoSuchSlot();
        promise23NothingSaved();
        promise23SavedLast();
        promise23Keeps();
        promise23IsAChange();
        Check.end();
    }

    private static void write(BowSpeeches x, int length) {
        Bows.write(x, "1".repeat(length));
    }

    private static void bows(BowSpeeches x, int bows) {
        for (int bow = 0; bow < bows; bow++) {
            x.bow(3, 1, 9);
        }
    }

    // ---- promise 18

    private static void promise18Length() {
        Check.about("18: 1 to 8 characters; returns the length of the pad then");
        for (int length = 1; length <= 8; length++) {
            BowSpeeches x = new BowSpeeches();
            Check.due("put() of " + length, x.put(Bows.packed("1r1r1r1r".substring(0, length))), length);
            Check.due("count(8)", x.count(8), length);
        }
    }

    private static void promise18Order() {
        Check.about("18: its lowest 8 bits are the last character, the next 8 bits the one before");
        BowSpeeches two = new BowSpeeches();
        two.put('2' << 8 | 'r');
        Check.due("fault() of two", two.fault(), NONE);
        Check.due("the bow", two.read() == 1 ? two.takeBack() : NONE, 3);
        BowSpeeches eight = new BowSpeeches();
        eight.put((long) '3' << 56 | (long) 'r' << 48 | (long) '.' << 40 | (long) '9' << 32 | '1' << 24 | 'l' << 16 | '2' << 8 | 'r');
        Check.due("fault() of eight", eight.fault(), NONE);
        Check.due("read()", eight.read(), 3);
        Check.due("the first group", eight.word(0, 0), 5);
        Check.due("the second group", eight.word(0, 1), 6 + 3);
    }

    private static void promise18NoCharacter() {
        Check.about("18: BAD_VALUE if there is no character");
        for (int length = 0; length <= 60; length += 30) {
            BowSpeeches x = new BowSpeeches();
            write(x, length);
            Check.due("put(0) behind " + length, x.put(0), BAD_VALUE);
            Check.due("the length then", x.count(8), length);
        }
    }

    private static void promise18Codes() {
        Check.about("18: BAD_VALUE if a code is not 33 to 126");
        int[] codes = {1, 32, 33, 126, 127, 128, 160, 161, 254, 255};
        for (int code : codes) {
            boolean good = code == 33 || code == 126;
            for (int place = 0; place < 8; place++) {
                for (int length = place + 1; length <= 8; length++) {
                    long others = 0x3131313131313131L >>> 8 * (8 - length) & ~(255L << 8 * place);
                    BowSpeeches x = new BowSpeeches();
                    int due = good ? length : BAD_VALUE;
                    Check.due("code " + code + " at " + place + " of " + length, x.put(others | (long) code << 8 * place), due);
                    Check.due("the length then", x.count(8), good ? length : 0);
                }
            }
        }
    }

    private static void promise18BitsAbove() {
        Check.about("18: BAD_VALUE if a bit above 8 bits that are 0 is not 0");
        for (int length = 0; length < 8; length++) {
            long characters = length == 0 ? 0 : 0x3131313131313131L >>> 8 * (8 - length);
            for (int bit = 8 * (length + 1); bit < 64; bit++) {
                BowSpeeches x = new BowSpeeches();
                Check.due(length + " characters and bit " + bit, x.put(characters | 1L << bit), BAD_VALUE);
                Check.due("the length then", x.count(8), 0);
            }
            Check.due("no bit above " + length, new BowSpeeches().put(characters), length == 0 ? BAD_VALUE : length);
        }
        Check.due("the highest bit alone", new BowSpeeches().put(Long.MIN_VALUE), BAD_VALUE);
        Check.due("all bits", new BowSpeeches().put(-1), BAD_VALUE);
    }

    private static void promise18TooMany() {
        Check.about("18: TOO_MANY if the pad would be longer than 60, and BAD_VALUE goes first");
        for (int length = 52; length <= 60; length++) {
            for (int more = 1; more <= 8; more++) {
                BowSpeeches x = new BowSpeeches();
                write(x, length);
                int due = length + more <= 60 ? length + more : TOO_MANY;
                Check.due(more + " behind " + length, x.put(Bows.packed("11111111".substring(0, more))), due);
                Check.due("the length then", x.count(8), due == TOO_MANY ? length : due);
                Check.due("a wrong code", x.put(0x3131313131313120L), BAD_VALUE);
                Check.due("a bit above", x.put(0x3100313131313131L), BAD_VALUE);
                Check.due("none", x.put(0), BAD_VALUE);
                Check.due("the length then", x.count(8), due == TOO_MANY ? length : due);
            }
        }
    }

    // ---- promise 19

    private static void promise19Wipe() {
        Check.about("19: empties the pad, and returns the length that it had");
        for (int length = 0; length <= 60; length++) {
            BowSpeeches x = new BowSpeeches();
            write(x, length);
            Check.due("wipe() of " + length, x.wipe(), length);
            Check.due("the length then", x.count(8), 0);
            Check.due("the fault then", x.fault(), 0);
            Check.due("wipe() again", x.wipe(), 0);
            Check.due("there is room again", x.put('1'), 1);
            Check.due("no change", x.count(9), 0);
        }
    }

    // ---- promise 20

    private static void fault(String text, int due) {
        BowSpeeches x = Bows.withText(text);
        Check.due("fault() of " + text, x.fault(), due);
        Check.due("fault() again", x.fault(), due);
        Check.due("its length", x.count(8), text.length());
    }

    private static void promise20Fault() {
        Check.about("20: the fault of the pad, NONE if there is none");
        fault("", 0);
        fault("1l", NONE);
        fault("3r.9", NONE);
        fault("1l.1".repeat(15), NONE);
        fault("1l".repeat(30), NONE);
        fault("1l.1".repeat(14) + "1l.x", 59);
        fault("1l.1".repeat(14) + "1l.", 59);
        fault("x" + "1l.1".repeat(14), 0);
    }

    // ---- promise 21

    private static void promise21None() {
        Check.about("21: NOT_POSSIBLE if there is none");
        BowSpeeches x = new BowSpeeches();
        Check.due("undo() of a new object", x.undo(), NOT_POSSIBLE);
        x.bow(1, 0, 0);
        Check.due("undo() of the only change", x.undo(), 0);
        Check.due("undo() again", x.undo(), NOT_POSSIBLE);
        Check.due("bows", x.count(3), 0);
    }

    private static void promise21HowMany() {
        Check.about("21: returns how many changes can be undone then");
        for (int changes = 1; changes <= 9; changes++) {
            BowSpeeches x = new BowSpeeches();
            bows(x, changes);
            for (int left = Math.min(changes, 6) - 1; left >= 0; left--) {
                Check.due("undo() behind " + changes, x.undo(), left);
                Check.due("count(9)", x.count(9), left);
            }
            Check.due("undo() of none behind " + changes, x.undo(), NOT_POSSIBLE);
        }
    }

    private static void promise21AtMostSix() {
        Check.about("21: at most 6 states; when one more is recorded, the oldest one is dropped");
        for (int changes = 5; changes <= 24; changes++) {
            BowSpeeches x = new BowSpeeches();
            bows(x, changes);
            Check.due("count(9) behind " + changes, x.count(9), Math.min(changes, 6));
            for (int step = 1; step <= Math.min(changes, 6); step++) {
                x.undo();
                Check.due("bows behind " + step + " of " + changes, x.count(3), changes - step);
            }
            Check.due("one undo() too many", x.undo(), NOT_POSSIBLE);
            Check.due("the oldest state that is kept", x.count(3), Math.max(0, changes - 6));
        }
    }

    /** Each method that is a change, called so that it makes a difference. */
    private static List<Consumer<BowSpeeches>> changes() {
        List<Consumer<BowSpeeches>> changes = new ArrayList<>();
        changes.add(x -> x.set(1, 9));
        changes.add(x -> x.eyes(5, 2));
        changes.add(x -> x.bow(1, 0, 0));
        changes.add(x -> x.takeBack());
        changes.add(x -> x.read());
        changes.add(x -> x.hush());
        changes.add(x -> x.give());
        changes.add(x -> x.restore(0));
        return changes;
    }

    /** With all that there is: bows that say something, a text that can be read, slots, favours; one change. */
    private static BowSpeeches ready() {
        BowSpeeches x = new BowSpeeches();
        Bows.sayUnkind(x, 4, 3);
        x.give();
        x.eyes(1, 1);
        x.save(0);
        Bows.write(x, "3l.31l.03l.31r.3");
        x.read();
        x.save(1);
        Bows.undoAll(x);
        x.restore(1);
        Bows.write(x, "2r.8");
        return x;
    }

    private static void promise21EachChange() {
        Check.about("21: everything is as it was before it; each method that is a change records the state before it");
        String before = Look.at(ready());
        String bows = Look.bowsOf(ready());
        int count = 0;
        for (Consumer<BowSpeeches> change : changes()) {
            String name = "change " + count++;
            BowSpeeches x = ready();
            change.accept(x);
            Check.due(name + " is recorded", x.count(9), 2);
            Check.due("undo() of " + name, x.undo(), 1);
            int pad = x.count(8);
            Bows.write(x, "2r.8".substring(pad));
            Check.due("all behind undo() of " + name, Look.at(x), before);
            BowSpeeches y = ready();
            change.accept(y);
            y.undo();
            Check.due("the bows behind undo() of " + name, Look.bowsOf(y), bows);
        }
    }

    private static void promise21NothingIsDifferent() {
        Check.about("21: also if nothing is different then");
        BowSpeeches x = new BowSpeeches();
        x.bow(1, 0, 0);
        x.hush();
        x.save(0);
        x.hush();
        Check.due("hush() of no bows", x.count(9), 3);
        x.set(0, 3);
        Check.due("set() to the same value", x.count(9), 4);
        x.eyes(0, 0);
        Check.due("eyes() to the same eyes", x.count(9), 5);
        x.restore(0);
        Check.due("restore() of the same state", x.count(9), 6);
        for (int left = 5; left >= 2; left--) {
            Check.due("undo()", x.undo(), left);
            Check.due("bows", x.count(3), 0);
        }
        Check.due("undo() of the first hush()", x.undo(), 1);
        Check.due("bows", x.count(3), 1);
    }

    private static void promise21NoError() {
        Check.about("21: and returns no error");
        for (int recorded = 0; recorded <= 6; recorded++) {
            BowSpeeches x = new BowSpeeches();
            for (int change = 0; change < recorded; change++) {
                x.eyes(0, change % 2);
            }
            x.set(0, 10);
            x.set(3, 3);
            x.eyes(6, 0);
            x.eyes(0, 3);
            x.bow(0, 0, 0);
            x.takeBack();
            x.read();
            x.give();
            x.restore(2);
            x.restore(0);
            Check.due("count(9) behind errors", x.count(9), recorded);
            for (int left = recorded - 1; left >= 0; left--) {
                Check.due("undo() behind errors", x.undo(), left);
                Check.due("eyes", x.courtier(0, 0), left == 0 ? 0 : (left - 1) % 2);
            }
        }
        BowSpeeches full = new BowSpeeches();
        bows(full, 24);
        full.bow(1, 0, 0);
        full.put(Bows.packed("1l"));
        full.read();
        Check.due("undo() behind TOO_MANY", full.undo(), 5);
        Check.due("bows", full.count(3), 23);
    }

    private static void promise21NoChanges() {
        Check.about("21: what is no change is not recorded");
        BowSpeeches x = ready();
        Look.at(x);
        x.save(0);
        x.put('1');
        x.wipe();
        x.wipe();
        x.fault();
        x.bestBow();
        x.darling();
        Check.due("count(9)", x.count(9), 1);
        Check.due("undo() itself is not recorded", x.undo(), 0);
    }

    private static void promise21WrapsAround() {
        Check.about("21: undo and changes in turn, past the length of the history");
        BowSpeeches x = new BowSpeeches();
        int bows = 0;
        int kept = 0;
        for (int turn = 0; turn < 14; turn++) {
            for (int bow = 0; bow < 3; bow++) {
                x.bow(2, 0, 9);
                bows++;
                kept = Math.min(kept + 1, 6);
            }
            for (int step = 0; step < 2 + turn % 2; step++) {
                kept--;
                bows--;
                Check.due("undo() in turn " + turn, x.undo(), kept);
                Check.due("bows in turn " + turn, x.count(3), bows);
            }
        }
        while (kept > 0) {
            kept--;
            bows--;
            Check.due("undo() at the end", x.undo(), kept);
            Check.due("bows at the end", x.count(3), bows);
        }
        Check.due("one more", x.undo(), NOT_POSSIBLE);
    }

    private static void promise21NotThePad() {
        Check.about("21: everything except the pad");
        BowSpeeches x = new BowSpeeches();
        x.bow(1, 0, 0);
        Bows.write(x, "1l".repeat(30));
        x.undo();
        Check.due("a full pad stays", x.count(8), 60);
        x.bow(1, 0, 0);
        x.wipe();
        x.undo();
        Check.due("an empty pad stays", x.count(8), 0);
        Bows.write(x, "2l");
        x.read();
        x.undo();
        Check.due("a pad that was read stays empty", x.read(), BAD_TEXT);
    }

    private static void promise21NotTheSlots() {
        Check.about("21: everything except the slots");
        BowSpeeches x = new BowSpeeches();
        x.bow(2, 1, 0);
        x.save(0);
        x.hush();
        x.save(1);
        x.undo();
        x.undo();
        Check.due("slot 0 stays", x.restore(0), 1);
        Check.due("slot 1 stays", x.restore(1), 0);
        x.undo();
        x.undo();
        Check.due("slot 0 stays behind undo() of restore()", x.restore(0), 1);
    }

    // ---- promise 22

    private static void promise22HowMany() {
        Check.about("22: returns how many bows the speech has");
        for (int slot = 0; slot < 2; slot++) {
            BowSpeeches x = new BowSpeeches();
            for (int bows = 0; bows <= 24; bows++) {
                Check.due("save(" + slot + ") of " + bows, x.save(slot), bows);
                x.bow(1, 0, 0);
            }
            Check.due("it is no change", x.count(9), 6);
        }
    }

    private static void promise22NoSuchSlot() {
        Check.about("22: BAD_VALUE if there is no such slot");
        BowSpeeches x = new BowSpeeches();
        bows(x, 2);
        Check.due("save(-1)", x.save(-1), BAD_VALUE);
        Check.due("save(2)", x.save(2), BAD_VALUE);
        Check.due("nothing is in slot 0", x.restore(0), NOT_POSSIBLE);
        Check.due("nothing is in slot 1", x.restore(1), NOT_POSSIBLE);
        Check.due("save(0)", x.save(0), 2);
        Check.due("save(1)", x.save(1), 2);
    }

    private static void promise22Overwrites() {
        Check.about("22: overwrites what was saved there");
        for (int slot = 0; slot < 2; slot++) {
            BowSpeeches x = new BowSpeeches();
            bows(x, 24);
            x.eyes(0, 2);
            x.save(slot);
            x.save(1 - slot);
            x.hush();
            x.eyes(0, 1);
            x.save(slot);
            Check.due("the other slot", x.restore(1 - slot), 24);
            Check.due("its eyes", x.courtier(0, 0), 2);
            Check.due("this slot", x.restore(slot), 0);
            Check.due("its eyes", x.courtier(0, 0), 1);
        }
    }

    private static void promise22NotThePad() {
        Check.about("22: everything except the pad");
        BowSpeeches x = new BowSpeeches();
        write(x, 60);
        x.save(0);
        x.wipe();
        x.save(1);
        x.restore(0);
        Check.due("an empty pad stays", x.count(8), 0);
        write(x, 60);
        x.restore(1);
        Check.due("a full pad stays", x.count(8), 60);
    }

    private static void promise22NotTheHistory() {
        Check.about("22: everything except the history and the slots");
        BowSpeeches x = new BowSpeeches();
        x.save(0);
        bows(x, 3);
        Check.due("restore() of a state without a history", x.restore(0), 0);
        Check.due("the history goes on", x.count(9), 4);
        Check.due("undo()", x.undo(), 3);
        Check.due("bows", x.count(3), 3);
        bows(x, 9);
        x.save(1);
        Bows.undoAll(x);
        x.restore(1);
        Check.due("the history is not that of the saved state", x.count(9), 1);
        Check.due("slot 0 is not that of the saved state", x.restore(0), 0);
    }

    // ---- promise 23

    private static void promise23HowMany() {
        Check.about("23: returns how many bows the speech has then");
        for (int bows = 0; bows <= 24; bows++) {
            BowSpeeches x = new BowSpeeches();
            bows(x, bows);
            x.save(0);
            x.hush();
            x.save(1);
            Check.due("restore(0) of " + bows, x.restore(0), bows);
            Check.due("count(3)", x.count(3), bows);
            Check.due("restore(1) of none", x.restore(1), 0);
        }
    }

    private static void promise23NoSuchSlot() {
        Check.about("23: BAD_VALUE if there is no such slot, before NOT_POSSIBLE");
        BowSpeeches x = new BowSpeeches();
        for (int time = 0; time < 2; time++) {
            Check.due("restore(-1)", x.restore(-1), BAD_VALUE);
            Check.due("restore(2)", x.restore(2), BAD_VALUE);
            x.save(0);
            x.save(1);
        }
        Check.due("no change", x.count(9), 0);
        Check.due("restore(0)", x.restore(0), 0);
        Check.due("restore(1)", x.restore(1), 0);
    }

    private static void promise23NothingSaved() {
        Check.about("23: NOT_POSSIBLE if nothing was saved in it");
        for (int slot = 0; slot < 2; slot++) {
            BowSpeeches x = new BowSpeeches();
            bows(x, 1);
            Check.due("restore() of nothing", x.restore(slot), NOT_POSSIBLE);
            x.save(1 - slot);
            Check.due("restore() where only the other one is saved", x.restore(slot), NOT_POSSIBLE);
            Check.due("bows", x.count(3), 1);
            Check.due("changes", x.count(9), 1);
            x.save(slot);
            Check.due("restore() of one bow", x.restore(slot), 1);
        }
        BowSpeeches empty = new BowSpeeches();
        empty.save(0);
        Check.due("an empty speech is something too", empty.restore(0), 0);
    }

    private static void promise23SavedLast() {
        Check.about("23: what was saved last");
        BowSpeeches x = new BowSpeeches();
        for (int bows = 0; bows <= 24; bows++) {
            x.save(bows % 2);
            x.bow(3, 1, 9);
        }
        Check.due("restore(0)", x.restore(0), 24);
        Check.due("restore(1)", x.restore(1), 23);
        x.save(0);
        Check.due("restore(0) then", x.restore(0), 23);
    }

    private static void promise23Keeps() {
        Check.about("23: a slot, which keeps it");
        for (int slot = 0; slot < 2; slot++) {
            BowSpeeches used = ready();
            used.save(slot);
            for (int time = 0; time < 3; time++) {
                Check.due("restore() " + time, used.restore(slot), 4);
                used.set(1, 9);
                used.set(2, 9);
                used.eyes(0, 2);
                used.give();
                used.set(0, 9);
                used.bow(1, 1, 1);
            }
            BowSpeeches unused = ready();
            unused.save(slot);
            for (int change = 0; change < 6; change++) {
                used.hush();
                unused.hush();
            }
            Check.due("all that it keeps", Look.slotOf(used, slot), Look.slotOf(unused, slot));
            Check.due("the bows that it keeps", Look.bowsOf(used), Look.bowsOf(unused));
        }
    }

    private static void promise23IsAChange() {
        Check.about("23: this is a change");
        BowSpeeches x = new BowSpeeches();
        bows(x, 24);
        x.save(0);
        x.hush();
        x.save(1);
        for (int time = 0; time < 8; time++) {
            Check.due("restore()", x.restore(time % 2), time % 2 == 0 ? 24 : 0);
            Check.due("count(9)", x.count(9), 6);
        }
        for (int left = 5; left >= 0; left--) {
            Check.due("undo()", x.undo(), left);
            Check.due("bows", x.count(3), left % 2 == 0 ? 0 : 24);
        }
    }
}
