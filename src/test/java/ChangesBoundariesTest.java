/** Promises 1 to 8: each sentence that names a boundary. */
public final class ChangesBoundariesTest {
    private static final int NO_SUCH = -1000001, BAD_VALUE = -1000002, BAD_TEXT = -1000003, TOO_MANY = -1000004,
            NOT_POSSIBLE = -1000005;

    public static void main(String[] args) {
        promise1EmptySpeech();
        promise1SixCourtiers();
        promise1Eyes();
        promise1NothingElse();
        promise2PreviousValue();
        promise2NoSuchSetting();
        promise2OutOfRange();
        promise2IsAChange();
        promise3PreviousEyes();
        promise3NoSuchCourtier();
        promise3OutOfRange();
        promise4HowMany();
        promise4OutOfRange();
        promise4TooMany();
        promise5LastBow();
        promise5Empty();
        promise6HowMany();
        promise6EmptiesThePad();
        promise6BadText();
        promise6TooMany();
        promise7Hush();
        promise8Taken();
        promise8NotPossible();
        Check.end();
    }

    private static BowSpeeches withBows(int bows) {
        BowSpeeches x = new BowSpeeches();
        for (int bow = 0; bow < bows; bow++) {
            x.bow(1, 0, 9);
        }
        return x;
    }

    // ---- promise 1

    private static void promise1EmptySpeech() {
        Check.about("1: an empty speech");
        BowSpeeches x = new BowSpeeches();
        Check.due("bows", x.count(3), 0);
        for (int eyes = 0; eyes < 3; eyes++) {
            Check.due("groups", x.speech(eyes, 0), 0);
            Check.due("reason", x.speech(eyes, 1), 1);
            Check.due("sentences", x.speech(eyes, 2), 0);
            Check.due("flourishes", x.speech(eyes, 3), 0);
            Check.due("word 0", x.word(eyes, 0), NO_SUCH);
            Check.due("sentence 0", x.sentence(eyes, 0, 0), NO_SUCH);
        }
        Check.due("takeBack()", x.takeBack(), NOT_POSSIBLE);
        Check.due("the first bow", x.bow(3, 1, 9), 1);
    }

    private static void promise1SixCourtiers() {
        Check.about("1: six courtiers");
        BowSpeeches x = new BowSpeeches();
        Check.due("the one before the first", x.courtier(-1, 0), NO_SUCH);
        for (int courtier = 0; courtier < 6; courtier++) {
            Check.due("courtier " + courtier, x.courtier(courtier, 0), 0);
        }
        Check.due("the one behind the last", x.courtier(6, 0), NO_SUCH);
    }

    private static void promise1Eyes() {
        Check.about("1: with the eyes 0");
        BowSpeeches x = new BowSpeeches();
        for (int courtier = 0; courtier < 6; courtier++) {
            Check.due("eyes of " + courtier, x.eyes(courtier, 2), 0);
        }
    }

    private static void promise1NothingElse() {
        Check.about("1: nothing is there but the first values");
        BowSpeeches x = new BowSpeeches();
        int[] due = {3, 2, 3, 0, 0, 0, 0, 0, 0, 0};
        for (int what = 0; what < 10; what++) {
            Check.due("count(" + what + ")", x.count(what), due[what]);
        }
        for (int i = 0; i < 36; i++) {
            Check.due("favour(" + i / 6 + ", " + i % 6 + ")", x.favour(i / 6, i % 6), 0);
        }
        Check.due("fault()", x.fault(), 0);
        Check.due("wipe()", x.wipe(), 0);
        Check.due("undo()", x.undo(), NOT_POSSIBLE);
        Check.due("restore(0)", x.restore(0), NOT_POSSIBLE);
        Check.due("restore(1)", x.restore(1), NOT_POSSIBLE);
        Check.due("hush()", x.hush(), 0);
    }

    // ---- promise 2

    private static void promise2PreviousValue() {
        Check.about("2: returns the previous value");
        int[] lowest = {2, 1, 1};
        int[] first = {3, 2, 3};
        for (int setting = 0; setting < 3; setting++) {
            BowSpeeches x = new BowSpeeches();
            Check.due("the first one", x.set(setting, 9), first[setting]);
            Check.due("the highest", x.set(setting, lowest[setting]), 9);
            Check.due("the lowest", x.set(setting, lowest[setting]), lowest[setting]);
            Check.due("a refused one", x.set(setting, 10), BAD_VALUE);
            Check.due("the one before the refused one", x.set(setting, 9), lowest[setting]);
            for (int other = 0; other < 3; other++) {
                Check.due("setting " + other + " then", x.count(other), other == setting ? 9 : first[other]);
            }
        }
    }

    private static void promise2NoSuchSetting() {
        Check.about("2: BAD_VALUE if there is no such setting");
        BowSpeeches x = new BowSpeeches();
        for (int value = 0; value <= 10; value++) {
            Check.due("set(-1, " + value + ")", x.set(-1, value), BAD_VALUE);
            Check.due("set(3, " + value + ")", x.set(3, value), BAD_VALUE);
        }
        Check.due("the first setting", x.set(0, 3), 3);
        Check.due("the last setting", x.set(2, 3), 3);
    }

    private static void promise2OutOfRange() {
        Check.about("2: BAD_VALUE if value is out of its range");
        BowSpeeches x = new BowSpeeches();
        Check.due("BREAK 1", x.set(0, 1), BAD_VALUE);
        Check.due("BREAK 2", x.set(0, 2), 3);
        Check.due("BREAK 9", x.set(0, 9), 2);
        Check.due("BREAK 10", x.set(0, 10), BAD_VALUE);
        Check.due("PLUS 0", x.set(1, 0), BAD_VALUE);
        Check.due("PLUS 1", x.set(1, 1), 2);
        Check.due("PLUS 9", x.set(1, 9), 1);
        Check.due("PLUS 10", x.set(1, 10), BAD_VALUE);
        Check.due("MINUS 0", x.set(2, 0), BAD_VALUE);
        Check.due("MINUS 1", x.set(2, 1), 3);
        Check.due("MINUS 9", x.set(2, 9), 1);
        Check.due("MINUS 10", x.set(2, 10), BAD_VALUE);
        Check.due("changes", x.count(9), 6);
    }

    private static void promise2IsAChange() {
        Check.about("2: this is a change");
        BowSpeeches x = new BowSpeeches();
        x.set(2, 3);
        Check.due("the same value once more", x.count(9), 1);
        x.set(2, 10);
        Check.due("a refused one", x.count(9), 1);
    }

    // ---- promise 3

    private static void promise3PreviousEyes() {
        Check.about("3: returns the previous ones");
        for (int courtier = 0; courtier < 6; courtier++) {
            BowSpeeches x = new BowSpeeches();
            Check.due("the first ones", x.eyes(courtier, 2), 0);
            Check.due("the highest", x.eyes(courtier, 0), 2);
            Check.due("the lowest", x.eyes(courtier, 1), 0);
            Check.due("the middle ones", x.eyes(courtier, 1), 1);
            for (int other = 0; other < 6; other++) {
                Check.due("eyes of " + other, x.courtier(other, 0), other == courtier ? 1 : 0);
            }
        }
    }

    private static void promise3NoSuchCourtier() {
        Check.about("3: NO_SUCH if there is no such courtier");
        BowSpeeches x = new BowSpeeches();
        for (int eyes = -1; eyes <= 3; eyes++) {
            Check.due("eyes(-1, " + eyes + ")", x.eyes(-1, eyes), NO_SUCH);
            Check.due("eyes(6, " + eyes + ")", x.eyes(6, eyes), NO_SUCH);
        }
        Check.due("eyes(0, 1)", x.eyes(0, 1), 0);
        Check.due("eyes(5, 1)", x.eyes(5, 1), 0);
    }

    private static void promise3OutOfRange() {
        Check.about("3: BAD_VALUE if eyes is out of range (0 to 2)");
        BowSpeeches x = new BowSpeeches();
        for (int courtier = 0; courtier < 6; courtier++) {
            Check.due("eyes(.., -1)", x.eyes(courtier, -1), BAD_VALUE);
            Check.due("eyes(.., 3)", x.eyes(courtier, 3), BAD_VALUE);
            Check.due("eyes(.., 2)", x.eyes(courtier, 2), 0);
            Check.due("eyes(.., 0)", x.eyes(courtier, 0), 2);
        }
    }

    // ---- promise 4

    private static void promise4HowMany() {
        Check.about("4: returns how many bows it has then");
        BowSpeeches x = new BowSpeeches();
        for (int bow = 1; bow <= 24; bow++) {
            Check.due("bow " + bow, x.bow(3, 1, 9), bow);
            Check.due("it is at the end", x.word(0, bow - 1), 5);
        }
    }

    private static void promise4OutOfRange() {
        Check.about("4: BAD_VALUE if an argument is out of range");
        for (int depth = -1; depth <= 5; depth++) {
            boolean good = depth >= 1 && depth <= 3;
            Check.due("depth " + depth, new BowSpeeches().bow(depth, 0, 0), good ? 1 : BAD_VALUE);
        }
        for (int side = -2; side <= 3; side++) {
            boolean good = side == 0 || side == 1;
            Check.due("side " + side, new BowSpeeches().bow(1, side, 0), good ? 1 : BAD_VALUE);
        }
        for (int pause = -2; pause <= 11; pause++) {
            boolean good = pause >= 0 && pause <= 9;
            Check.due("pause " + pause, new BowSpeeches().bow(1, 0, pause), good ? 1 : BAD_VALUE);
        }
        Check.due("all out of range", new BowSpeeches().bow(0, 2, 10), BAD_VALUE);
    }

    private static void promise4TooMany() {
        Check.about("4: TOO_MANY if it has 24, and BAD_VALUE goes first");
        BowSpeeches x = withBows(23);
        Check.due("a wrong bow behind 23", x.bow(4, 0, 0), BAD_VALUE);
        Check.due("the 24th", x.bow(1, 0, 0), 24);
        Check.due("the 25th", x.bow(1, 0, 0), TOO_MANY);
        Check.due("a wrong depth behind 24", x.bow(4, 0, 0), BAD_VALUE);
        Check.due("a wrong side behind 24", x.bow(1, 2, 0), BAD_VALUE);
        Check.due("a wrong pause behind 24", x.bow(1, 0, 10), BAD_VALUE);
        Check.due("the last taken back", x.takeBack(), 0);
        Check.due("the 24th again", x.bow(1, 0, 0), 24);
        x.undo();
        Check.due("the 24th behind undo()", x.bow(1, 0, 0), 24);
        Check.due("the 25th then", x.bow(1, 0, 0), TOO_MANY);
    }

    // ---- promise 5

    private static void promise5LastBow() {
        Check.about("5: returns its number, if it was a word by itself");
        for (int number = 0; number < 6; number++) {
            BowSpeeches x = new BowSpeeches();
            Bows.one(x, 5 - number, 0);
            Bows.one(x, number, number);
            x.eyes(0, 1);
            Check.due("the second bow, though it ends a deed", x.takeBack(), number);
            Check.due("the first bow", x.takeBack(), 5 - number);
        }
        BowSpeeches full = withBows(23);
        full.bow(3, 1, 0);
        Check.due("the 24th", full.takeBack(), 5);
        Check.due("bows then", full.count(3), 23);
    }

    private static void promise5Empty() {
        Check.about("5: NOT_POSSIBLE if the speech is empty");
        BowSpeeches x = new BowSpeeches();
        Check.due("takeBack() of no bows", x.takeBack(), NOT_POSSIBLE);
        x.bow(1, 0, 0);
        Check.due("takeBack() of the only bow", x.takeBack(), 0);
        Check.due("takeBack() of no bows again", x.takeBack(), NOT_POSSIBLE);
        Check.due("changes", x.count(9), 2);
    }

    // ---- promise 6

    private static void promise6HowMany() {
        Check.about("6: returns how many bows the speech has then");
        for (int bows = 0; bows < 24; bows++) {
            BowSpeeches x = withBows(bows);
            Bows.write(x, "2r");
            Check.due("read() of one behind " + bows, x.read(), bows + 1);
            Check.due("it is at the end", x.word(0, bows), 3);
        }
        Check.due("read() of 24 behind none", Bows.withText("1l".repeat(24)).read(), 24);
    }

    private static void promise6EmptiesThePad() {
        Check.about("6: empties the pad");
        BowSpeeches x = Bows.withText("1l.1".repeat(15));
        Check.due("read() of a full pad", x.read(), 15);
        Check.due("its length", x.count(8), 0);
        Check.due("its fault", x.fault(), 0);
        Check.due("read() again", x.read(), BAD_TEXT);
        x.undo();
        Check.due("undo() doesn't fill it", x.count(8), 0);
    }

    private static void promise6BadText() {
        Check.about("6: BAD_TEXT if the pad has a fault, and it goes before TOO_MANY");
        for (int bows = 0; bows <= 24; bows += 12) {
            BowSpeeches x = withBows(bows);
            Check.due("an empty pad behind " + bows, x.read(), BAD_TEXT);
            x.put('1');
            Check.due("a pad that ends too early behind " + bows, x.read(), BAD_TEXT);
            x.wipe();
            x.put('x');
            Check.due("a wrong character behind " + bows, x.read(), BAD_TEXT);
            x.wipe();
            Bows.write(x, "1l".repeat(29) + "1x");
            Check.due("too many bows and a wrong character behind " + bows, x.read(), BAD_TEXT);
            Check.due("bows", x.count(3), bows);
            Check.due("the pad", x.count(8), 60);
        }
    }

    private static void promise6TooMany() {
        Check.about("6: TOO_MANY if it would have more than 24");
        for (int bows = 0; bows <= 24; bows++) {
            BowSpeeches x = withBows(bows);
            Bows.write(x, "3r".repeat(25 - bows));
            Check.due("one too many behind " + bows, x.read(), TOO_MANY);
            Check.due("bows", x.count(3), bows);
            Check.due("the pad", x.count(8), 2 * (25 - bows));
            if (bows < 24) {
                x.wipe();
                Bows.write(x, "3r".repeat(24 - bows));
                Check.due("as many as there is room for behind " + bows, x.read(), 24);
                Check.due("the 24th", x.takeBack(), 5);
            }
        }
        Check.due("25 behind none", Bows.withText("1l".repeat(25)).read(), TOO_MANY);
        Check.due("30 behind none", Bows.withText("1l".repeat(30)).read(), TOO_MANY);
        BowSpeeches pauses = withBows(10);
        Bows.write(pauses, "1l.5".repeat(15));
        Check.due("15 with pauses behind 10", pauses.read(), TOO_MANY);
        pauses.takeBack();
        Check.due("15 with pauses behind 9", pauses.read(), 24);
    }

    // ---- promise 7

    private static void promise7Hush() {
        Check.about("7: returns how many bows it had");
        for (int bows = 0; bows <= 24; bows++) {
            BowSpeeches x = withBows(bows);
            Check.due("hush() of " + bows, x.hush(), bows);
            Check.due("bows then", x.count(3), 0);
            Check.due("hush() again", x.hush(), 0);
            Check.due("changes: hush() of none is one too", x.count(9), Math.min(6, bows + 2));
        }
    }

    // ---- promise 8

    private static void promise8Taken() {
        Check.about("8: returns how many sentences are taken, by all courtiers, together");
        for (int sentences = 1; sentences <= 6; sentences++) {
            BowSpeeches x = new BowSpeeches();
            for (int sentence = 0; sentence < sentences; sentence++) {
                Bows.sayKind(x, 0, 5);
            }
            Check.due("give() of " + sentences, x.give(), 5 * sentences);
            Check.due("sentences taken", x.count(5), 5 * sentences);
            Check.due("speeches given", x.count(4), 1);
        }
        BowSpeeches none = Bows.reading("1l.31l.11l.31r");
        for (int courtier = 0; courtier < 6; courtier++) {
            none.eyes(courtier, 2);
        }
        Check.due("give() that none understands", none.give(), 0);
        Check.due("speeches given", none.count(4), 1);
        BowSpeeches own = Bows.reading("3r.31l.11l.31r");
        for (int courtier = 0; courtier < 5; courtier++) {
            own.eyes(courtier, 2);
        }
        Check.due("give() that its giver alone understands", own.give(), 0);
        BowSpeeches all = Bows.reading("3r.31l1l.31r");
        all.eyes(5, 1);
        Check.due("give() that its giver takes for another's", all.give(), 6);
    }

    private static void promise8NotPossible() {
        Check.about("8: NOT_POSSIBLE if it says nothing (to eyes that see all as it is)");
        String[] nothing = {"", "1l.31l1l.31r.31l1l1l1l", "1l1l1l", "1l.31r.32l", "1l.31l1l.31l"};
        for (int reason = 1; reason <= 5; reason++) {
            BowSpeeches x = Bows.reading(nothing[reason - 1]);
            Check.due("the reason", x.speech(0, 1), reason);
            Check.due("give() for reason " + reason, x.give(), NOT_POSSIBLE);
            Check.due("speeches given", x.count(4), 0);
        }
        BowSpeeches x = Bows.reading("1l.11l1l.11r");
        for (int courtier = 0; courtier < 6; courtier++) {
            x.eyes(courtier, 2);
        }
        Check.due("all would understand it, but it says nothing", x.give(), NOT_POSSIBLE);
        x.set(BowSpeeches.BREAK, 2);
        Check.due("give() with BREAK 2", x.give(), NOT_POSSIBLE);
    }
}
