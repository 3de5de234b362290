/** Promises 1 to 8. */
public final class ChangesTest {
    private static final int NO_SUCH = -1000001, BAD_VALUE = -1000002, BAD_TEXT = -1000003, TOO_MANY = -1000004,
            NOT_POSSIBLE = -1000005, NONE = -1000006;
    private static final int[] ODD = {Integer.MIN_VALUE, -1000006, -2, -1, 10, 24, 1000, Integer.MAX_VALUE};

    public static void main(String[] args) {
        promise1NewObject();
        promise1ObjectsStandApart();
        promise2Set();
        promise2WrongInputs();
        promise2WhatSettingsDo();
        promise3Eyes();
        promise4Bow();
        promise4Full();
        promise5TakeBack();
        promise6Read();
        promise6Errors();
        promise6Pad();
        promise7Hush();
        promise8Give();
        promise8Eyes();
        promise8NotPossible();
        promise8Limits();
        promise8SentencesInTurn();
        Check.end();
    }

    private static void promise1NewObject() {
        BowSpeeches x = new BowSpeeches();
        int[] counts = {3, 2, 3, 0, 0, 0, 0, 0, 0, 0};
        for (int what = 0; what < counts.length; what++) {
            Check.due("new: count(" + what + ")", x.count(what), counts[what]);
        }
        for (int courtier = 0; courtier < 6; courtier++) {
            for (int what = 0; what < 4; what++) {
                Check.due("new: courtier(" + courtier + ", " + what + ")", x.courtier(courtier, what), 0);
            }
            for (int giver = 0; giver < 6; giver++) {
                Check.due("new: favour(" + courtier + ", " + giver + ")", x.favour(courtier, giver), 0);
            }
        }
        for (int eyes = 0; eyes < 3; eyes++) {
            Check.due("new: speech(eyes, 0)", x.speech(eyes, 0), 0);
            Check.due("new: speech(eyes, 1)", x.speech(eyes, 1), 1);
            Check.due("new: speech(eyes, 2)", x.speech(eyes, 2), 0);
            Check.due("new: speech(eyes, 3)", x.speech(eyes, 3), 0);
        }
        Check.due("new: fault()", x.fault(), 0);
        Check.due("new: undo()", x.undo(), NOT_POSSIBLE);
        Check.due("new: restore(0)", x.restore(0), NOT_POSSIBLE);
        Check.due("new: restore(1)", x.restore(1), NOT_POSSIBLE);
    }

    private static void promise1ObjectsStandApart() {
        BowSpeeches used = new BowSpeeches();
        used.set(BowSpeeches.BREAK, 9);
        used.eyes(3, 2);
        used.save(0);
        Bows.write(used, "1l");
        Bows.sayKind(used, 0, 1);
        Check.due("one object's calls are no other's", Look.at(new BowSpeeches()), Look.at(new BowSpeeches()));
        promise1NewObject();
        Check.due("the used one keeps its bows", used.count(3), 4);
    }

    private static void promise2Set() {
        int[] first = {3, 2, 3};
        int[] lowest = {2, 1, 1};
        for (int setting = 0; setting < 3; setting++) {
            BowSpeeches x = new BowSpeeches();
            int before = first[setting];
            for (int value = lowest[setting]; value <= 9; value++) {
                Check.due("set(" + setting + ", " + value + ")", x.set(setting, value), before);
                before = value;
                for (int other = 0; other < 3; other++) {
                    Check.due("count(" + other + ") behind it", x.count(other), other == setting ? value : first[other]);
                }
            }
            Check.due("set once more", x.set(setting, lowest[setting]), 9);
            Check.due("the same again", x.set(setting, lowest[setting]), lowest[setting]);
            Check.due("changes that can be undone", x.count(9), 6);
        }
        BowSpeeches x = new BowSpeeches();
        x.set(1, 2);
        Check.due("the same value is a change too", x.count(9), 1);
    }

    private static void promise2WrongInputs() {
        int[][] wrong = {{0, 1}, {0, 10}, {0, 0}, {0, -3}, {1, 0}, {1, 10}, {2, 0}, {2, 10}, {-1, 3}, {3, 3}, {3, 0}};
        for (int[] w : wrong) {
            wrongSet(w[0], w[1]);
        }
        for (int odd : ODD) {
            wrongSet(odd, 3);
            for (int setting = 0; setting < 3; setting++) {
                wrongSet(setting, odd);
            }
        }
    }

    private static void wrongSet(int setting, int value) {
        BowSpeeches x = new BowSpeeches();
        String call = "set(" + setting + ", " + value + ")";
        Check.due(call, x.set(setting, value), BAD_VALUE);
        Check.due(call + ", then BREAK", x.count(0), 3);
        Check.due(call + ", then PLUS", x.count(1), 2);
        Check.due(call + ", then MINUS", x.count(2), 3);
        Check.due(call + ", then the history", x.count(9), 0);
    }

    private static void promise2WhatSettingsDo() {
        for (int beats = 2; beats <= 9; beats++) {
            BowSpeeches x = Bows.reading("1l.0" + "1l.1" + "1l.2" + "1l.3" + "1l.4" + "1l.5" + "1l.6" + "1l.7" + "1l.8");
            x.bow(1, 0, 9);
            x.set(BowSpeeches.BREAK, beats);
            Check.due("groups with BREAK " + beats, x.speech(0, 0), 10 - beats);
        }
        BowSpeeches x = new BowSpeeches();
        x.set(BowSpeeches.PLUS, 7);
        x.set(BowSpeeches.MINUS, 1);
        Bows.sayKind(x, 0, 1);
        Bows.sayUnkind(x, 2, 1);
        x.give();
        Check.due("PLUS", x.favour(3, 0), 7);
        Check.due("PLUS twice", x.favour(1, 0), 14);
        Check.due("MINUS", x.favour(3, 2), -1);
        Check.due("MINUS twice", x.favour(1, 2), -2);
    }

    private static void promise3Eyes() {
        for (int courtier = 0; courtier < 6; courtier++) {
            BowSpeeches x = new BowSpeeches();
            Check.due("eyes(.., 2)", x.eyes(courtier, 2), 0);
            Check.due("eyes(.., 1)", x.eyes(courtier, 1), 2);
            Check.due("eyes(.., 1) again", x.eyes(courtier, 1), 1);
            Check.due("history", x.count(9), 3);
            for (int other = 0; other < 6; other++) {
                Check.due("eyes of " + other, x.courtier(other, 0), other == courtier ? 1 : 0);
            }
            Check.due("eyes(.., 0)", x.eyes(courtier, 0), 1);
            Check.due("eyes then", x.courtier(courtier, 0), 0);
            Check.due("eyes(.., 3)", x.eyes(courtier, 3), BAD_VALUE);
            Check.due("eyes(.., -1)", x.eyes(courtier, -1), BAD_VALUE);
            Check.due("eyes behind errors", x.courtier(courtier, 0), 0);
            Check.due("history behind errors", x.count(9), 4);
        }
        BowSpeeches x = new BowSpeeches();
        Check.due("eyes(-1, 0)", x.eyes(-1, 0), NO_SUCH);
        Check.due("eyes(6, 2)", x.eyes(6, 2), NO_SUCH);
        Check.due("eyes(6, 3)", x.eyes(6, 3), NO_SUCH);
        for (int odd : ODD) {
            Check.due("eyes(" + odd + ", 1)", x.eyes(odd, 1), NO_SUCH);
            Check.due("eyes(1, " + odd + ")", x.eyes(1, odd), BAD_VALUE);
            Check.due("eyes(" + odd + ", " + odd + ")", x.eyes(odd, odd), NO_SUCH);
        }
        Check.due("no error is a change", x.count(9), 0);
    }

    private static void promise4Bow() {
        for (int number = 0; number < 6; number++) {
            for (int pause = 0; pause <= 9; pause++) {
                BowSpeeches x = new BowSpeeches();
                Check.due("first bow", x.bow(number / 2 + 1, number % 2, pause), 1);
                Check.due("its word", x.word(0, 0), number);
                Check.due("second bow", x.bow(1, 1, 0), 2);
                Check.due("groups behind a pause of " + pause, x.speech(0, 0), pause >= 3 ? 2 : 1);
                Check.due("bows", x.count(3), 2);
                Check.due("history", x.count(9), 2);
            }
        }
        BowSpeeches x = new BowSpeeches();
        x.bow(2, 1, 4);
        int[][] wrong = {{0, 0, 0}, {4, 0, 0}, {-1, 0, 0}, {1, -1, 0}, {1, 2, 0}, {1, 0, -1}, {1, 0, 10}};
        for (int[] w : wrong) {
            Check.due("bow(" + w[0] + ", " + w[1] + ", " + w[2] + ")", x.bow(w[0], w[1], w[2]), BAD_VALUE);
        }
        for (int odd : ODD) {
            Check.due("bow(" + odd + ", 0, 0)", x.bow(odd, 0, 0), BAD_VALUE);
            Check.due("bow(1, " + odd + ", 0)", x.bow(1, odd, 0), BAD_VALUE);
            Check.due("bow(1, 0, " + odd + ")", x.bow(1, 0, odd), BAD_VALUE);
        }
        Check.due("bows behind errors", x.count(3), 1);
        Check.due("history behind errors", x.count(9), 1);
    }

    private static void promise4Full() {
        BowSpeeches x = new BowSpeeches();
        for (int bow = 1; bow <= 24; bow++) {
            Check.due("bow " + bow, x.bow(bow % 3 + 1, bow % 2, 9), bow);
        }
        Check.due("a 25th bow", x.bow(1, 0, 0), TOO_MANY);
        Check.due("a 25th bow again", x.bow(3, 1, 9), TOO_MANY);
        Check.due("a wrong bow", x.bow(0, 0, 0), BAD_VALUE);
        Check.due("a wrong side", x.bow(1, 2, 0), BAD_VALUE);
        Check.due("a wrong pause", x.bow(1, 0, 10), BAD_VALUE);
        Check.due("bows", x.count(3), 24);
        Check.due("groups", x.speech(0, 0), 24);
        Check.due("the last group", x.word(0, 23), 0);
        Check.due("behind the last group", x.word(0, 24), NO_SUCH);
        Check.due("takeBack", x.takeBack(), 0);
        Check.due("a 24th bow again", x.bow(3, 1, 0), 24);
        Check.due("its word", x.word(0, 23), 5);
    }

    private static void promise5TakeBack() {
        BowSpeeches x = new BowSpeeches();
        Check.due("takeBack() of nothing", x.takeBack(), NOT_POSSIBLE);
        Check.due("no change", x.count(9), 0);
        x.eyes(0, 1);
        x.eyes(1, 2);
        for (int number = 0; number < 6; number++) {
            Bows.one(x, number, number);
        }
        for (int number = 5; number >= 0; number--) {
            Check.due("takeBack()", x.takeBack(), number);
            Check.due("bows then", x.count(3), number);
        }
        Check.due("takeBack() of nothing again", x.takeBack(), NOT_POSSIBLE);
        Check.due("history", x.count(9), 6);
        Check.due("undo()", x.undo(), 5);
        Check.due("the bow is there again", x.word(0, 0), 0);
    }

    private static void promise6Read() {
        BowSpeeches x = Bows.withText("2r.4" + "3l" + "1r.0" + "1l.9");
        Check.due("read()", x.read(), 4);
        Check.due("the pad is empty", x.count(8), 0);
        Check.due("history", x.count(9), 1);
        Check.due("groups", x.speech(0, 0), 2);
        Check.due("word 0", x.word(0, 0), 3);
        Check.due("word 1", x.word(0, 1), 42 + 36 * 4 + 6 * 1 + 0);
        Bows.write(x, "3r");
        Check.due("read() behind them", x.read(), 5);
        Check.due("word 2", x.word(0, 2), 5);
        Check.due("read() of an empty pad", x.read(), BAD_TEXT);
        for (int pause = 0; pause <= 9; pause++) {
            BowSpeeches y = Bows.reading("1l." + pause + "1r");
            Check.due("groups of 1l." + pause + "1r", y.speech(0, 0), pause >= 3 ? 2 : 1);
        }
        String[] bows = {"1l", "1r", "2l", "2r", "3l", "3r"};
        for (int number = 0; number < 6; number++) {
            Check.due(bows[number], Bows.reading(bows[number]).takeBack(), number);
        }
    }

    private static void promise6Errors() {
        for (String text : new String[] {"", "1", "1x", "1l.", "1l.x", "4l", "0l", "l1", "1l2", "1l.33", "1L", "1l..1"}) {
            BowSpeeches x = Bows.withText(text);
            Check.due("read() of " + text, x.read(), BAD_TEXT);
            Check.due("the pad stays: " + text, x.count(8), text.length());
            Check.due("no bow from " + text, x.count(3), 0);
            Check.due("no change by " + text, x.count(9), 0);
        }
        for (int bows = 20; bows <= 24; bows++) {
            BowSpeeches x = new BowSpeeches();
            for (int bow = 0; bow < bows; bow++) {
                x.bow(1, 0, 9);
            }
            Bows.write(x, "1r2l.52r3l3r.4");
            Check.due("read() of 5 more than " + bows, x.read(), TOO_MANY);
            Check.due("bows as before", x.count(3), bows);
            Check.due("the pad as before", x.count(8), 14);
            Check.due("history", x.count(9), 6);
            x.put('x');
            Check.due("a fault goes first", x.read(), BAD_TEXT);
            x.wipe();
            Bows.write(x, "1r".repeat(24 - bows));
            Check.due("as many as there is room for", x.read(), bows == 24 ? BAD_TEXT : 24);
        }
        BowSpeeches x = Bows.withText("1l".repeat(30));
        Check.due("read() of 30", x.read(), TOO_MANY);
        Check.due("read() of 25", Bows.withText("1l".repeat(25)).read(), TOO_MANY);
        Check.due("read() of 24", Bows.withText("1l".repeat(24)).read(), 24);
        BowSpeeches last = new BowSpeeches();
        Bows.write(last, "1l".repeat(23));
        last.read();
        Bows.write(last, "3r.9");
        Check.due("read() of the 24th", last.read(), 24);
        Check.due("it is the 24th", last.takeBack(), 5);
    }

    private static void promise6Pad() {
        BowSpeeches x = Bows.reading("1l.5");
        Bows.write(x, "2l");
        Check.due("undo() of read()", x.undo(), 0);
        Check.due("bows", x.count(3), 0);
        Check.due("undo leaves the pad", x.count(8), 2);
        Check.due("and its text", x.read(), 1);
        Check.due("the bow read", x.takeBack(), 2);
    }

    private static void promise7Hush() {
        BowSpeeches x = new BowSpeeches();
        Check.due("hush() of nothing", x.hush(), 0);
        Check.due("it is a change", x.count(9), 1);
        Bows.sayKind(x, 0, 1);
        x.eyes(2, 1);
        x.set(1, 8);
        Bows.write(x, "1l");
        Check.due("hush()", x.hush(), 4);
        Check.due("bows", x.count(3), 0);
        Check.due("reason", x.speech(0, 1), 1);
        Check.due("groups", x.speech(0, 0), 0);
        Check.due("eyes stay", x.courtier(2, 0), 1);
        Check.due("settings stay", x.count(1), 8);
        Check.due("the pad stays", x.count(8), 2);
        Check.due("nothing is given", x.count(4), 0);
        Check.due("undo()", x.undo(), 5);
        Check.due("the bows are there again", x.speech(0, 2), 1);
    }

    private static void promise8Give() {
        BowSpeeches x = new BowSpeeches();
        Bows.sayKind(x, 4, 2);
        Check.due("give()", x.give(), 5);
        for (int courtier = 0; courtier < 6; courtier++) {
            for (int giver = 0; giver < 6; giver++) {
                int due = giver != 4 || courtier == 4 ? 0 : courtier == 2 ? 4 : 2;
                Check.due("favour(" + courtier + ", " + giver + ")", x.favour(courtier, giver), due);
            }
        }
        Check.due("the speech is empty", x.count(3), 0);
        Check.due("speeches given", x.count(4), 1);
        Check.due("sentences taken", x.count(5), 5);
        Bows.sayUnkind(x, 4, 0);
        Bows.group(x, 3, 1, 2, 3);
        Bows.sayKind(x, 1, 4);
        Check.due("give() of two with a flourish", x.give(), 10);
        int[] for4 = {2 - 6, 2 - 3, 4 - 3, 2 - 3, 0, 2 - 3};
        int[] for1 = {2, 0, 2, 2, 4, 2};
        for (int courtier = 0; courtier < 6; courtier++) {
            Check.due("favour(" + courtier + ", 4)", x.favour(courtier, 4), for4[courtier]);
            Check.due("favour(" + courtier + ", 1)", x.favour(courtier, 1), for1[courtier]);
        }
        Check.due("speeches given then", x.count(4), 2);
        Check.due("sentences taken then", x.count(5), 15);
        Check.due("undo()", x.undo() >= 0 ? 1 : 0, 1);
        Check.due("the speech is there again", x.count(3), 11);
        Check.due("speeches given behind undo", x.count(4), 1);
        Check.due("sentences taken behind undo", x.count(5), 5);
        Check.due("favour behind undo", x.favour(2, 4), 4);
        for (int b = 0; b < 6; b++) {
            BowSpeeches y = new BowSpeeches();
            Bows.say(y, 0, 5 - b, b, 1);
            y.give();
            Check.due("deed of " + (5 - b) + " and " + b, y.favour(1, 0), b % 2 == 0 ? 4 : -6);
        }
    }

    private static void promise8Eyes() {
        BowSpeeches x = new BowSpeeches();
        x.eyes(4, 1);
        x.eyes(2, 1);
        x.eyes(1, 2);
        // To eyes 1 the giver is 2 and the receiver 3; to eyes 2 the deed falls apart, so courtier 1 takes nothing.
        x.bow(3, 0, 3);
        x.bow(1, 0, 1);
        x.bow(1, 0, 3);
        x.bow(3, 1, 0);
        Check.due("give()", x.give(), 1 + 0 + 0 + 1 + 1 + 1);
        Check.due("favour(0, 4): sees it", x.favour(0, 4), 2);
        Check.due("favour(1, 4): understands nothing", x.favour(1, 4), 0);
        Check.due("favour(2, 4): takes itself for the giver", x.favour(2, 4), 0);
        Check.due("favour(2, 2)", x.favour(2, 2), 0);
        Check.due("favour(3, 4)", x.favour(3, 4), 2);
        Check.due("favour(4, 2): the giver, but does not know it", x.favour(4, 2), 2);
        Check.due("favour(4, 4)", x.favour(4, 4), 0);
        Check.due("favour(5, 4): the receiver", x.favour(5, 4), 4);
        BowSpeeches y = Bows.withEyes(new BowSpeeches(), 3, 1);
        Bows.sayUnkind(y, 0, 5);
        y.give();
        Check.due("courtier 3 takes itself for the receiver", y.favour(3, 0), -6);
        Check.due("so does the receiver", y.favour(5, 0), -6);
        Check.due("another", y.favour(4, 0), -3);
        BowSpeeches z = Bows.withEyes(new BowSpeeches(), 0, 1);
        Bows.sayKind(z, 3, 5);
        Check.due("to eyes 1 it is said to itself", z.give(), 4);
        Check.due("so it takes nothing", z.favour(0, 3), 0);
    }

    private static void promise8NotPossible() {
        String[] nothing = {"1l1l1l1l", "1l.3", "1l.31l1l.3", "1l1l.31l.31r.3", "1l.31r.32l.3", "1l.31l1l.31l.3", "1l1l1l",
            "1l.31l1l.31r1r.3"};
        for (String text : nothing) {
            BowSpeeches x = Bows.reading(text);
            Check.due("give() of " + text, x.give(), NOT_POSSIBLE);
            Check.due("bows stay: " + text, x.count(3) > 0 ? 1 : 0, 1);
            Check.due("no change: " + text, x.count(9), 1);
            Check.due("none given: " + text, x.count(4) + x.count(5) + x.count(7), 0);
        }
        Check.due("give() of nothing", new BowSpeeches().give(), NOT_POSSIBLE);
        // Only to eyes 2 it is three words: the others see one group of four bows.
        BowSpeeches x = Bows.reading("1l.11l1r.12l.1");
        for (int courtier = 0; courtier < 6; courtier++) {
            x.eyes(courtier, 2);
        }
        Check.due("what eyes 2 see", x.speech(2, 2), 1);
        Check.due("what eyes 2 see does not help", x.give(), NOT_POSSIBLE);
        // Nobody but the speech itself is needed: all six may miss it.
        BowSpeeches y = Bows.reading("1l.31l.11r.32l.3");
        for (int courtier = 0; courtier < 6; courtier++) {
            y.eyes(courtier, 2);
        }
        Check.due("give() that none understands", y.give(), 0);
        Check.due("it is given", y.count(4), 1);
        Check.due("it is empty", y.count(3), 0);
        Check.due("none is taken", y.count(5), 0);
    }

    private static void promise8Limits() {
        BowSpeeches x = new BowSpeeches();
        x.set(BowSpeeches.PLUS, 9);
        x.set(BowSpeeches.MINUS, 9);
        for (int sentence = 0; sentence < 6; sentence++) {
            Bows.sayKind(x, 0, 1);
        }
        Check.due("give() of six", x.give(), 30);
        Check.due("the receiver: 99 at most", x.favour(1, 0), 99);
        Check.due("the others", x.favour(2, 0), 54);
        for (int sentence = 0; sentence < 5; sentence++) {
            Bows.sayKind(x, 0, 1);
        }
        Bows.sayUnkind(x, 0, 1);
        x.give();
        Check.due("the limit holds behind each sentence", x.favour(1, 0), 99 - 18);
        Check.due("and for the others", x.favour(2, 0), 99 - 9);
        BowSpeeches y = new BowSpeeches();
        y.set(BowSpeeches.PLUS, 9);
        y.set(BowSpeeches.MINUS, 9);
        for (int sentence = 0; sentence < 6; sentence++) {
            Bows.sayUnkind(y, 5, 4);
        }
        y.give();
        Check.due("-99 at least", y.favour(4, 5), -99);
        Check.due("the others then", y.favour(0, 5), -54);
        for (int sentence = 0; sentence < 5; sentence++) {
            Bows.sayUnkind(y, 5, 4);
        }
        Bows.sayKind(y, 5, 4);
        y.give();
        Check.due("-99 behind each sentence", y.favour(4, 5), -99 + 18);
        Check.due("-99 and 9 more", y.favour(0, 5), -99 + 9);
        exactLimits();
    }

    /** 11 times 9 is 99: the limit itself can be reached without being cut. */
    private static void exactLimits() {
        BowSpeeches x = new BowSpeeches();
        x.set(BowSpeeches.PLUS, 9);
        x.set(BowSpeeches.MINUS, 9);
        for (int sentence = 0; sentence < 6; sentence++) {
            Bows.sayKind(x, 0, 1);
        }
        x.give();
        for (int sentence = 0; sentence < 5; sentence++) {
            Bows.sayKind(x, 0, 1);
        }
        x.give();
        Check.due("11 times 9", x.favour(3, 0), 99);
        x.set(BowSpeeches.PLUS, 1);
        Bows.sayKind(x, 0, 1);
        x.give();
        Check.due("and one more", x.favour(3, 0), 99);
        x.set(BowSpeeches.MINUS, 1);
        Bows.sayUnkind(x, 0, 1);
        x.give();
        Check.due("and one less", x.favour(3, 0), 98);
        Check.due("and two less", x.favour(1, 0), 97);
    }

    private static void promise8SentencesInTurn() {
        BowSpeeches x = new BowSpeeches();
        Bows.sayKind(x, 0, 1);
        Bows.sayKind(x, 1, 0);
        Bows.sayUnkind(x, 0, 2);
        Bows.sayKind(x, 5, 4);
        Check.due("give()", x.give(), 20);
        int[][] due = {
            {0, 4, 0, 0, 0, 2}, {4 - 3, 0, 0, 0, 0, 2}, {2 - 6, 2, 0, 0, 0, 2},
            {2 - 3, 2, 0, 0, 0, 2}, {2 - 3, 2, 0, 0, 0, 4}, {2 - 3, 2, 0, 0, 0, 0}};
        for (int courtier = 0; courtier < 6; courtier++) {
            for (int giver = 0; giver < 6; giver++) {
                Check.due("in turn: favour(" + courtier + ", " + giver + ")", x.favour(courtier, giver), due[courtier][giver]);
            }
        }
        Check.due("no fault in an empty pad but its end", x.fault(), 0);
        Check.due("bestBow of the empty speech", x.bestBow(), NONE);
    }
}
