/** Each sentence under "Terms", and above it, that names a boundary: the last that is inside, the first that is not. */
public final class TermsBoundariesTest {
    private static final int NO_SUCH = -1000001, BAD_VALUE = -1000002, BAD_TEXT = -1000003, TOO_MANY = -1000004,
            NOT_POSSIBLE = -1000005, NONE = -1000006;
    private static final String[] BOWS = {"1l", "1r", "2l", "2r", "3l", "3r"};

    public static void main(String[] args) {
        lastCall();
        noneIsNoError();
        numberedFromNought();
        settings();
        bows();
        groupsEndBehindPauses();
        groupsEndWithTheSpeech();
        wordNumbers();
        longGroups();
        namesOfCourtiers();
        kindDeeds();
        flourishes();
        oneSentenceOrMore();
        reason1();
        reason2();
        reason3();
        reason4();
        reason5();
        firstReason();
        eyesThatSeeAll();
        eyesThatMissDepth();
        eyesThatMissShortPauses();
        giversTakeNothing();
        takersOfNothing();
        kindAndUnkind();
        favourAtMost();
        favourAtLeast();
        favourBehindEachSentence();
        favourForItself();
        speechIsEmptyThen();
        padLength();
        texts();
        depthsInTexts();
        sidesInTexts();
        pausesInTexts();
        noPauseInTexts();
        faults();
        textsThatEndTooEarly();
        Check.end();
    }

    // ---- calls, errors, numbers

    private static void lastCall() {
        Check.about("an object is used for at most 512 calls");
        BowSpeeches x = new BowSpeeches();
        for (int call = 1; call <= 506; call++) {
            Check.due("call " + call, x.hush(), 0);
        }
        Check.due("call 507", x.bow(2, 1, 9), 1);
        Check.due("call 508", x.save(1), 1);
        Check.due("call 509", x.put('1'), 1);
        Check.due("call 510", x.undo(), 5);
        Check.due("call 511", x.restore(1), 1);
        Check.due("call 512", x.takeBack(), 3);
    }

    private static void noneIsNoError() {
        Check.about("NONE is returned only if no error applies");
        BowSpeeches x = Bows.reading("1l1l1l1l");
        Check.due("a group of four", x.word(0, 0), NONE);
        Check.due("the same with eyes 3", x.word(3, 0), BAD_VALUE);
        Check.due("the same with eyes -1", x.word(-1, 0), BAD_VALUE);
        Check.due("the group behind it", x.word(0, 1), NO_SUCH);
        Check.due("the group before it", x.word(0, -1), NO_SUCH);
    }

    private static void numberedFromNought() {
        Check.about("everything is numbered from 0");
        BowSpeeches x = Bows.reading("3r.31l1r.31l.3");
        Check.due("the first group", x.word(0, 0), 5);
        Check.due("the first sentence", x.sentence(0, 0, 0), 5);
        Check.due("the first setting", x.set(0, 3), 3);
        Check.due("the first courtier", x.ifGiven(0, 5), -6);
        Check.due("the first slot", x.save(0), 4);
    }

    // ---- settings

    private static void settings() {
        int[] lowest = {2, 1, 1};
        int[] first = {3, 2, 3};
        String[] about = {"BREAK (2 to 9; 3)", "PLUS (1 to 9; 2)", "MINUS (1 to 9; 3)"};
        int[] names = {BowSpeeches.BREAK, BowSpeeches.PLUS, BowSpeeches.MINUS};
        for (int setting = 0; setting < 3; setting++) {
            Check.about(about[setting]);
            Check.due("the number of the setting", names[setting], setting);
            BowSpeeches x = new BowSpeeches();
            Check.due("its first value", x.count(setting), first[setting]);
            Check.due("below the lowest", x.set(setting, lowest[setting] - 1), BAD_VALUE);
            Check.due("above the highest", x.set(setting, 10), BAD_VALUE);
            Check.due("the first value then", x.count(setting), first[setting]);
            Check.due("the lowest", x.set(setting, lowest[setting]), first[setting]);
            Check.due("the highest", x.set(setting, 9), lowest[setting]);
            Check.due("the value then", x.count(setting), 9);
        }
    }

    // ---- bows, words

    private static void bows() {
        Check.about("a bow has a depth, 1 to 3, a side, 0 or 1, and a pause, 0 to 9 beats");
        BowSpeeches x = new BowSpeeches();
        Check.due("the lowest of all", x.bow(1, 0, 0), 1);
        Check.due("the highest of all", x.bow(3, 1, 9), 2);
        Check.due("depth 0", x.bow(0, 0, 0), BAD_VALUE);
        Check.due("depth 4", x.bow(4, 1, 9), BAD_VALUE);
        Check.due("side -1", x.bow(1, -1, 0), BAD_VALUE);
        Check.due("side 2", x.bow(3, 2, 9), BAD_VALUE);
        Check.due("pause -1", x.bow(1, 0, -1), BAD_VALUE);
        Check.due("pause 10", x.bow(3, 1, 10), BAD_VALUE);
        Check.due("bows then", x.count(3), 2);
        Check.due("their word", x.word(0, 0), 6 + 6 * 0 + 5);
        Check.about("a speech is a row of up to 24 bows");
        BowSpeeches y = Bows.reading("1l".repeat(23));
        Check.due("the 24th", y.bow(1, 0, 0), 24);
        Check.due("the 25th", y.bow(1, 0, 0), TOO_MANY);
        Check.due("bows then", y.count(3), 24);
    }

    private static void groupsEndBehindPauses() {
        Check.about("a group ends behind a bow with a pause of BREAK beats or more");
        for (int beats = 2; beats <= 9; beats++) {
            for (int pause = 0; pause <= 9; pause++) {
                BowSpeeches x = new BowSpeeches();
                x.set(BowSpeeches.BREAK, beats);
                x.bow(1, 0, pause);
                x.bow(1, 0, 0);
                Check.due("BREAK " + beats + ", pause " + pause, x.speech(0, 0), pause < beats ? 1 : 2);
                Check.due("the first word then", x.word(0, 0), pause < beats ? 6 : 0);
            }
        }
    }

    private static void groupsEndWithTheSpeech() {
        Check.about("a group ends behind the last bow of the speech");
        for (int pause = 0; pause <= 9; pause++) {
            BowSpeeches x = new BowSpeeches();
            x.bow(2, 0, pause);
            for (int eyes = 0; eyes < 3; eyes++) {
                Check.due("one bow, pause " + pause + ", eyes " + eyes, x.speech(eyes, 0), 1);
                Check.due("its word", x.word(eyes, 0), 2);
                Check.due("no word behind it", x.word(eyes, 1), NO_SUCH);
            }
        }
        Check.due("24 bows without a pause", Bows.reading("1l".repeat(24)).speech(0, 0), 1);
        BowSpeeches full = new BowSpeeches();
        for (int bow = 0; bow < 24; bow++) {
            full.bow(1, 0, 9);
        }
        Check.due("24 bows with long pauses", full.speech(0, 0), 24);
    }

    private static void word(String text, int due) {
        Check.due("the word of " + text, Bows.reading(text).word(0, 0), due);
    }

    private static void wordNumbers() {
        Check.about("a word of one bow: 0 to 5");
        for (int number = 0; number < 6; number++) {
            word(BOWS[number], number);
        }
        Check.about("a word of two bows: 6 to 41");
        word("1l1l", 6);
        word("1l1r", 7);
        word("1l3r", 11);
        word("1r1l", 12);
        word("3r1l", 36);
        word("3r3r", 41);
        Check.about("a word of three bows: 42 to 257");
        word("1l1l1l", 42);
        word("1l1l1r", 43);
        word("1l1r1l", 48);
        word("1l3r3r", 77);
        word("1r1l1l", 78);
        word("3r1l1l", 222);
        word("3r3r3r", 257);
    }

    private static void longGroups() {
        Check.about("a group of 1 to 3 bows is a word, a group of more than 3 bows is none");
        word("1l", 0);
        word("1l1l1l", 42);
        for (int bows = 4; bows <= 24; bows++) {
            word("1l".repeat(bows), NONE);
        }
        Check.due("a long one between two words", Bows.reading("1r.33r3r3r3r.32l").word(0, 1), NONE);
        Check.due("the word behind it", Bows.reading("1r.33r3r3r3r.32l").word(0, 2), 2);
    }

    private static void reason(String text, int due) {
        Check.due("reason of " + text, Bows.reading(text).speech(0, 1), due);
    }

    private static void namesOfCourtiers() {
        Check.about("a courtier, 0 to 5, is named by the word with its number (one bow)");
        for (int giver = 0; giver < 6; giver++) {
            int receiver = 5 - giver;
            BowSpeeches x = Bows.reading(BOWS[giver] + ".31l1l.3" + BOWS[receiver]);
            Check.due("the giver", x.sentence(0, 0, 0), giver);
            Check.due("the receiver", x.sentence(0, 0, 2), receiver);
        }
        reason("1l1l.31l1l.31r", 4);
        reason("1l.31l1l.31l1l", 4);
    }

    private static void kind(String deed, int number, int due) {
        BowSpeeches x = Bows.reading("1l.3" + deed + ".31r");
        Check.due("the deed of " + deed, x.sentence(0, 0, 1), number);
        Check.due("whether it is kind", x.sentence(0, 0, 3), due);
        Check.due("what it brings", x.ifGiven(1, 0), due == 1 ? 4 : -6);
    }

    private static void kindDeeds() {
        Check.about("a deed is kind, if its number is even, otherwise unkind");
        kind("1l1l", 6, 1);
        kind("1l1r", 7, 0);
        kind("3r3l", 40, 1);
        kind("3r3r", 41, 0);
    }

    private static void flourishes() {
        Check.about("a word of three bows says nothing: flourishes are left out");
        for (String text : new String[] {"1l1l1l.31l.31l1l.31r", "1l.33r3r3r.31l1l.31r", "1l.31l1l.31l3r1l.31r", "1l.31l1l.31r.33r1l3r",
            "1l1l1l.31l.31l1l1l.31l1l.31l1l1l.31r.31l1l1l"}) {
            Check.due("sentences of " + text, Bows.reading(text).speech(0, 2), 1);
            Check.due("the receiver in " + text, Bows.reading(text).sentence(0, 0, 2), 1);
        }
        BowSpeeches eight = new BowSpeeches();
        for (int flourish = 0; flourish < 8; flourish++) {
            Bows.group(eight, 9, 5, 5, 5);
        }
        Check.due("the most flourishes", eight.speech(0, 3), 8);
        Check.due("the reason then", eight.speech(0, 1), 3);
    }

    // ---- sentences

    private static void oneSentenceOrMore() {
        Check.about("what is left has to be one sentence or more");
        reason("1l1l1l", 3);
        BowSpeeches x = new BowSpeeches();
        for (int sentence = 1; sentence <= 6; sentence++) {
            Bows.sayKind(x, 5, 0);
            Check.due("reason of " + sentence, x.speech(0, 1), 0);
            Check.due("sentences of " + sentence, x.speech(0, 2), sentence);
        }
        Check.due("the bows of the most sentences", x.count(3), 24);
        Check.due("the last one", x.sentence(0, 5, 0), 5);
        Check.due("one behind the last", x.sentence(0, 6, 0), NO_SUCH);
    }

    private static void reason1() {
        Check.about("1 it has no bows");
        Check.due("no bows", new BowSpeeches().speech(0, 1), 1);
        reason("1l", 3);
        BowSpeeches x = Bows.reading("1l");
        x.takeBack();
        Check.due("the last one taken back", x.speech(0, 1), 1);
        Check.due("no groups", x.speech(0, 0), 0);
    }

    private static void reason2() {
        Check.about("2 a group has more than 3 bows");
        reason("1l1l1l", 3);
        reason("1l1l1l1l", 2);
        reason("1l.31l1l.31r.31l1l1l", 0);
        reason("1l.31l1l.31r.31l1l1l1l", 2);
        reason("1l1l1l1l.31l.31l1l.31r", 2);
        reason("1l.31l1l.31l1l1l1l.31r", 2);
    }

    private static void reason3() {
        Check.about("3 what is left is none, or is not of threes");
        reason("1l1l1l.31l1l1l", 3);
        for (int left = 1; left <= 24; left++) {
            BowSpeeches x = new BowSpeeches();
            for (int bow = 0; bow < left; bow++) {
                x.bow(1, 0, 3);
            }
            Check.due("reason with " + left + " left", x.speech(0, 1), left % 3 == 0 ? 4 : 3);
        }
        reason("1l.31l1l.31r.31r1r1r.31l", 3);
        reason("1l.31l1l.31r1r1r", 3);
    }

    private static void reason4() {
        Check.about("4 some three of it is not a courtier, a deed and a courtier, in this order");
        reason("1l.31l1l.31r", 0);
        reason("1l1l.31l1l.31r", 4);
        reason("1l.31l.31r", 4);
        reason("1l.31l1l.31r1r", 4);
        reason("1l1l.31l.31r", 4);
        reason("1l.31r.31l1l", 4);
        reason("1l.31l1l.31r.31l.31l1l.31r1r", 4);
        reason("1l1l.31l.31r.31l.31l1l.31r", 4);
    }

    private static void reason5() {
        Check.about("5 in some of them giver and receiver are the same");
        for (int courtier = 0; courtier < 6; courtier++) {
            reason(BOWS[courtier] + ".31l1l.3" + BOWS[courtier], 5);
            reason(BOWS[courtier] + ".31l1l.3" + BOWS[(courtier + 1) % 6], 0);
        }
        reason("1r.31l1l.31r.31l.31l1l.31r", 5);
        reason("1r.31l1l.31l.31l.31l1l.31l", 5);
        reason("1r.31l1l.31l.31l.31l1l.31r", 0);
    }

    private static void firstReason() {
        Check.about("for the first of these reasons that applies");
        reason("1l1l1l1l", 2);
        reason("1l1l1l1l.31l", 2);
        reason("1l1l1l1l.31l.31l.31l", 2);
        reason("1l.31l1l.31l.31l1l1l1l", 2);
        reason("1l.31l.31l.31l", 3);
        reason("1l.31l1l.31l.31l", 3);
        reason("1l.31l1l.31l.31l.31l.31l", 4);
        reason("1l.31l.31l.31l.31l1l.31l", 4);
        reason("1l.31l.31l", 4);
        reason("1l1l.31l1l.31l1l", 4);
    }

    // ---- courtiers who watch

    private static void eyesThatSeeAll() {
        Check.about("with 0 it sees all as it is");
        BowSpeeches x = Bows.reading("3l.23r.11l");
        Check.due("a pause of BREAK less 1", x.speech(0, 0), 1);
        Check.due("depths of 3", x.word(0, 0), 42 + 36 * 4 + 6 * 5 + 0);
    }

    private static void eyesThatMissDepth() {
        Check.about("with 1 it sees each depth of 3 as 2");
        int[] due = {0, 1, 2, 3, 2, 3};
        for (int number = 0; number < 6; number++) {
            BowSpeeches x = new BowSpeeches();
            Bows.one(x, number, 2);
            Check.due("the bow " + number, x.word(1, 0), due[number]);
            Bows.one(x, number, 1);
            Check.due("two bows " + number, x.word(1, 0), 6 + 7 * due[number]);
            Bows.one(x, number, 3);
            Check.due("three bows " + number, x.word(1, 0), 42 + 43 * due[number]);
            Check.due("pauses of BREAK less 1, and of 1, as they are", x.speech(1, 0), 1);
            Bows.one(x, number, 0);
            Check.due("a pause of BREAK as it is", x.speech(1, 0), 2);
        }
    }

    private static void eyesThatMissShortPauses() {
        Check.about("with 2 it takes each pause of 1 or more as long as BREAK or longer");
        for (int beats = 2; beats <= 9; beats++) {
            for (int pause = 0; pause <= 9; pause++) {
                BowSpeeches x = new BowSpeeches();
                x.set(BowSpeeches.BREAK, beats);
                x.bow(3, 0, pause);
                x.bow(3, 1, pause);
                Check.due("BREAK " + beats + ", pause " + pause, x.speech(2, 0), pause == 0 ? 1 : 2);
                Check.due("depth 3 as it is", x.word(2, 0), pause == 0 ? 6 + 6 * 4 + 5 : 4);
            }
        }
    }

    // ---- giving a speech

    private static void giversTakeNothing() {
        Check.about("but for those of which it is the giver");
        for (int giver = 0; giver < 6; giver++) {
            BowSpeeches x = new BowSpeeches();
            Bows.sayKind(x, giver, (giver + 1) % 6);
            Check.due("courtier(giver, 3)", x.courtier(giver, 3), 0);
            Check.due("courtier(receiver, 3)", x.courtier((giver + 1) % 6, 3), 1);
            Check.due("give()", x.give(), 5);
            Check.due("favour for itself", x.favour(giver, giver), 0);
        }
        BowSpeeches all = new BowSpeeches();
        for (int giver = 0; giver < 6; giver++) {
            Bows.sayKind(all, giver, (giver + 1) % 6);
        }
        Check.due("each courtier gives once", all.give(), 30);
        Check.due("one sees it otherwise, and so takes its own", giveBefore("3l.31l1l.31r", 4, 1), 6);
        Check.due("one sees it otherwise, and takes itself for the giver", giveBefore("3l.31l1l.31r", 2, 1), 4);
        BowSpeeches x = Bows.reading("3l.31l1l.31r");
        x.eyes(4, 1);
        x.eyes(2, 1);
        Check.due("what 2 would favour itself", x.ifGiven(2, 2), 0);
        Check.due("what 4 would favour itself", x.ifGiven(4, 4), 0);
        x.give();
        Check.due("favour(2, 2): it takes itself for the giver", x.favour(2, 2), 0);
        Check.due("favour(2, 4): who gave", x.favour(2, 4), 0);
        Check.due("favour(4, 2): whom it takes for the giver", x.favour(4, 2), 2);
        Check.due("favour(4, 4): the giver itself", x.favour(4, 4), 0);
    }

    private static int giveBefore(String text, int courtier, int eyes) {
        return Bows.withEyes(Bows.reading(text), courtier, eyes).give();
    }

    private static void takersOfNothing() {
        Check.about("all sentences that it understands (none, if the speech says nothing to it)");
        Check.due("one to whom it is not of threes", giveBefore("1l.31l.11l.31r.31l.31l1l.31r", 5, 2), 8);
        Check.due("one to whom it is said to itself", giveBefore("2l.31l1l.33l.31l.31l1l.31r", 5, 1), 8);
        BowSpeeches x = Bows.reading("1l.31l.11l.31r");
        for (int courtier = 0; courtier < 6; courtier++) {
            x.eyes(courtier, 2);
        }
        Check.due("none understands it", x.give(), 0);
        Check.due("it is given", x.count(4), 1);
        Check.due("no favour", x.count(7), 0);
    }

    private static void kindAndUnkind() {
        Check.about("PLUS more, otherwise MINUS less; if it is the receiver, twice as much");
        for (int beats = 1; beats <= 9; beats += 8) {
            BowSpeeches x = new BowSpeeches();
            x.set(BowSpeeches.PLUS, beats);
            x.set(BowSpeeches.MINUS, 10 - beats);
            Bows.sayKind(x, 0, 1);
            Bows.sayUnkind(x, 5, 4);
            x.give();
            Check.due("PLUS", x.favour(4, 0), beats);
            Check.due("PLUS twice", x.favour(1, 0), 2 * beats);
            Check.due("MINUS", x.favour(1, 5), beats - 10);
            Check.due("MINUS twice", x.favour(4, 5), 2 * (beats - 10));
        }
    }

    /** One sentence from 0 to 5, with PLUS and MINUS alike: what 5, the receiver, and 3, another one, favour then. */
    private static void once(BowSpeeches x, int value, boolean kind, int due5, int due3) {
        x.set(BowSpeeches.PLUS, value);
        x.set(BowSpeeches.MINUS, value);
        String call = (kind ? "kind by " : "unkind by ") + value;
        Bows.say(x, 0, 0, kind ? 0 : 1, 5);
        Check.due("ifGiven(5, 0), " + call, x.ifGiven(5, 0), due5);
        Check.due("ifGiven(3, 0), " + call, x.ifGiven(3, 0), due3);
        x.give();
        Check.due("favour(5, 0), " + call, x.favour(5, 0), due5);
        Check.due("favour(3, 0), " + call, x.favour(3, 0), due3);
    }

    /** Said by 0 to 5 seven times with 7: 98 or -98 for the receiver, 49 or -49 for the others. */
    private static BowSpeeches at98(boolean kind) {
        BowSpeeches x = new BowSpeeches();
        x.set(BowSpeeches.PLUS, 7);
        x.set(BowSpeeches.MINUS, 7);
        Bows.giveTimes(x, 7, kind, 0, 5);
        return x;
    }

    private static void favourAtMost() {
        Check.about("a favour is 99 at most");
        BowSpeeches x = at98(true);
        Check.due("favour(5, 0)", x.favour(5, 0), 98);
        Check.due("favour(3, 0)", x.favour(3, 0), 49);
        once(x, 1, true, 99, 50);
        once(x, 1, true, 99, 51);
        once(x, 9, true, 99, 60);
        once(x, 1, false, 97, 59);
        once(x, 1, true, 99, 60);
        once(x, 9, true, 99, 69);
        once(x, 9, true, 99, 78);
        once(x, 9, true, 99, 87);
        once(x, 9, true, 99, 96);
        once(x, 3, true, 99, 99);
        once(x, 1, true, 99, 99);
        once(x, 1, false, 97, 98);
        once(x, 2, true, 99, 99);
        once(x, 9, false, 81, 90);
    }

    private static void favourAtLeast() {
        Check.about("a favour is -99 at least");
        BowSpeeches x = at98(false);
        Check.due("favour(5, 0)", x.favour(5, 0), -98);
        Check.due("favour(3, 0)", x.favour(3, 0), -49);
        once(x, 1, false, -99, -50);
        once(x, 1, false, -99, -51);
        once(x, 9, false, -99, -60);
        once(x, 1, true, -97, -59);
        once(x, 1, false, -99, -60);
        once(x, 9, false, -99, -69);
        once(x, 9, false, -99, -78);
        once(x, 9, false, -99, -87);
        once(x, 9, false, -99, -96);
        once(x, 3, false, -99, -99);
        once(x, 1, false, -99, -99);
        once(x, 1, true, -97, -98);
        once(x, 2, false, -99, -99);
        once(x, 9, true, -81, -90);
    }

    private static void favourBehindEachSentence() {
        Check.about("a favour is -99 at least, 99 at most, behind each sentence");
        BowSpeeches x = at98(true);
        Bows.sayKind(x, 0, 5);
        Bows.sayUnkind(x, 0, 4);
        Check.due("98, 14 more, 7 less", x.ifGiven(5, 0), 99 - 7);
        x.give();
        Check.due("98, 14 more, 7 less", x.favour(5, 0), 99 - 7);
        BowSpeeches y = at98(false);
        Bows.sayUnkind(y, 0, 5);
        Bows.sayKind(y, 0, 4);
        Check.due("-98, 14 less, 7 more", y.ifGiven(5, 0), -99 + 7);
        y.give();
        Check.due("-98, 14 less, 7 more", y.favour(5, 0), -99 + 7);
        BowSpeeches z = at98(true);
        Bows.sayUnkind(z, 0, 4);
        Bows.sayKind(z, 0, 5);
        Check.due("98, 7 less, 14 more", z.ifGiven(5, 0), 99);
        z.give();
        Check.due("98, 7 less, 14 more", z.favour(5, 0), 99);
    }

    private static void favourForItself() {
        Check.about("a favour is 0 at first, and what a courtier says itself doesn't change its favour");
        BowSpeeches x = at98(true);
        for (int courtier = 0; courtier < 6; courtier++) {
            Check.due("favour of " + courtier + " for itself", x.favour(courtier, courtier), 0);
            Check.due("favour of 0 for " + courtier, x.favour(0, courtier), 0);
        }
    }

    private static void speechIsEmptyThen() {
        Check.about("then the speech is empty");
        BowSpeeches x = new BowSpeeches();
        for (int sentence = 0; sentence < 6; sentence++) {
            Bows.sayKind(x, 2, 3);
        }
        Check.due("give() of 24 bows", x.give(), 30);
        Check.due("bows", x.count(3), 0);
        Check.due("reason", x.speech(0, 1), 1);
        Check.due("takeBack()", x.takeBack(), NOT_POSSIBLE);
        Check.due("give() again", x.give(), NOT_POSSIBLE);
    }

    // ---- texts

    private static void padLength() {
        Check.about("the pad is a text of at most 60 characters");
        BowSpeeches x = Bows.withText("1".repeat(59));
        Check.due("the 60th", x.put('1'), 60);
        Check.due("the 61st", x.put('1'), TOO_MANY);
        Check.due("the length then", x.count(8), 60);
    }

    private static void text(String text, int bows) {
        Check.due("fault() of " + text, Bows.withText(text).fault(), NONE);
        Check.due("read() of " + text, Bows.withText(text).read(), bows);
    }

    private static void fault(String text, int due) {
        Check.due("fault() of " + text, Bows.withText(text).fault(), due);
        BowSpeeches x = Bows.withText(text);
        Check.due("read() of " + text, x.read(), BAD_TEXT);
    }

    private static void texts() {
        Check.about("text = bow { bow }");
        fault("", 0);
        text("1l", 1);
        text("1l1l", 2);
        text("1l.1".repeat(15), 15);
        text("1l".repeat(24), 24);
        Check.due("30 bows have no fault", Bows.withText("1l".repeat(30)).fault(), NONE);
    }

    private static void depthsInTexts() {
        Check.about("a depth is a digit 1 to 3");
        fault("0l", 0);
        text("1l", 1);
        text("3l", 1);
        fault("4l", 0);
        fault("1l0l", 2);
        text("1l1l", 2);
        text("1l3l", 2);
        fault("1l4l", 2);
        fault("1l.00l", 4);
        text("1l.01l", 2);
        text("1l.93l", 2);
        fault("1l.94l", 4);
    }

    private static void sidesInTexts() {
        Check.about("a side is l or r");
        for (char side : new char[] {'k', 'm', 'q', 's', 'L', 'R', '.', '1'}) {
            fault("1" + side, 1);
            fault("3r1" + side, 3);
        }
        text("1l", 1);
        text("1r", 1);
        Check.due("l", Bows.reading("2l").takeBack(), 2);
        Check.due("r", Bows.reading("2r").takeBack(), 3);
    }

    private static void pausesInTexts() {
        Check.about("a pause is a point and a digit 0 to 9");
        fault("1l/0", 2);
        fault("1l-0", 2);
        fault("1l./", 3);
        fault("1l.:", 3);
        fault("1l.-1", 3);
        fault("1l.10", 4);
        fault("1l..1", 3);
        for (int pause = 0; pause <= 9; pause++) {
            text("1l." + pause, 1);
            BowSpeeches x = Bows.reading("1l." + pause + "1l");
            for (int beats = 2; beats <= 9; beats++) {
                x.set(BowSpeeches.BREAK, beats);
                Check.due("pause " + pause + ", BREAK " + beats, x.speech(0, 0), pause < beats ? 1 : 2);
            }
            Check.due("pause " + pause + ", eyes 2", x.speech(2, 0), pause < 1 ? 1 : 2);
        }
    }

    private static void noPauseInTexts() {
        Check.about("without it the pause is 0");
        BowSpeeches x = Bows.reading("1l1l");
        Check.due("eyes 2 see one group", x.speech(2, 0), 1);
        BowSpeeches y = Bows.reading("1l.91l1l");
        Check.due("also behind a pause of 9", y.speech(2, 0), 2);
    }

    private static void faults() {
        Check.about("the fault is the index of the first character that cannot stand at its place");
        fault("x", 0);
        fault("x1l", 0);
        fault("1xl", 1);
        fault("1lx", 2);
        fault("1l.x", 3);
        fault("1l.5x", 4);
        fault("11x", 1);
        fault("1l".repeat(29) + "1x", 59);
        fault("1l.1".repeat(14) + "1l.x", 59);
        fault("x" + "1".repeat(59), 0);
    }

    private static void textsThatEndTooEarly() {
        Check.about("if there is none and the text ends too early (also if it is empty), it is the length of the text");
        fault("", 0);
        fault("1", 1);
        fault("1l.", 3);
        fault("1l1", 3);
        fault("1l.1" + "1l.", 7);
        // What ends too early has an odd length, so 59 is the longest.
        fault("1l".repeat(29) + "1", 59);
        fault("1l.1".repeat(14) + "3r1", 59);
        fault("1l.1".repeat(14) + "1l.", 59);
    }
}
