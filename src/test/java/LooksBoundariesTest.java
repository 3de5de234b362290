/** Promises 9 to 17: each sentence that names a boundary. */
public final class LooksBoundariesTest {
    private static final int NO_SUCH = -1000001, BAD_VALUE = -1000002, NOT_POSSIBLE = -1000005, NONE = -1000006;

    public static void main(String[] args) {
        promise9Groups();
        promise9Reason();
        promise9Sentences();
        promise9Flourishes();
        promise9OutOfRange();
        promise10Word();
        promise10OutOfRange();
        promise10NoSuchGroup();
        promise10LongGroup();
        promise11FirstAndLast();
        promise11OutOfRange();
        promise11NoSuchSentence();
        promise11SaysNothing();
        promise12Extremes();
        promise12NoSuchCourtier();
        promise13Range();
        promise13Settings();
        promise13Bows();
        promise13GivenAndTaken();
        promise13SeeOtherwise();
        promise13SumOfAll();
        promise13Pad();
        promise13Undo();
        promise14Eyes();
        promise14Sums();
        promise14Sentences();
        promise14Errors();
        promise15IfGiven();
        promise15Errors();
        promise16MoreThanNow();
        promise16Lowest();
        promise16Full();
        promise17Greatest();
        promise17Lowest();
        Check.end();
    }

    private static BowSpeeches sentences(int many) {
        BowSpeeches x = new BowSpeeches();
        for (int sentence = 0; sentence < many; sentence++) {
            Bows.sayKind(x, 0, 1);
        }
        return x;
    }

    private static BowSpeeches singles(int bows) {
        BowSpeeches x = new BowSpeeches();
        for (int bow = 0; bow < bows; bow++) {
            x.bow(2, 1, 9);
        }
        return x;
    }

    /** All 30 favours of courtiers for others at an end: 99 or -99. */
    private static BowSpeeches extreme(boolean kind) {
        BowSpeeches x = new BowSpeeches();
        x.set(BowSpeeches.PLUS, 9);
        x.set(BowSpeeches.MINUS, 9);
        for (int turn = 0; turn < 11; turn++) {
            for (int giver = 0; giver < 6; giver++) {
                Bows.say(x, giver, 0, kind ? 0 : 1, (giver + 1) % 6);
            }
            x.give();
        }
        return x;
    }

    // ---- promise 9

    private static void promise9Groups() {
        Check.about("9: its groups");
        for (int bows = 0; bows <= 24; bows++) {
            Check.due("groups of " + bows + " bows", singles(bows).speech(0, 0), bows);
        }
        Check.due("one of 24 bows", Bows.reading("1l".repeat(24)).speech(0, 0), 1);
    }

    private static void promise9Reason() {
        Check.about("9: the reason for which it says nothing (0 if it does say something)");
        String[] texts = {"1l.31l1l.31r", "", "1l1l1l1l", "1l", "1l.31l.31r", "1l.31l1l.31l"};
        for (int reason = 0; reason <= 5; reason++) {
            Check.due("reason of " + texts[reason], Bows.reading(texts[reason]).speech(0, 1), reason);
        }
    }

    private static void promise9Sentences() {
        Check.about("9: its sentences (0 if it says nothing)");
        for (int many = 0; many <= 6; many++) {
            Check.due("sentences of " + many, sentences(many).speech(0, 2), many);
        }
        BowSpeeches x = sentences(5);
        x.bow(1, 0, 3);
        Check.due("five and a bow", x.speech(0, 2), 0);
        x.bow(1, 0, 0);
        x.bow(1, 0, 3);
        Check.due("five and a deed too", x.speech(0, 2), 0);
        x.bow(1, 0, 3);
        Check.due("five and one that is said to itself", x.speech(0, 2), 0);
        x.takeBack();
        x.bow(3, 1, 3);
        Check.due("six", x.speech(0, 2), 6);
    }

    private static void promise9Flourishes() {
        Check.about("9: its flourishes");
        BowSpeeches x = new BowSpeeches();
        for (int many = 0; many <= 8; many++) {
            Check.due("flourishes of " + many, x.speech(0, 3), many);
            Bows.group(x, 9, 5, 0, 5);
        }
        Check.due("groups of two and four are none", Bows.reading("1l1l.91l1l1l1l.9").speech(0, 3), 0);
    }

    private static void promise9OutOfRange() {
        Check.about("9: BAD_VALUE if an argument is out of range");
        BowSpeeches x = sentences(1);
        for (int eyes = -1; eyes <= 3; eyes++) {
            for (int what = -1; what <= 4; what++) {
                boolean good = eyes >= 0 && eyes <= 2 && what >= 0 && what <= 3;
                int due = new int[] {3, 0, 1, 0}[Math.floorMod(what, 4)];
                Check.due("speech(" + eyes + ", " + what + ")", x.speech(eyes, what), good ? due : BAD_VALUE);
            }
        }
    }

    // ---- promise 10

    private static void promise10Word() {
        Check.about("10: its number, 0 to 257");
        Check.due("the lowest", Bows.reading("1l").word(0, 0), 0);
        Check.due("the highest", Bows.reading("3r3r3r").word(0, 0), 257);
        Check.due("the highest to eyes 1", Bows.reading("3r3r3r").word(1, 0), 42 + 43 * 3);
    }

    private static void promise10OutOfRange() {
        Check.about("10: BAD_VALUE if eyes is out of range, before NO_SUCH");
        BowSpeeches x = singles(1);
        for (int group = -1; group <= 1; group++) {
            Check.due("word(-1, " + group + ")", x.word(-1, group), BAD_VALUE);
            Check.due("word(3, " + group + ")", x.word(3, group), BAD_VALUE);
        }
        Check.due("word(0, 0)", x.word(0, 0), 3);
        Check.due("word(2, 0)", x.word(2, 0), 3);
    }

    private static void promise10NoSuchGroup() {
        Check.about("10: NO_SUCH if there is no such group");
        for (int bows = 0; bows <= 24; bows++) {
            BowSpeeches x = singles(bows);
            for (int eyes = 0; eyes < 3; eyes++) {
                Check.due("the group before the first of " + bows, x.word(eyes, -1), NO_SUCH);
                Check.due("the last group of " + bows, x.word(eyes, bows - 1), bows == 0 ? NO_SUCH : 3);
                Check.due("the group behind the last of " + bows, x.word(eyes, bows), NO_SUCH);
            }
        }
        BowSpeeches x = singles(24);
        x.hush();
        Check.due("the first group of none, where there were 24", x.word(0, 0), NO_SUCH);
        BowSpeeches y = Bows.reading("1l.11l.11l.3");
        Check.due("eyes 0: the second group of one", y.word(0, 1), NO_SUCH);
        Check.due("eyes 2: the last group of three", y.word(2, 2), 0);
        Check.due("eyes 2: the fourth group of three", y.word(2, 3), NO_SUCH);
    }

    private static void promise10LongGroup() {
        Check.about("10: NONE if it has more than 3 bows");
        BowSpeeches x = Bows.reading("2l.22l.22l.22l.2");
        Check.due("four bows", x.word(0, 0), NONE);
        Check.due("four bows to eyes 1", x.word(1, 0), NONE);
        Check.due("four words to eyes 2", x.word(2, 0), 2);
        x.takeBack();
        Check.due("three bows", x.word(0, 0), 42 + 43 * 2);
        Check.due("24 bows", Bows.reading("1l".repeat(24)).word(2, 0), NONE);
    }

    // ---- promise 11

    private static void promise11FirstAndLast() {
        Check.about("11: 0 for the first one");
        BowSpeeches x = new BowSpeeches();
        Bows.say(x, 5, 0, 0, 0);
        for (int sentence = 1; sentence < 5; sentence++) {
            Bows.say(x, 1, 2, 2, 2);
        }
        Bows.say(x, 0, 5, 5, 5);
        int[] first = {5, 6, 0, 1};
        int[] last = {0, 41, 5, 0};
        for (int what = 0; what < 4; what++) {
            Check.due("the first of six, " + what, x.sentence(0, 0, what), first[what]);
            Check.due("the last of six, " + what, x.sentence(0, 5, what), last[what]);
            Check.due("behind the last, " + what, x.sentence(0, 6, what), NO_SUCH);
        }
    }

    private static void promise11OutOfRange() {
        Check.about("11: BAD_VALUE if eyes or what is out of range, before NO_SUCH");
        BowSpeeches x = sentences(2);
        for (int sentence = -1; sentence <= 2; sentence++) {
            Check.due("eyes -1, sentence " + sentence, x.sentence(-1, sentence, 0), BAD_VALUE);
            Check.due("eyes 3, sentence " + sentence, x.sentence(3, sentence, 0), BAD_VALUE);
            Check.due("what -1, sentence " + sentence, x.sentence(0, sentence, -1), BAD_VALUE);
            Check.due("what 4, sentence " + sentence, x.sentence(0, sentence, 4), BAD_VALUE);
        }
        Check.due("eyes 2, what 3", x.sentence(2, 1, 3), 1);
        Check.due("eyes 0, what 0", x.sentence(0, 1, 0), 0);
    }

    private static void promise11NoSuchSentence() {
        Check.about("11: NO_SUCH if there is no such sentence");
        for (int many = 0; many <= 6; many++) {
            BowSpeeches x = sentences(many);
            for (int eyes = 0; eyes < 3; eyes++) {
                Check.due("before the first of " + many, x.sentence(eyes, -1, 2), NO_SUCH);
                Check.due("the last of " + many, x.sentence(eyes, many - 1, 2), many == 0 ? NO_SUCH : 1);
                Check.due("behind the last of " + many, x.sentence(eyes, many, 2), NO_SUCH);
            }
        }
    }

    private static void promise11SaysNothing() {
        Check.about("11: none if the speech says nothing");
        for (String text : new String[] {"1l.31l1l.31r.31l1l1l1l", "1l.31l1l.31r.31l", "1l.31l1l.31r.31l.31l.31r",
            "1l.31l1l.31r.31l.31l1l.31l"}) {
            BowSpeeches x = Bows.reading(text);
            for (int what = 0; what < 4; what++) {
                Check.due("the first of " + text, x.sentence(0, 0, what), NO_SUCH);
            }
        }
        BowSpeeches x = Bows.reading("2l.31l.11l.33l");
        Check.due("eyes 0", x.sentence(0, 0, 2), 4);
        Check.due("eyes 1, said to itself", x.sentence(1, 0, 2), NO_SUCH);
        Check.due("eyes 2, not of threes", x.sentence(2, 0, 2), NO_SUCH);
    }

    // ---- promise 12

    private static void promise12Extremes() {
        Check.about("12: the favour of a courtier for another one, or for itself");
        BowSpeeches most = extreme(true);
        BowSpeeches least = extreme(false);
        for (int i = 0; i < 36; i++) {
            Check.due("the most, " + i, most.favour(i / 6, i % 6), i / 6 == i % 6 ? 0 : 99);
            Check.due("the least, " + i, least.favour(i / 6, i % 6), i / 6 == i % 6 ? 0 : -99);
        }
    }

    private static void promise12NoSuchCourtier() {
        Check.about("12: NO_SUCH if there is no such courtier");
        BowSpeeches x = sentences(1);
        x.give();
        for (int courtier = -1; courtier <= 6; courtier++) {
            boolean good = courtier >= 0 && courtier <= 5;
            Check.due("favour(" + courtier + ", 0)", x.favour(courtier, 0), !good ? NO_SUCH : courtier == 0 ? 0 : courtier == 1 ? 4 : 2);
            Check.due("favour(5, " + courtier + ")", x.favour(5, courtier), !good ? NO_SUCH : courtier == 0 ? 2 : 0);
        }
    }

    // ---- promise 13

    private static void promise13Range() {
        Check.about("13: BAD_VALUE if what is out of range");
        BowSpeeches x = new BowSpeeches();
        Check.due("count(-1)", x.count(-1), BAD_VALUE);
        Check.due("count(0)", x.count(0), 3);
        Check.due("count(9)", x.count(9), 0);
        Check.due("count(10)", x.count(10), BAD_VALUE);
    }

    private static void promise13Settings() {
        Check.about("13: 0 to 2 the settings");
        int[] lowest = {2, 1, 1};
        for (int setting = 0; setting < 3; setting++) {
            BowSpeeches x = new BowSpeeches();
            x.set(setting, lowest[setting]);
            Check.due("the lowest", x.count(setting), lowest[setting]);
            x.set(setting, 9);
            Check.due("the highest", x.count(setting), 9);
        }
    }

    private static void promise13Bows() {
        Check.about("13: 3 bows of the speech");
        for (int bows = 0; bows <= 24; bows++) {
            Check.due("count(3) of " + bows, singles(bows).count(3), bows);
        }
        BowSpeeches x = singles(24);
        x.bow(1, 0, 0);
        Check.due("count(3) behind a 25th", x.count(3), 24);
    }

    private static void promise13GivenAndTaken() {
        Check.about("13: 4 speeches given so far, 5 sentences taken so far");
        BowSpeeches x = new BowSpeeches();
        x.give();
        Check.due("one that was refused", x.count(4), 0);
        for (int speech = 1; speech <= 60; speech++) {
            Bows.sayKind(x, 0, 1);
            x.give();
            Check.due("speeches", x.count(4), speech);
            Check.due("sentences", x.count(5), 5 * speech);
        }
        x.undo();
        Check.due("speeches behind undo()", x.count(4), 59);
        Check.due("sentences behind undo()", x.count(5), 5 * 59);
    }

    private static void promise13SeeOtherwise() {
        Check.about("13: 6 courtiers who see the speech otherwise than it is");
        BowSpeeches x = Bows.reading("3l.31l.11l.31r");
        for (int many = 0; many <= 6; many++) {
            Check.due("so many: " + many, x.count(6), many);
            if (many < 6) {
                x.eyes(many, many % 2 + 1);
            }
        }
        x.hush();
        Check.due("none and none", x.count(6), 0);
        Check.about("13: 6 other sentences, or none or some where there are some or none");
        seeOtherwise("another giver", "3l.31l1l.31r", 1, 1);
        seeOtherwise("another deed", "1l.33l1l.31r", 1, 1);
        seeOtherwise("another receiver", "1l.31l1l.33r", 1, 1);
        seeOtherwise("the last of two is another", "1l.31l1l.31r.31l.31l1l.33r", 1, 1);
        seeOtherwise("none where there is one", "2l.31l1l.33l", 1, 1);
        seeOtherwise("one where there is none", "1l.11l1l.11r", 2, 1);
        seeOtherwise("two where there is one", "1l.31l1r.31r.32l.12r2r.31l", 2, 1);
        seeOtherwise("none where there are none", "3l3l3l3l", 1, 0);
        seeOtherwise("none where there are none, for another reason", "1l.11l.11l", 2, 0);
        seeOtherwise("the same, but another flourish", "1l.31l1l.31r.33l3l3l", 1, 0);
        seeOtherwise("the same", "1l.31l1l.31r", 1, 0);
        seeOtherwise("the same with pauses", "2r.91l1l.31r.1", 2, 0);
    }

    private static void seeOtherwise(String how, String text, int eyes, int due) {
        for (int courtier = 0; courtier < 6; courtier += 5) {
            Check.due(how + ": " + text, Bows.withEyes(Bows.reading(text), courtier, eyes).count(6), due);
        }
    }

    private static void promise13SumOfAll() {
        Check.about("13: 7 the sum of all favours");
        Check.due("the most", extreme(true).count(7), 30 * 99);
        Check.due("the least", extreme(false).count(7), -30 * 99);
    }

    private static void promise13Pad() {
        Check.about("13: 8 the length of the pad");
        BowSpeeches x = new BowSpeeches();
        for (int length = 0; length <= 60; length++) {
            Check.due("length", x.count(8), length);
            x.put('x');
        }
        Check.due("the 61st is refused", x.count(8), 60);
    }

    private static void promise13Undo() {
        Check.about("13: 9 how many changes can be undone");
        BowSpeeches x = new BowSpeeches();
        for (int changes = 0; changes <= 10; changes++) {
            Check.due("count(9) behind " + changes, x.count(9), Math.min(changes, 6));
            x.hush();
        }
        for (int left = 5; left >= 0; left--) {
            x.undo();
            Check.due("count(9) behind undo()", x.count(9), left);
        }
        x.undo();
        Check.due("count(9) behind a refused undo()", x.count(9), 0);
    }

    // ---- promise 14

    private static void promise14Eyes() {
        Check.about("14: 0 its eyes");
        BowSpeeches x = new BowSpeeches();
        for (int eyes = 2; eyes >= 0; eyes--) {
            x.eyes(0, eyes);
            x.eyes(5, 2 - eyes);
            Check.due("of the first", x.courtier(0, 0), eyes);
            Check.due("of the last", x.courtier(5, 0), 2 - eyes);
        }
    }

    private static void promise14Sums() {
        Check.about("14: 1 the sum of the favours of all courtiers for it, 2 the sum of its favours for all");
        BowSpeeches most = extreme(true);
        BowSpeeches least = extreme(false);
        for (int courtier = 0; courtier < 6; courtier++) {
            Check.due("the most for it", most.courtier(courtier, 1), 5 * 99);
            Check.due("the most of it", most.courtier(courtier, 2), 5 * 99);
            Check.due("the least for it", least.courtier(courtier, 1), -5 * 99);
            Check.due("the least of it", least.courtier(courtier, 2), -5 * 99);
        }
    }

    private static void promise14Sentences() {
        Check.about("14: 3 sentences that it would take, if the speech was given now (0 if it cannot be given)");
        for (int many = 0; many <= 6; many++) {
            BowSpeeches x = sentences(many);
            Check.due("the giver of " + many, x.courtier(0, 3), 0);
            for (int courtier = 1; courtier < 6; courtier++) {
                Check.due("another courtier before " + many, x.courtier(courtier, 3), many);
            }
        }
        String[] nothing = {"1l.31l1l.31r.31l1l1l1l", "1l.31l1l.31r.31l", "1l.31l1l.31r.31l.31l.31r", "1l.31l1l.31r.31l.31l1l.31l",
            "1l.11l1l.11r"};
        for (String text : nothing) {
            Check.due("none of " + text, Bows.reading(text).courtier(2, 3), 0);
            Check.due("none, with eyes 2, of " + text, Bows.withEyes(Bows.reading(text), 2, 2).courtier(2, 3), 0);
        }
    }

    private static void promise14Errors() {
        Check.about("14: NO_SUCH if there is no such courtier; BAD_VALUE if what is out of range");
        BowSpeeches x = sentences(1);
        for (int courtier = -1; courtier <= 6; courtier++) {
            boolean good = courtier >= 0 && courtier <= 5;
            for (int what = -1; what <= 4; what++) {
                int due = what == -1 || what == 4 ? BAD_VALUE : what == 3 && courtier != 0 ? 1 : 0;
                Check.due("courtier(" + courtier + ", " + what + ")", x.courtier(courtier, what), good ? due : NO_SUCH);
            }
        }
    }

    // ---- promise 15

    private static void promise15IfGiven() {
        Check.about("15: what the favour would be, if the speech was given now, with favours of -99 and 99");
        BowSpeeches x = extreme(true);
        Bows.sayKind(x, 0, 1);
        Check.due("99 and 18 more", x.ifGiven(1, 0), 99);
        Check.due("99 and 9 more", x.ifGiven(2, 0), 99);
        Check.due("99 without a sentence", x.ifGiven(0, 1), 99);
        Check.due("its own", x.ifGiven(0, 0), 0);
        Bows.sayUnkind(x, 0, 1);
        Check.due("99, 18 more, 18 less", x.ifGiven(1, 0), 81);
        BowSpeeches y = extreme(false);
        Bows.sayUnkind(y, 0, 1);
        Check.due("-99 and 18 less", y.ifGiven(1, 0), -99);
        Check.due("-99 and 9 less", y.ifGiven(2, 0), -99);
        Check.due("-99 without a sentence", y.ifGiven(0, 1), -99);
        Check.due("its own", y.ifGiven(0, 0), 0);
        Bows.sayKind(y, 0, 1);
        Check.due("-99, 18 less, 18 more", y.ifGiven(1, 0), -81);
        Check.due("the favour itself stays", y.favour(1, 0), -99);
    }

    private static void promise15Errors() {
        Check.about("15: NO_SUCH if there is no such courtier; NOT_POSSIBLE if it cannot be given");
        for (int many = 0; many <= 1; many++) {
            BowSpeeches x = sentences(many);
            for (int courtier = -1; courtier <= 6; courtier++) {
                boolean good = courtier >= 0 && courtier <= 5;
                int due = courtier == 0 ? 0 : courtier == 1 ? 4 : 2;
                Check.due("ifGiven(" + courtier + ", 0)", x.ifGiven(courtier, 0), !good ? NO_SUCH : many == 0 ? NOT_POSSIBLE : due);
                Check.due("ifGiven(5, " + courtier + ")", x.ifGiven(5, courtier),
                        !good ? NO_SUCH : many == 0 ? NOT_POSSIBLE : courtier == 0 ? 2 : 0);
            }
        }
        for (String text : new String[] {"1l.31l1l.31r.31l1l1l1l", "1l1l1l", "1l.31r.32l", "1l.31l1l.31l", "1l.11l1l.11r"}) {
            Check.due("ifGiven(2, 0) of " + text, Bows.withEyes(Bows.reading(text), 2, 2).ifGiven(2, 0), NOT_POSSIBLE);
        }
    }

    // ---- promise 16

    private static void best(String text, int due) {
        Check.due("bestBow() behind " + text, Bows.reading(text).bestBow(), due);
    }

    private static void promise16MoreThanNow() {
        Check.about("16: the most sentences, more than now; NONE if there is none");
        best("", NONE);
        best("1l", NONE);
        best("1l.31l1l", NONE);
        best("1l.31l1l.3", 1);
        best("1l.31l1l.31r", NONE);
        best("1l.31l1l.31r.3", NONE);
        best("1l.31l1l.31r.31l.31l1l.3", 1);
        best("1l.31l1l.31l.31l.31l1l.3", NONE);
        best("1l.31l1l.31r.31l1l", 0);
        best("1l.31l1l.31r.31l1l1l", NONE);
        BowSpeeches x = sentences(6);
        Check.due("six sentences", x.count(6), 0);
        x.give();
        x.bow(1, 0, 3);
        Bows.group(x, 3, 0, 0);
        Check.due("more than now, not more than there were before", x.bestBow(), 1);
        Check.about("16: the bow has the pause 0, and joins a group that has not ended");
        best("1l.31l1l.2", NONE);
        best("1l.31l1l.31r.31l1l.2", 0);
        for (int beats = 2; beats <= 9; beats++) {
            BowSpeeches ended = Bows.reading("1l.91l1l." + beats);
            ended.set(BowSpeeches.BREAK, beats);
            Check.due("BREAK " + beats + " and a pause as long", ended.bestBow(), 1);
            BowSpeeches open = Bows.reading("1l.91l1l." + (beats - 1));
            open.set(BowSpeeches.BREAK, beats);
            Check.due("BREAK " + beats + " and a shorter pause", open.bestBow(), NONE);
        }
        Check.about("16: to eyes that see all as it is");
        best("1l.11l1l.1", NONE);
        best("2l.31l1l.33l.31l.31l1l.3", 1);
    }

    private static void promise16Lowest() {
        Check.about("16: of several the one with the lowest number");
        String[] bows = {"1l", "1r", "2l", "2r", "3l", "3r"};
        for (int number = 0; number < 6; number++) {
            // The receiver is lacking, or any bow makes a flourish of the deed at the end.
            best(bows[number] + ".31l1l.3", number == 0 ? 1 : 0);
            best("1l.31l1l.31r.31l" + bows[number], 0);
        }
    }

    private static void promise16Full() {
        Check.about("16: NONE also with 24 bows");
        for (int sentences = 0; sentences <= 5; sentences++) {
            BowSpeeches x = sentences(sentences);
            Bows.group(x, 3, 2);
            Bows.group(x, 3, 0, 0);
            Check.due("bestBow() of " + x.count(3) + " bows", x.bestBow(), 0);
        }
        BowSpeeches x = Bows.reading("1l1l1l.9".repeat(7));
        Bows.group(x, 3, 2);
        Bows.group(x, 3, 0, 0);
        Check.due("24 bows that lack one", x.count(3), 24);
        Check.due("bestBow() of them", x.bestBow(), NONE);
        Check.due("bestBow() of six sentences", sentences(6).bestBow(), NONE);
    }

    // ---- promise 17

    private static void promise17Greatest() {
        Check.about("17: the sum of the favours of all is the greatest");
        for (int best = 0; best < 6; best++) {
            BowSpeeches kind = new BowSpeeches();
            Bows.sayKind(kind, best, (best + 1) % 6);
            kind.give();
            Check.due("the only one above 0", kind.darling(), best);
            BowSpeeches unkind = new BowSpeeches();
            for (int giver = 0; giver < 6; giver++) {
                if (giver != best) {
                    Bows.sayUnkind(unkind, giver, best);
                }
            }
            unkind.give();
            Check.due("the only one at 0", unkind.darling(), best);
        }
    }

    private static void promise17Lowest() {
        Check.about("17: of several the lowest");
        Check.due("all at 0", new BowSpeeches().darling(), 0);
        Check.due("all at 495", extreme(true).darling(), 0);
        Check.due("all at -495", extreme(false).darling(), 0);
        for (int first = 0; first < 5; first++) {
            BowSpeeches x = new BowSpeeches();
            for (int giver = 5; giver >= first; giver--) {
                Bows.sayKind(x, giver, (giver + 1) % 6);
            }
            x.give();
            Check.due("all from " + first, x.darling(), first);
            BowSpeeches y = new BowSpeeches();
            Bows.sayKind(y, 5, 0);
            Bows.sayKind(y, first, 5);
            y.give();
            Check.due("the last and " + first, y.darling(), first);
        }
    }
}
