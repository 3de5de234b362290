/** Promises 9 to 14. */
public final class WhatThereIsTest {
    private static final int NO_SUCH = -1000001, BAD_VALUE = -1000002, NONE = -1000006;
    private static final int[] ODD = {Integer.MIN_VALUE, -1000006, -2, -1, 10, 24, 1000, Integer.MAX_VALUE};

    public static void main(String[] args) {
        promise9Groups();
        promise9Reasons();
        promise9Flourishes();
        promise9Eyes();
        promise9WrongInputs();
        promise10AllWords();
        promise10Groups();
        promise10WrongInputs();
        promise11Sentence();
        promise11Eyes();
        promise11WrongInputs();
        promise12Favour();
        promise13Count();
        promise13WhoSeesOtherwise();
        promise13WrongInputs();
        promise14Courtier();
        promise14Taken();
        promise14WrongInputs();
        Check.end();
    }

    private static void groups(String text, int due) {
        Check.due("groups of " + text, Bows.reading(text).speech(0, 0), due);
    }

    private static void promise9Groups() {
        groups("1l", 1);
        groups("1l.9", 1);
        groups("1l.21l", 1);
        groups("1l.31l", 2);
        groups("1l.31l.3", 2);
        groups("1l.21l.21l.21l.21l", 1);
        groups("1l.21l.41l1l1l.91l", 3);
        groups("1l.9".repeat(15), 15);
        groups("1l".repeat(24), 1);
    }

    private static void reason(String text, int due) {
        BowSpeeches x = Bows.reading(text);
        Check.due("reason of " + text, x.speech(0, 1), due);
        if (due != 0) {
            Check.due("sentences of " + text, x.speech(0, 2), 0);
            Check.due("sentence 0 of " + text, x.sentence(0, 0, 0), NO_SUCH);
        }
    }

    private static void promise9Reasons() {
        reason("", 1);
        reason("1l1l1l1l", 2);
        reason("1l.31l1r.32l.31l1l1l1l", 2);
        reason("1l1l1l1l.31l.31l1r.32l", 2);
        reason("1l1l1l", 3);
        reason("1l1l1l.31r1r1r", 3);
        reason("1l", 3);
        reason("1l.31l1l", 3);
        reason("1l.31l1l.31r.31r", 3);
        reason("1l.31l1l.31r.31l.32r2r", 3);
        reason("1l1l.31l.31r", 4);
        reason("1l.31r.32l", 4);
        reason("1l.31l1l.31l1r", 4);
        reason("1l1l.31l1l.31l1l", 4);
        reason("1l.31l1l.31r.31l.31l1l.31l1l", 4);
        reason("1l.31l1l.31l.31l.31l.31l", 4);
        reason("1l.31l1l.31l", 5);
        reason("1l.31l1l.31r.33r.31l1l.33r", 5);
        reason("3r.31l1l.33r.31l.31l1l.31r", 5);
        reason("1l.31l1l.31r", 0);
        reason("1l1l1l.31l.33r3r3r.31l1l.32r2r2r.31r.31r1r1r", 0);
        reason("1l.31l1l.31r.31r.31l1l.31l", 0);
    }

    private static void promise9Flourishes() {
        String[] texts = {"", "1l1l", "1l1l1l", "1l1l1l1l", "1l1l1l.31l1l1l", "1l1l1l.31l.31l1l1l1l.32l2l2l", "1l.31l1l.31r.31l1l1l"};
        int[] due = {0, 0, 1, 0, 2, 2, 1};
        for (int i = 0; i < texts.length; i++) {
            Check.due("flourishes of " + texts[i], Bows.reading(texts[i]).speech(0, 3), due[i]);
        }
        BowSpeeches six = new BowSpeeches();
        for (int sentence = 1; sentence <= 6; sentence++) {
            Bows.sayKind(six, 0, sentence % 5 + 1);
            Check.due("sentences", six.speech(0, 2), sentence);
            Check.due("groups", six.speech(0, 0), 3 * sentence);
            Check.due("reason", six.speech(0, 1), 0);
        }
    }

    private static void promise9Eyes() {
        BowSpeeches x = Bows.reading("2l.31l1l.33l");
        Check.due("eyes 0: 2 to 4", x.speech(0, 1), 0);
        Check.due("eyes 1: 2 to itself", x.speech(1, 1), 5);
        Check.due("eyes 1: no sentence", x.speech(1, 2), 0);
        Check.due("eyes 2: as it is", x.speech(2, 1), 0);
        BowSpeeches y = Bows.reading("1l.11l.21l.32l.01l");
        Check.due("eyes 0: groups", y.speech(0, 0), 2);
        Check.due("eyes 0: flourishes", y.speech(0, 3), 1);
        Check.due("eyes 1: groups", y.speech(1, 0), 2);
        Check.due("eyes 2: groups", y.speech(2, 0), 4);
        Check.due("eyes 2: flourishes", y.speech(2, 3), 0);
        y.set(BowSpeeches.BREAK, 9);
        Check.due("BREAK 9, eyes 0", y.speech(0, 0), 1);
        Check.due("BREAK 9, eyes 0", y.speech(0, 1), 2);
        Check.due("BREAK 9, eyes 2", y.speech(2, 0), 4);
        // The eyes that are asked for count, not those of the courtiers.
        y.eyes(0, 2);
        Check.due("eyes 0 again", y.speech(0, 0), 1);
    }

    private static void promise9WrongInputs() {
        BowSpeeches x = Bows.reading("1l.31l1l.31r");
        for (int odd : ODD) {
            Check.due("speech(" + odd + ", 0)", x.speech(odd, 0), BAD_VALUE);
            Check.due("speech(0, " + odd + ")", x.speech(0, odd), BAD_VALUE);
        }
        Check.due("speech(3, 0)", x.speech(3, 0), BAD_VALUE);
        Check.due("speech(2, 4)", x.speech(2, 4), BAD_VALUE);
        Check.due("speech(0, 4)", x.speech(0, 4), BAD_VALUE);
    }

    /** Every word there is, to eyes that see all and to eyes that miss depth 3. */
    private static void promise10AllWords() {
        for (int a = 0; a < 6; a++) {
            words(a, new int[] {a}, low(a));
            for (int b = 0; b < 6; b++) {
                words(6 + 6 * a + b, new int[] {a, b}, 6 + 6 * low(a) + low(b));
                for (int c = 0; c < 6; c++) {
                    words(42 + 36 * a + 6 * b + c, new int[] {a, b, c}, 42 + 36 * low(a) + 6 * low(b) + low(c));
                }
            }
        }
    }

    /** A depth of 3 seen as 2. */
    private static int low(int number) {
        return number == 4 ? 2 : number == 5 ? 3 : number;
    }

    private static void words(int due, int[] bows, int dueToEyes1) {
        BowSpeeches x = new BowSpeeches();
        Bows.group(x, 0, bows);
        Check.due("word(0, 0)", x.word(0, 0), due);
        Check.due("word(1, 0)", x.word(1, 0), dueToEyes1);
        Check.due("word(2, 0)", x.word(2, 0), due);
    }

    private static void promise10Groups() {
        BowSpeeches x = Bows.reading("3r.41l1l.52r.12r.22r.91r1r1r1r.32l.3");
        int[] due = {5, 6, 42 + 36 * 3 + 6 * 3 + 3, NONE, 2};
        int[] dueToEyes2 = {5, 6, 3, 3, 3, NONE, 2};
        for (int group = 0; group < due.length; group++) {
            Check.due("word(0, " + group + ")", x.word(0, group), due[group]);
        }
        for (int group = 0; group < dueToEyes2.length; group++) {
            Check.due("word(2, " + group + ")", x.word(2, group), dueToEyes2[group]);
        }
        Check.due("word(0, 5)", x.word(0, 5), NO_SUCH);
        Check.due("word(2, 6)", x.word(2, 6), 2);
        Check.due("word(2, 7)", x.word(2, 7), NO_SUCH);
        for (int bows = 4; bows <= 24; bows++) {
            Check.due("a group of " + bows, Bows.reading("3r".repeat(bows)).word(0, 0), NONE);
        }
    }

    private static void promise10WrongInputs() {
        BowSpeeches x = Bows.reading("1l.31l1l.31r");
        Check.due("word(3, 0)", x.word(3, 0), BAD_VALUE);
        Check.due("word(3, 9)", x.word(3, 9), BAD_VALUE);
        Check.due("word(0, 3)", x.word(0, 3), NO_SUCH);
        for (int odd : ODD) {
            Check.due("word(" + odd + ", 0)", x.word(odd, 0), BAD_VALUE);
            Check.due("word(" + odd + ", " + odd + ")", x.word(odd, odd), BAD_VALUE);
            Check.due("word(1, " + odd + ")", x.word(1, odd), NO_SUCH);
        }
        // Words of a longer speech are not left behind in a shorter one.
        x.takeBack();
        Check.due("word(0, 2) of two groups", x.word(0, 2), NO_SUCH);
        Check.due("word(2, 0) of no bows", new BowSpeeches().word(2, 0), NO_SUCH);
    }

    private static void sentence(BowSpeeches x, int eyes, int sentence, int giver, int deed, int receiver, int kind) {
        String call = "sentence(" + eyes + ", " + sentence + ", ";
        Check.due(call + "0)", x.sentence(eyes, sentence, 0), giver);
        Check.due(call + "1)", x.sentence(eyes, sentence, 1), deed);
        Check.due(call + "2)", x.sentence(eyes, sentence, 2), receiver);
        Check.due(call + "3)", x.sentence(eyes, sentence, 3), kind);
    }

    private static void promise11Sentence() {
        BowSpeeches x = new BowSpeeches();
        Bows.say(x, 0, 5, 5, 1);
        Bows.group(x, 3, 0, 0, 0);
        Bows.say(x, 4, 2, 4, 3);
        Bows.group(x, 3, 5);
        Bows.group(x, 3, 1, 1, 1);
        Bows.group(x, 3, 0, 3);
        Bows.group(x, 0, 2);
        sentence(x, 0, 0, 0, 41, 1, 0);
        sentence(x, 0, 1, 4, 22, 3, 1);
        sentence(x, 0, 2, 5, 9, 2, 0);
        Check.due("sentence(0, 3, 0)", x.sentence(0, 3, 0), NO_SUCH);
        for (int a = 0; a < 6; a++) {
            for (int b = 0; b < 6; b++) {
                BowSpeeches y = new BowSpeeches();
                Bows.say(y, 1, a, b, 0);
                sentence(y, 0, 0, 1, 6 + 6 * a + b, 0, b % 2 == 0 ? 1 : 0);
            }
        }
        BowSpeeches six = new BowSpeeches();
        for (int s = 0; s < 6; s++) {
            Bows.say(six, s, s, 5 - s, 5 - s);
        }
        for (int s = 0; s < 6; s++) {
            sentence(six, 0, s, s, 6 + 6 * s + 5 - s, 5 - s, s % 2);
        }
    }

    private static void promise11Eyes() {
        BowSpeeches x = Bows.reading("3l.33r3l.31r");
        sentence(x, 0, 0, 4, 6 + 30 + 4, 1, 1);
        sentence(x, 1, 0, 2, 6 + 18 + 2, 1, 1);
        sentence(x, 2, 0, 4, 6 + 30 + 4, 1, 1);
        BowSpeeches y = Bows.reading("1l.12r.01r.11r");
        Check.due("eyes 0 see a group of four", y.sentence(0, 0, 0), NO_SUCH);
        sentence(y, 2, 0, 0, 6 + 18 + 1, 1, 0);
    }

    private static void promise11WrongInputs() {
        BowSpeeches x = Bows.reading("1l.31l1l.31r");
        Check.due("sentence(3, 0, 0)", x.sentence(3, 0, 0), BAD_VALUE);
        Check.due("sentence(0, 0, 4)", x.sentence(0, 0, 4), BAD_VALUE);
        Check.due("sentence(0, 1, 4)", x.sentence(0, 1, 4), BAD_VALUE);
        Check.due("sentence(3, 1, 0)", x.sentence(3, 1, 0), BAD_VALUE);
        Check.due("sentence(0, 1, 0)", x.sentence(0, 1, 0), NO_SUCH);
        for (int odd : ODD) {
            Check.due("sentence(" + odd + ", 0, 0)", x.sentence(odd, 0, 0), BAD_VALUE);
            Check.due("sentence(0, 0, " + odd + ")", x.sentence(0, 0, odd), BAD_VALUE);
            Check.due("sentence(0, " + odd + ", 0)", x.sentence(0, odd, 0), NO_SUCH);
            Check.due("sentence(0, " + odd + ", 3)", x.sentence(0, odd, 3), NO_SUCH);
            Check.due("sentence(0, " + odd + ", " + odd + ")", x.sentence(0, odd, odd), BAD_VALUE);
        }
        Check.due("of an empty speech", new BowSpeeches().sentence(0, 0, 0), NO_SUCH);
    }

    private static void promise12Favour() {
        BowSpeeches x = new BowSpeeches();
        Bows.sayKind(x, 1, 2);
        Bows.sayUnkind(x, 3, 0);
        Check.due("before it is given", x.favour(2, 1), 0);
        x.give();
        Check.due("favour(2, 1)", x.favour(2, 1), 4);
        Check.due("favour(1, 2)", x.favour(1, 2), 0);
        Check.due("favour(0, 3)", x.favour(0, 3), -6);
        Check.due("favour(3, 0)", x.favour(3, 0), 0);
        Check.due("favour(3, 1)", x.favour(3, 1), 2);
        Check.due("favour(1, 3)", x.favour(1, 3), -3);
        for (int self = 0; self < 6; self++) {
            Check.due("favour for itself", x.favour(self, self), 0);
        }
        for (int odd : new int[] {Integer.MIN_VALUE, -7, -6, -1, 6, 7, 35, 36, Integer.MAX_VALUE}) {
            Check.due("favour(" + odd + ", 1)", x.favour(odd, 1), NO_SUCH);
            Check.due("favour(1, " + odd + ")", x.favour(1, odd), NO_SUCH);
            Check.due("favour(" + odd + ", " + odd + ")", x.favour(odd, odd), NO_SUCH);
        }
    }

    private static void promise13Count() {
        BowSpeeches x = new BowSpeeches();
        x.set(0, 4);
        x.set(1, 5);
        x.set(2, 6);
        Check.due("count(0)", x.count(0), 4);
        Check.due("count(1)", x.count(1), 5);
        Check.due("count(2)", x.count(2), 6);
        x.set(0, 3);
        Bows.write(x, "2l.3x");
        Check.due("count(8)", x.count(8), 5);
        Bows.sayKind(x, 0, 1);
        Bows.sayUnkind(x, 2, 1);
        Check.due("count(3)", x.count(3), 8);
        Check.due("count(9)", x.count(9), 6);
        x.give();
        Check.due("count(3) behind give()", x.count(3), 0);
        Check.due("count(4)", x.count(4), 1);
        Check.due("count(5)", x.count(5), 10);
        Check.due("count(7)", x.count(7), 6 * 5 - 6 * 6);
        x.wipe();
        Check.due("count(8) behind wipe()", x.count(8), 0);
        BowSpeeches y = new BowSpeeches();
        for (int change = 1; change <= 8; change++) {
            y.hush();
            Check.due("count(9)", y.count(9), Math.min(change, 6));
        }
        // Sums over courtiers that hold different favours.
        BowSpeeches z = Bows.withEyes(new BowSpeeches(), 0, 1);
        Bows.sayKind(z, 4, 1);
        z.give();
        Check.due("count(7) with eyes 1", z.count(7), 6 * 2);
        Check.due("for 4", z.courtier(4, 1), 5 * 2);
        Check.due("for 2", z.courtier(2, 1), 2);
    }

    private static void otherwise(String text, int toEyes1, int toEyes2) {
        for (int courtier = 0; courtier < 6; courtier++) {
            BowSpeeches x = Bows.reading(text);
            Check.due("none misled by " + text, x.count(6), 0);
            x.eyes(courtier, 1);
            Check.due("eyes 1 before " + text, x.count(6), toEyes1);
            x.eyes(courtier, 2);
            Check.due("eyes 2 before " + text, x.count(6), toEyes2);
            x.eyes((courtier + 1) % 6, 1);
            Check.due("both before " + text, x.count(6), toEyes1 + toEyes2);
            for (int all = 0; all < 6; all++) {
                x.eyes(all, 1);
            }
            Check.due("all with eyes 1 before " + text, x.count(6), 6 * toEyes1);
        }
    }

    private static void promise13WhoSeesOtherwise() {
        otherwise("", 0, 0);
        otherwise("1l.31l1l.31r", 0, 0);
        otherwise("3l.31l1l.31r", 1, 0);
        otherwise("1l.31l3l.31r", 1, 0);
        otherwise("1l.33l1l.31r", 1, 0);
        otherwise("1l.31l1l.33r", 1, 0);
        otherwise("2l.31l1l.33l", 1, 0);
        otherwise("1l.31l.11l.31r", 0, 1);
        otherwise("1l.31l.01l.31r.1", 0, 0);
        otherwise("1l.11l1l.11r", 0, 1);
        otherwise("1l.13l1l.13r", 0, 1);
        otherwise("1l.31l1l.31r.33l3l3l", 0, 0);
        otherwise("1l.31l1l.31r.31l.21l.21l", 0, 1);
        otherwise("1l.31l1l.31r.31l.11l1l.11r", 0, 1);
        otherwise("1l.31l1l.31r.31l.11l1l", 0, 1);
        otherwise("3l3l3l3l", 0, 0);
        otherwise("3l.33l", 0, 0);
        otherwise("1l.31l1l.31r.31l.31l1l.33r", 1, 0);
        otherwise("1l.31l1l.31r.31l.31l1l.31l", 0, 0);
        // To eyes 2 a flourish falls apart into a courtier and a deed, and so brings more sentences, or fewer.
        otherwise("2l.12r2r.31r", 0, 1);
        otherwise("1l.31l1r.31r.32l.12r2r.31l", 0, 1);
        otherwise("1l.31l1r.31r.32l.12r2r.33l3l3l.3", 0, 1);
    }

    private static void promise13WrongInputs() {
        BowSpeeches x = Bows.reading("1l.31l1l.31r");
        for (int odd : ODD) {
            Check.due("count(" + odd + ")", x.count(odd), BAD_VALUE);
        }
        Check.due("count(11)", x.count(11), BAD_VALUE);
    }

    private static void promise14Courtier() {
        BowSpeeches x = new BowSpeeches();
        x.eyes(5, 2);
        x.eyes(0, 1);
        int[] eyes = {1, 0, 0, 0, 0, 2};
        Bows.sayKind(x, 1, 2);
        Bows.sayUnkind(x, 3, 1);
        x.give();
        int[] forIt = {0, 5 * 2 + 2, 0, -5 * 3 - 3, 0, 0};
        int[] ofIt = {2 - 3, -6, 4 - 3, 2, 2 - 3, 2 - 3};
        for (int courtier = 0; courtier < 6; courtier++) {
            Check.due("eyes of " + courtier, x.courtier(courtier, 0), eyes[courtier]);
            Check.due("favours for " + courtier, x.courtier(courtier, 1), forIt[courtier]);
            Check.due("favours of " + courtier, x.courtier(courtier, 2), ofIt[courtier]);
            Check.due("sentences for " + courtier, x.courtier(courtier, 3), 0);
        }
    }

    private static void promise14Taken() {
        BowSpeeches x = new BowSpeeches();
        Bows.sayKind(x, 0, 1);
        Bows.sayKind(x, 0, 2);
        Bows.sayUnkind(x, 4, 3);
        int[] due = {1, 3, 3, 3, 2, 3};
        for (int courtier = 0; courtier < 6; courtier++) {
            Check.due("sentences for " + courtier, x.courtier(courtier, 3), due[courtier]);
        }
        x.eyes(2, 1);
        Check.due("2 takes itself for 4", x.courtier(2, 3), 2);
        x.eyes(4, 1);
        Check.due("4 does not know itself", x.courtier(4, 3), 3);
        x.bow(1, 0, 0);
        Check.due("it cannot be given", x.courtier(1, 3), 0);
        // Eyes 2 understand it, but it cannot be given.
        BowSpeeches y = Bows.withEyes(Bows.reading("1l.11l1l.11r"), 3, 2);
        Check.due("eyes 2 see a sentence", y.speech(2, 2), 1);
        Check.due("but would not take it", y.courtier(3, 3), 0);
        BowSpeeches z = Bows.withEyes(Bows.reading("1l.31l.11l.31r"), 3, 2);
        Check.due("eyes 2 see none", z.courtier(3, 3), 0);
        Check.due("others see one", z.courtier(2, 3), 1);
        Check.due("the giver", z.courtier(0, 3), 0);
    }

    private static void promise14WrongInputs() {
        BowSpeeches x = Bows.reading("1l.31l1l.31r");
        Check.due("courtier(6, 0)", x.courtier(6, 0), NO_SUCH);
        Check.due("courtier(6, 4)", x.courtier(6, 4), NO_SUCH);
        Check.due("courtier(5, 4)", x.courtier(5, 4), BAD_VALUE);
        for (int odd : ODD) {
            for (int what = -1; what <= 4; what++) {
                Check.due("courtier(" + odd + ", " + what + ")", x.courtier(odd, what), NO_SUCH);
            }
            Check.due("courtier(0, " + odd + ")", x.courtier(0, odd), BAD_VALUE);
            Check.due("courtier(" + odd + ", " + odd + ")", x.courtier(odd, odd), NO_SUCH);
        }
    }
}
