/** Promises 15 to 17. */
public final class WhatIfTest {
    private static final int NO_SUCH = -1000001, NOT_POSSIBLE = -1000005, NONE = -1000006;
    private static final int[] ODD = {Integer.MIN_VALUE, -1000006, -6, -1, 6, 35, 1000, Integer.MAX_VALUE};

    public static void main(String[] args) {
        promise15IfGiven();
        promise15IsWhatGiveBrings();
        promise15Eyes();
        promise15Limits();
        promise15Errors();
        promise16BestBow();
        promise16Full();
        promise16ChangesNothing();
        promise17Darling();
        promise17Ties();
        Check.end();
    }

    private static void promise15IfGiven() {
        BowSpeeches x = new BowSpeeches();
        Bows.sayKind(x, 1, 2);
        x.give();
        Bows.sayKind(x, 1, 3);
        Bows.sayUnkind(x, 0, 3);
        Bows.sayUnkind(x, 1, 5);
        int[] for1 = {2 + 2 - 3, 0, 4 + 2 - 3, 2 + 4 - 3, 2 + 2 - 3, 2 + 2 - 6};
        int[] for0 = {0, -3, -3, -6, -3, -3};
        for (int courtier = 0; courtier < 6; courtier++) {
            Check.due("ifGiven(" + courtier + ", 1)", x.ifGiven(courtier, 1), for1[courtier]);
            Check.due("ifGiven(" + courtier + ", 0)", x.ifGiven(courtier, 0), for0[courtier]);
            Check.due("ifGiven(" + courtier + ", 3)", x.ifGiven(courtier, 3), 0);
            Check.due("ifGiven for itself", x.ifGiven(courtier, courtier), 0);
        }
        Check.due("it is not given", x.favour(3, 1), 2);
        Check.due("the speech stays", x.count(3), 12);
        Check.due("speeches given", x.count(4), 1);
        Check.due("sentences taken", x.count(5), 5);
    }

    private static void promise15IsWhatGiveBrings() {
        BowSpeeches x = new BowSpeeches();
        x.eyes(1, 1);
        x.eyes(2, 2);
        x.eyes(5, 1);
        String[] speeches = {"3l.31l.13r.31r.3", "3r.33l3l.32l.3" + "1l.31r1r.33l.3", "2l.13l3r.13r.3" + "2r2r2r.1", "1l.31l1l.31r"};
        for (String speech : speeches) {
            Bows.write(x, speech);
            x.read();
            int[] due = new int[36];
            for (int i = 0; i < 36; i++) {
                due[i] = x.ifGiven(i / 6, i % 6);
            }
            int taken = 0;
            for (int courtier = 0; courtier < 6; courtier++) {
                taken += x.courtier(courtier, 3);
            }
            boolean possible = x.speech(0, 1) == 0;
            Check.due("give() of " + speech, x.give(), possible ? taken : NOT_POSSIBLE);
            for (int i = 0; i < 36; i++) {
                Check.due("ifGiven " + i + " of " + speech, due[i], possible ? x.favour(i / 6, i % 6) : NOT_POSSIBLE);
            }
            x.hush();
        }
    }

    private static void promise15Eyes() {
        BowSpeeches x = new BowSpeeches();
        x.eyes(2, 1);
        x.eyes(3, 1);
        x.eyes(4, 2);
        Bows.group(x, 3, 4);
        x.bow(1, 0, 1);
        x.bow(1, 1, 3);
        Bows.group(x, 0, 5);
        Check.due("eyes 0", x.ifGiven(1, 4), -3);
        Check.due("eyes 0, the receiver", x.ifGiven(5, 4), -6);
        Check.due("eyes 1, for the giver that there is", x.ifGiven(3, 4), 0);
        Check.due("eyes 1, for the giver that it sees, itself the receiver", x.ifGiven(3, 2), -6);
        Check.due("eyes 1, itself the giver", x.ifGiven(2, 2), 0);
        Check.due("eyes 1, itself the giver, for the one that there is", x.ifGiven(2, 4), 0);
        Check.due("eyes 2, no sentence", x.ifGiven(4, 4), 0);
        x.eyes(0, 2);
        Check.due("eyes 2, no sentence", x.ifGiven(0, 4), 0);
        BowSpeeches y = Bows.withEyes(Bows.reading("1l.11l1l.11r"), 3, 2);
        Check.due("eyes 2 see a sentence, but it cannot be given", y.ifGiven(3, 0), NOT_POSSIBLE);
    }

    private static void promise15Limits() {
        BowSpeeches x = new BowSpeeches();
        x.set(BowSpeeches.PLUS, 9);
        x.set(BowSpeeches.MINUS, 9);
        for (int sentence = 0; sentence < 6; sentence++) {
            Bows.sayKind(x, 0, 1);
        }
        Check.due("99 at most", x.ifGiven(1, 0), 99);
        Check.due("without a limit", x.ifGiven(2, 0), 54);
        x.takeBack();
        x.takeBack();
        Bows.one(x, 1, 3);
        Bows.one(x, 1, 3);
        Check.due("99 less 9", x.ifGiven(1, 0), 90 - 18);
        x.hush();
        for (int sentence = 0; sentence < 6; sentence++) {
            Bows.sayUnkind(x, 3, 2);
        }
        Check.due("-99 at least", x.ifGiven(2, 3), -99);
        x.give();
        Bows.sayUnkind(x, 3, 2);
        Bows.sayKind(x, 3, 2);
        Check.due("-99 behind each sentence", x.ifGiven(2, 3), -99 + 18);
        Check.due("the others", x.ifGiven(4, 3), -54);
    }

    private static void promise15Errors() {
        BowSpeeches x = new BowSpeeches();
        Check.due("of an empty speech", x.ifGiven(0, 1), NOT_POSSIBLE);
        Check.due("of an empty speech for itself", x.ifGiven(1, 1), NOT_POSSIBLE);
        Check.due("no such courtier, empty speech", x.ifGiven(6, 0), NO_SUCH);
        Check.due("no such giver, empty speech", x.ifGiven(0, 6), NO_SUCH);
        for (String nothing : new String[] {"1l1l1l1l", "1l.31l1l.3", "1l1l.31l.31r", "1l.31l1l.31l"}) {
            Check.due("of " + nothing, Bows.reading(nothing).ifGiven(2, 0), NOT_POSSIBLE);
        }
        Bows.sayKind(x, 0, 1);
        for (int odd : ODD) {
            Check.due("ifGiven(" + odd + ", 0)", x.ifGiven(odd, 0), NO_SUCH);
            Check.due("ifGiven(1, " + odd + ")", x.ifGiven(1, odd), NO_SUCH);
        }
        Check.due("ifGiven(5, 0)", x.ifGiven(5, 0), 2);
    }

    private static void best(String text, int due) {
        Check.due("bestBow() behind " + text, Bows.reading(text).bestBow(), due);
    }

    private static void promise16BestBow() {
        best("", NONE);
        best("1l.3", NONE);
        best("1l.31l1l.3", 1);
        best("1r.31l1l.3", 0);
        best("3r.31l1l.3", 0);
        best("1l.31l1l.2", NONE);
        best("1l.31l1l.31r.3", NONE);
        best("1l.31l1l.31r", NONE);
        best("1l.31l1l.31r.3" + "2l.31l1r.3", 0);
        best("1r.31l1l.31l.3" + "1l.31l1r.3", 1);
        // The bow makes a flourish of the deed at the end, or of a courtier's name nothing.
        best("1l.31l1l.31r.31l1l", 0);
        best("1l.31l1l.31r.31l1l.2", 0);
        best("1l.31l1l.31r.31l1l.3", NONE);
        best("1l.31l1l.31r.31l", NONE);
        best("1l.31l1l.31l.31l1l", NONE);
        // A sentence more is not enough, if the speech as a whole says nothing.
        best("1l.31l1l.31l.31l.31l1l.3", NONE);
        best("1l1l1l1l.31l.31l1l.3", NONE);
        best("1l.31l1l.31r.31l.31l1l.31l.3", NONE);
        // With the bow, a group has 3 bows or 4.
        best("1l.31l1l.31r.31l1l1l", NONE);
        best("1l.31l1l.31r.31l1l1l.3", NONE);
        best("1l.31l", NONE);
        best("1l.31l1l1l.31l1l.33l3l3l.3", 1);
        // There is no seventh bow that would make a flourish of the last courtier's name.
        best("1l.31l1l.31r.33r", NONE);
        // Eyes 1 would see the first sentence said to itself, eyes 2 would see three sentences already.
        best("2l.31l1l.33l.31l.31l1l.3", 1);
        best("1l.31l1l.11r.31l.11l1l.31r.11l.31l1l.11r.3", 1);
        BowSpeeches x = Bows.withEyes(Bows.reading("1l.11l1l.1"), 0, 2);
        Check.due("eyes of courtiers do not count", x.bestBow(), NONE);
        BowSpeeches y = Bows.reading("3l.33l1l.3");
        for (int courtier = 0; courtier < 6; courtier++) {
            y.eyes(courtier, 1);
        }
        Check.due("as it is", y.bestBow(), 0);
        BowSpeeches z = Bows.reading("1l.31l1l.3");
        z.set(BowSpeeches.BREAK, 4);
        Check.due("longer breaks", z.bestBow(), NONE);
        z.set(BowSpeeches.BREAK, 2);
        Check.due("shorter breaks", z.bestBow(), 1);
    }

    private static void promise16Full() {
        BowSpeeches x = new BowSpeeches();
        for (int sentence = 0; sentence < 5; sentence++) {
            Bows.sayKind(x, 0, 1);
        }
        Bows.group(x, 3, 2);
        Bows.group(x, 3, 0, 0);
        Check.due("bestBow() of 23 bows", x.bestBow(), 0);
        x.bow(1, 0, 0);
        Check.due("bestBow() of 24 bows", x.bestBow(), NONE);
        BowSpeeches y = Bows.reading("1l1l1l.3".repeat(7));
        Bows.group(y, 3, 2);
        Bows.group(y, 3, 0, 0);
        Check.due("24 bows that lack one", y.count(3), 24);
        Check.due("bestBow() of them", y.bestBow(), NONE);
        BowSpeeches z = Bows.reading("1l1l1l.3".repeat(6));
        Bows.group(z, 9, 0);
        Bows.group(z, 9, 0, 0);
        Check.due("21 bows that lack one", z.count(3), 21);
        Check.due("bestBow() of them", z.bestBow(), 1);
    }

    private static void promise16ChangesNothing() {
        BowSpeeches x = Bows.reading("1l.31l1l.3");
        String before = Look.at(x);
        Check.due("bestBow()", x.bestBow(), 1);
        Check.due("all behind bestBow()", Look.at(x), before);
        Check.due("the bow that it tells brings one more", x.bow(1, 1, 0) == 4 ? x.speech(0, 2) : 0, 1);
    }

    private static void promise17Darling() {
        for (int best = 0; best < 6; best++) {
            BowSpeeches x = new BowSpeeches();
            Bows.sayKind(x, best, (best + 1) % 6);
            x.give();
            Check.due("darling()", x.darling(), best);
            x.set(BowSpeeches.MINUS, 9);
            Bows.sayUnkind(x, best, (best + 2) % 6);
            x.give();
            Check.due("darling() behind slights", x.darling(), best == 0 ? 1 : 0);
        }
        // All but one below zero, by different sums: it has the greatest of them.
        BowSpeeches x = new BowSpeeches();
        x.set(BowSpeeches.MINUS, 1);
        for (int giver = 0; giver < 6; giver++) {
            Bows.sayUnkind(x, giver, (giver + 1) % 6);
        }
        x.give();
        Check.due("all alike below zero", x.darling(), 0);
        for (int giver : new int[] {0, 1, 2, 3, 5}) {
            Bows.sayUnkind(x, giver, 4);
        }
        x.give();
        Check.due("the least unloved", x.darling(), 4);
        // The sum counts, not one favour: 3 is favoured by 4 as high as can be, but courtiers with other eyes miss it.
        BowSpeeches y = new BowSpeeches();
        for (int courtier = 0; courtier < 6; courtier++) {
            y.eyes(courtier, courtier == 4 ? 0 : 2);
        }
        Bows.group(y, 3, 3);
        y.bow(1, 0, 1);
        y.bow(1, 0, 3);
        Bows.group(y, 3, 4);
        y.give();
        Check.due("one that takes it, the receiver", y.courtier(3, 1), 4);
        Bows.sayKind(y, 5, 0);
        y.give();
        Check.due("many favours of 2", y.courtier(5, 1), 12);
        Check.due("darling() by sums", y.darling(), 5);
    }

    private static void promise17Ties() {
        Check.due("darling() of none", new BowSpeeches().darling(), 0);
        BowSpeeches x = new BowSpeeches();
        Bows.sayKind(x, 5, 0);
        Bows.sayKind(x, 3, 0);
        Bows.sayKind(x, 4, 0);
        x.give();
        Check.due("the lowest of three", x.darling(), 3);
        x.undo();
        Check.due("darling() behind undo", x.darling(), 0);
    }
}
