import java.util.ArrayList;
import java.util.List;
import java.util.function.Consumer;

/** Promises 21 to 23. */
public final class UndoAndSavingTest {
    private static final int BAD_VALUE = -1000002, NOT_POSSIBLE = -1000005;
    private static final int[] ODD = {Integer.MIN_VALUE, -1000006, -1, 2, 3, 1000, Integer.MAX_VALUE};

    public static void main(String[] args) {
        promise21Undo();
        promise21EveryChange();
        promise21History();
        promise21OtherThings();
        promise22Save();
        promise22WhatIsSaved();
        promise23Restore();
        promise23Undo();
        promise23WrongInputs();
        Check.end();
    }

    private static void promise21Undo() {
        BowSpeeches x = new BowSpeeches();
        Check.due("undo() of nothing", x.undo(), NOT_POSSIBLE);
        x.bow(1, 0, 0);
        x.bow(2, 0, 0);
        x.bow(3, 0, 0);
        Check.due("undo()", x.undo(), 2);
        Check.due("bows", x.count(3), 2);
        Check.due("undo()", x.undo(), 1);
        x.bow(3, 1, 0);
        Check.due("history", x.count(9), 2);
        Check.due("word", x.word(0, 0), 6 + 5);
        Check.due("undo()", x.undo(), 1);
        Check.due("word", x.word(0, 0), 0);
        Check.due("undo()", x.undo(), 0);
        Check.due("bows", x.count(3), 0);
        Check.due("undo() of nothing again", x.undo(), NOT_POSSIBLE);
        Check.due("history", x.count(9), 0);
    }

    /** Each change, and whether undo brings back all that was there; also a change that makes no difference. */
    private static void promise21EveryChange() {
        List<Consumer<BowSpeeches>> changes = new ArrayList<>();
        changes.add(x -> x.set(0, 9));
        changes.add(x -> x.set(1, 9));
        changes.add(x -> x.set(2, 9));
        changes.add(x -> x.set(0, 3));
        changes.add(x -> x.eyes(0, 2));
        changes.add(x -> x.eyes(5, 0));
        changes.add(x -> x.bow(3, 1, 9));
        changes.add(x -> x.takeBack());
        changes.add(x -> x.hush());
        changes.add(x -> x.give());
        changes.add(x -> x.restore(0));
        changes.add(x -> x.restore(1));
        for (int i = 0; i < changes.size(); i++) {
            BowSpeeches x = rich();
            String before = Look.at(x);
            String bows = Look.bowsOf(rich());
            int history = x.count(9);
            changes.get(i).accept(x);
            Check.due("change " + i + " is recorded", x.count(9), history + 1);
            Check.due("undo() of change " + i, x.undo(), history);
            Check.due("all behind undo() of change " + i, Look.at(x), before);
            Check.due("bows behind undo() of change " + i, Look.bowsOf(x), bows);
        }
        BowSpeeches x = rich();
        x.wipe();
        String before = Look.at(x);
        Bows.write(x, "2r.5");
        x.read();
        x.undo();
        Check.due("all behind undo() of read()", Look.at(x), before);
    }

    /** Different from a new object in all that there is, with four changes in its history. */
    private static BowSpeeches rich() {
        BowSpeeches x = new BowSpeeches();
        Bows.write(x, "3l.53l.13r.51r.6");
        x.read();
        x.eyes(2, 1);
        x.eyes(4, 2);
        x.set(1, 4);
        x.save(1);
        x.give();
        x.save(0);
        Bows.write(x, "1l.41l.22l.43l.7");
        x.read();
        x.set(2, 5);
        for (int change = 0; change < 3; change++) {
            x.undo();
        }
        Bows.write(x, "2l.41l.22l.43l.7");
        x.give();
        x.read();
        x.set(2, 5);
        for (int change = 0; change < 2; change++) {
            x.undo();
        }
        Bows.write(x, "2r.41r.22l.43l.7");
        x.read();
        Bows.write(x, "1l.x");
        return x;
    }

    private static void promise21History() {
        BowSpeeches x = new BowSpeeches();
        for (int bow = 1; bow <= 20; bow++) {
            x.bow(1, 0, 9);
            Check.due("history", x.count(9), Math.min(bow, 6));
        }
        for (int left = 5; left >= 0; left--) {
            Check.due("undo()", x.undo(), left);
            Check.due("bows", x.count(3), 14 + left);
        }
        Check.due("the seventh undo()", x.undo(), NOT_POSSIBLE);
        Check.due("bows", x.count(3), 14);
        // Undo and new changes in turn, past the end of the row in which the states are held.
        for (int turn = 0; turn < 4; turn++) {
            for (int bow = 0; bow < 4; bow++) {
                x.bow(2, 0, 9);
            }
            Check.due("undo()", x.undo(), turn == 0 ? 3 : 5);
            Check.due("undo()", x.undo(), turn == 0 ? 2 : 4);
            Check.due("bows", x.count(3), 16 + 2 * turn);
        }
    }

    private static void promise21OtherThings() {
        BowSpeeches x = new BowSpeeches();
        Bows.sayKind(x, 0, 1);
        Bows.write(x, "2l");
        x.give();
        x.save(0);
        Check.due("undo()", x.undo(), 4);
        Check.due("favours", x.count(7), 0);
        Check.due("given", x.count(4), 0);
        Check.due("taken", x.count(5), 0);
        Check.due("the pad stays", x.count(8), 2);
        Check.due("the slot stays", x.restore(0), 0);
        Check.due("favours from the slot", x.count(7), 12);
        Check.due("undo() of restore()", x.undo(), 4);
        Check.due("bows", x.count(3), 4);
        Check.due("give() again", x.give(), 5);
        Check.due("given", x.count(4), 1);
        // Errors and looks are no changes.
        int history = x.count(9);
        x.bow(0, 0, 0);
        x.set(0, 1);
        x.eyes(6, 0);
        x.give();
        x.takeBack();
        x.restore(2);
        x.restore(1);
        x.save(0);
        x.save(7);
        x.wipe();
        x.read();
        Check.due("history behind errors, saving and wiping", x.count(9), history);
    }

    private static void promise22Save() {
        BowSpeeches x = new BowSpeeches();
        Check.due("save(0)", x.save(0), 0);
        Bows.sayKind(x, 0, 1);
        Check.due("save(1)", x.save(1), 4);
        x.bow(1, 0, 0);
        Check.due("save(0) over it", x.save(0), 5);
        Check.due("it is no change", x.count(9), 5);
        Check.due("restore(1)", x.restore(1), 4);
        Check.due("restore(0)", x.restore(0), 5);
        for (int odd : ODD) {
            Check.due("save(" + odd + ")", x.save(odd), BAD_VALUE);
        }
        x.hush();
        Check.due("restore(0) behind errors", x.restore(0), 5);
        BowSpeeches y = new BowSpeeches();
        for (int odd : ODD) {
            y.save(odd);
        }
        Check.due("wrong slots save nothing in 0", y.restore(0), NOT_POSSIBLE);
        Check.due("wrong slots save nothing in 1", y.restore(1), NOT_POSSIBLE);
    }

    private static void promise22WhatIsSaved() {
        BowSpeeches x = savedAndLeft();
        BowSpeeches saved = rich();
        saved.wipe();
        Check.due("restore(0)", x.restore(0), saved.count(3));
        Check.due("all that was saved", withoutHistory(x), withoutHistory(saved));
        Check.due("its bows", Look.bowsOf(x), Look.bowsOf(saved));
        // The slot is a copy: what happens to the court behind restore() does not reach it.
        Check.due("restore(0) again", x.restore(0), rich().count(3));
        BowSpeeches again = savedAndLeft();
        again.restore(0);
        again.set(0, 7);
        again.hush();
        again.eyes(3, 2);
        again.restore(0);
        saved = rich();
        saved.wipe();
        Check.due("all that was saved, again", withoutHistory(again), withoutHistory(saved));
    }

    /** Saved in slot 0, and then made different in all that there is. */
    private static BowSpeeches savedAndLeft() {
        BowSpeeches x = rich();
        x.wipe();
        x.save(0);
        x.set(0, 8);
        x.set(1, 9);
        x.set(2, 9);
        for (int courtier = 0; courtier < 6; courtier++) {
            x.eyes(courtier, 1);
        }
        x.hush();
        x.set(0, 3);
        Bows.sayUnkind(x, 5, 4);
        x.give();
        Bows.group(x, 1, 5, 5, 5, 5, 5);
        return x;
    }

    /** A look at all but count(9). */
    private static String withoutHistory(BowSpeeches x) {
        String[] told = Look.at(x).split(" ", 11);
        told[9] = "";
        return String.join(" ", told);
    }

    private static void promise23Restore() {
        BowSpeeches x = new BowSpeeches();
        Check.due("restore(0) of nothing", x.restore(0), NOT_POSSIBLE);
        Check.due("restore(1) of nothing", x.restore(1), NOT_POSSIBLE);
        Check.due("no change", x.count(9), 0);
        x.save(1);
        Check.due("restore(0) of nothing, 1 is saved", x.restore(0), NOT_POSSIBLE);
        Check.due("restore(1)", x.restore(1), 0);
        Check.due("it is a change, also if nothing is different", x.count(9), 1);
        Bows.group(x, 3, 1, 2);
        Bows.write(x, "3l");
        Check.due("restore(1)", x.restore(1), 0);
        Check.due("the history goes on", x.count(9), 4);
        Check.due("the pad stays", x.count(8), 2);
        Check.due("undo()", x.undo(), 3);
        Check.due("bows", x.count(3), 2);
        x.save(0);
        x.hush();
        for (int time = 0; time < 3; time++) {
            Check.due("restore(0) " + time, x.restore(0), 2);
            Check.due("its word", x.word(0, 0), 6 + 6 * 1 + 2);
            x.takeBack();
            x.bow(3, 1, 0);
            x.bow(3, 1, 0);
            Check.due("restore(1) " + time, x.restore(1), 0);
        }
        Check.due("history is full", x.count(9), 6);
    }

    private static void promise23Undo() {
        BowSpeeches x = new BowSpeeches();
        x.bow(2, 1, 4);
        x.save(0);
        x.bow(1, 1, 4);
        x.eyes(3, 2);
        Check.due("restore(0)", x.restore(0), 1);
        Check.due("eyes", x.courtier(3, 0), 0);
        Check.due("undo()", x.undo(), 3);
        Check.due("eyes again", x.courtier(3, 0), 2);
        Check.due("bows again", x.count(3), 2);
        Check.due("the slot keeps it", x.restore(0), 1);
        Check.due("the word", x.word(0, 0), 3);
    }

    private static void promise23WrongInputs() {
        BowSpeeches x = new BowSpeeches();
        for (int odd : ODD) {
            Check.due("restore(" + odd + ")", x.restore(odd), BAD_VALUE);
        }
        x.save(0);
        x.save(1);
        x.bow(1, 0, 0);
        for (int odd : ODD) {
            Check.due("restore(" + odd + ")", x.restore(odd), BAD_VALUE);
        }
        Check.due("bows", x.count(3), 1);
        Check.due("history", x.count(9), 1);
    }
}
