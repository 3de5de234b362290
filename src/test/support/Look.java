import java.util.function.Consumer;
import java.util.function.ToIntFunction;

/** Tells all that can be found out about an object, by calls that change it too: each probe gets an object of its own. */
final class Look {
    private Look() {
    }

    /** Some 200 calls, none of which is a change. */
    static String at(BowSpeeches x) {
        StringBuilder told = new StringBuilder();
        for (int what = 0; what < 10; what++) {
            told.append(x.count(what)).append(' ');
        }
        for (int courtier = 0; courtier < 6; courtier++) {
            for (int what = 0; what < 4; what++) {
                told.append(x.courtier(courtier, what)).append(' ');
            }
            for (int giver = 0; giver < 6; giver++) {
                told.append(x.favour(courtier, giver)).append('/').append(x.ifGiven(courtier, giver)).append(' ');
            }
        }
        told.append(speech(x, 0)).append(speech(x, 1)).append(speech(x, 2)).append(x.bestBow()).append(' ').append(x.darling()).append(' ').append(x.fault());
        return told.toString();
    }

    private static String speech(BowSpeeches x, int eyes) {
        StringBuilder told = new StringBuilder("[");
        int groups = x.speech(eyes, 0);
        int sentences = x.speech(eyes, 2);
        told.append(groups).append(',').append(x.speech(eyes, 1)).append(',').append(x.speech(eyes, 3)).append(':');
        for (int group = 0; group < groups; group++) {
            told.append(x.word(eyes, group)).append(' ');
        }
        for (int sentence = 0; sentence < sentences; sentence++) {
            told.append('(').append(x.sentence(eyes, sentence, 0)).append(x.sentence(eyes, sentence, 3))
                    .append(x.sentence(eyes, sentence, 2)).append(')');
        }
        return told.append("] ").toString();
    }

    /** Every bow, from its end: its number, and the pauses by how the breaks shrink the groups. */
    static String bowsOf(BowSpeeches x) {
        StringBuilder told = new StringBuilder();
        for (int beats = 2; beats <= 9; beats++) {
            x.set(BowSpeeches.BREAK, beats);
            int groups = x.speech(0, 0);
            for (int group = 0; group <= groups; group++) {
                told.append(x.word(0, group)).append(' ');
            }
        }
        for (int bow = 0; bow < 25; bow++) {
            told.append(x.takeBack()).append(' ').append(x.speech(2, 0)).append(' ');
        }
        return told.toString();
    }

    static String historyOf(BowSpeeches x) {
        StringBuilder told = new StringBuilder();
        for (int step = 0; step < 7; step++) {
            told.append(x.undo()).append(' ');
            for (int what = 0; what < 10; what++) {
                told.append(x.count(what)).append(' ');
            }
            for (int courtier = 0; courtier < 6; courtier++) {
                told.append(x.courtier(courtier, 0));
            }
            told.append(speech(x, 0));
        }
        return told.toString();
    }

    static String padOf(BowSpeeches x) {
        StringBuilder told = new StringBuilder();
        x.hush();
        told.append(x.fault()).append(' ').append(x.read()).append(' ');
        for (String more : new String[] {"l", "1", "3l"}) {
            told.append(x.put(Bows.packed(more))).append(' ').append(x.fault()).append(' ').append(x.read()).append(' ');
        }
        return told.append(bowsOf(x)).toString();
    }

    static String slotOf(BowSpeeches x, int slot) {
        return x.restore(slot) + " " + at(x);
    }

    static String slotBowsOf(BowSpeeches x, int slot) {
        return x.restore(slot) + " " + bowsOf(x);
    }

    /** Whether the call answers what is due and leaves the object as it would be without the call. */
    static void changesNothing(String name, Consumer<BowSpeeches> setup, ToIntFunction<BowSpeeches> call, int answer) {
        Check.due(name, call.applyAsInt(after(setup)), answer);
        leavesAll(name, setup, call);
    }

    static void leavesAll(String name, Consumer<BowSpeeches> setup, ToIntFunction<BowSpeeches> call) {
        Consumer<BowSpeeches> both = x -> {
            setup.accept(x);
            call.applyAsInt(x);
        };
        Check.due(name + ", then a look,", at(after(both)), at(after(setup)));
        Check.due(name + ", then the bows,", bowsOf(after(both)), bowsOf(after(setup)));
        Check.due(name + ", then undo,", historyOf(after(both)), historyOf(after(setup)));
        Check.due(name + ", then the pad,", padOf(after(both)), padOf(after(setup)));
        Check.due(name + ", then slot 0,", slotOf(after(both), 0), slotOf(after(setup), 0));
        Check.due(name + ", then slot 1,", slotOf(after(both), 1), slotOf(after(setup), 1));
        Check.due(name + ", then the bows of slot 0,", slotBowsOf(after(both), 0), slotBowsOf(after(setup), 0));
        Check.due(name + ", then the bows of slot 1,", slotBowsOf(after(both), 1), slotBowsOf(after(setup), 1));
    }

    private static BowSpeeches after(Consumer<BowSpeeches> setup) {
        BowSpeeches x = new BowSpeeches();
        setup.accept(x);
        return x;
    }
}
