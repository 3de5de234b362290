import java.util.function.Consumer;
import java.util.function.ToIntFunction;

/** All promises: a call that returns an error, and a call that only looks, leaves all as it would be without it. */
public final class ErrorsChangeNothingTest {
    private static final int NO_SUCH = -1000001, BAD_VALUE = -1000002, BAD_TEXT = -1000003, TOO_MANY = -1000004,
            NOT_POSSIBLE = -1000005;

    public static void main(String[] args) {
        wrongArguments(ErrorsChangeNothingTest::rich);
        wrongArguments(x -> { });
        wrongArguments(ErrorsChangeNothingTest::full);
        notPossible();
        looks(ErrorsChangeNothingTest::rich);
        looks(ErrorsChangeNothingTest::full);
        looks(x -> { });
        Check.end();
    }

    /** Different from a new object in all that there is: slots, history, pad, favours, eyes, settings, bows. */
    private static void rich(BowSpeeches x) {
        Bows.sayKind(x, 4, 1);
        x.save(0);
        x.eyes(1, 1);
        x.eyes(2, 2);
        x.give();
        x.set(1, 7);
        x.save(1);
        Bows.write(x, "3r.31l.13r.32l.43l3l3l.3");
        x.read();
        x.set(2, 6);
        Bows.write(x, "2l.x");
    }

    private static void full(BowSpeeches x) {
        rich(x);
        while (x.count(3) < 24) {
            x.bow(2, 1, x.count(3) % 10);
        }
        x.wipe();
        Bows.write(x, "2l.9".repeat(14) + "1r.");
    }

    private static void error(Consumer<BowSpeeches> setup, String name, ToIntFunction<BowSpeeches> call, int due) {
        Look.changesNothing(name, setup, call, due);
    }

    private static void wrongArguments(Consumer<BowSpeeches> s) {
        error(s, "set(0, 1)", x -> x.set(0, 1), BAD_VALUE);
        error(s, "set(2, 10)", x -> x.set(2, 10), BAD_VALUE);
        error(s, "set(3, 3)", x -> x.set(3, 3), BAD_VALUE);
        error(s, "eyes(6, 1)", x -> x.eyes(6, 1), NO_SUCH);
        error(s, "eyes(1, 3)", x -> x.eyes(1, 3), BAD_VALUE);
        error(s, "bow(4, 0, 0)", x -> x.bow(4, 0, 0), BAD_VALUE);
        error(s, "bow(1, 2, 0)", x -> x.bow(1, 2, 0), BAD_VALUE);
        error(s, "bow(1, 0, 10)", x -> x.bow(1, 0, 10), BAD_VALUE);
        error(s, "read()", x -> x.read(), BAD_TEXT);
        error(s, "speech(3, 0)", x -> x.speech(3, 0), BAD_VALUE);
        error(s, "speech(1, 4)", x -> x.speech(1, 4), BAD_VALUE);
        error(s, "word(3, 0)", x -> x.word(3, 0), BAD_VALUE);
        error(s, "word(2, 24)", x -> x.word(2, 24), NO_SUCH);
        error(s, "sentence(1, 0, 4)", x -> x.sentence(1, 0, 4), BAD_VALUE);
        error(s, "sentence(1, 9, 0)", x -> x.sentence(1, 9, 0), NO_SUCH);
        error(s, "favour(6, 0)", x -> x.favour(6, 0), NO_SUCH);
        error(s, "count(10)", x -> x.count(10), BAD_VALUE);
        error(s, "courtier(6, 0)", x -> x.courtier(6, 0), NO_SUCH);
        error(s, "courtier(0, 4)", x -> x.courtier(0, 4), BAD_VALUE);
        error(s, "ifGiven(0, 6)", x -> x.ifGiven(0, 6), NO_SUCH);
        error(s, "put(0)", x -> x.put(0), BAD_VALUE);
        error(s, "put() with a gap", x -> x.put(0x31003131L), BAD_VALUE);
        error(s, "put() with a bad code behind good ones", x -> x.put(0x31313120L), BAD_VALUE);
        error(s, "save(2)", x -> x.save(2), BAD_VALUE);
        error(s, "restore(-1)", x -> x.restore(-1), BAD_VALUE);
    }

    private static void notPossible() {
        Consumer<BowSpeeches> none = x -> { };
        error(none, "takeBack() of nothing", x -> x.takeBack(), NOT_POSSIBLE);
        error(none, "give() of nothing", x -> x.give(), NOT_POSSIBLE);
        error(none, "ifGiven() of nothing", x -> x.ifGiven(0, 1), NOT_POSSIBLE);
        error(none, "undo() of nothing", x -> x.undo(), NOT_POSSIBLE);
        error(none, "restore() of nothing", x -> x.restore(1), NOT_POSSIBLE);
        Consumer<BowSpeeches> full = ErrorsChangeNothingTest::full;
        error(full, "a 25th bow", x -> x.bow(1, 1, 1), TOO_MANY);
        error(full, "give() of no sentence", x -> x.give(), NOT_POSSIBLE);
        error(full, "ifGiven() of no sentence", x -> x.ifGiven(0, 1), NOT_POSSIBLE);
        error(full, "too many characters", x -> x.put(0x3131L), TOO_MANY);
        error(full, "one character, and there is room", x -> x.put(0x31L) == 60 ? x.put(0x31L) : 0, TOO_MANY, 1);
        Consumer<BowSpeeches> readable = x -> {
            full(x);
            x.wipe();
            Bows.write(x, "2l.9");
        };
        error(readable, "reading a 25th bow", x -> x.read(), TOO_MANY);
    }

    /** The same, where the call itself first adds characters, as many as it is told here. */
    private static void error(Consumer<BowSpeeches> setup, String name, ToIntFunction<BowSpeeches> call, int due, int added) {
        BowSpeeches x = new BowSpeeches();
        setup.accept(x);
        int length = x.count(8);
        Check.due(name, call.applyAsInt(x), due);
        Check.due(name + ": length of the pad", x.count(8), length + added);
    }

    private static void looks(Consumer<BowSpeeches> s) {
        Look.leavesAll("a look at all", s, x -> Look.at(x).length());
        Look.leavesAll("bestBow()", s, x -> x.bestBow());
        Look.leavesAll("darling()", s, x -> x.darling());
        Look.leavesAll("fault()", s, x -> x.fault());
        Look.leavesAll("ifGiven()", s, x -> x.ifGiven(3, 2));
        Look.leavesAll("count(6)", s, x -> x.count(6));
        Look.leavesAll("courtier()", s, x -> x.courtier(1, 3));
    }
}
