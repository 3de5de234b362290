/** Short ways to bow and to write. A bow is told by its number by itself, 0 to 5. */
final class Bows {
    private Bows() {
    }

    static void one(BowSpeeches x, int number, int pause) {
        x.bow(number / 2 + 1, number % 2, pause);
    }

    /** Bows without pauses between them, and a pause behind the last one. */
    static void group(BowSpeeches x, int pause, int... numbers) {
        for (int i = 0; i < numbers.length; i++) {
            one(x, numbers[i], i == numbers.length - 1 ? pause : 0);
        }
    }

    /** A sentence whose deed is made by the bows a and b; kind if b is even. Its pauses are 3, as BREAK is at first. */
    static void say(BowSpeeches x, int giver, int a, int b, int receiver) {
        group(x, 3, giver);
        group(x, 3, a, b);
        group(x, 3, receiver);
    }

    static void sayKind(BowSpeeches x, int giver, int receiver) {
        say(x, giver, 0, 0, receiver);
    }

    static void sayUnkind(BowSpeeches x, int giver, int receiver) {
        say(x, giver, 0, 1, receiver);
    }

    /** The same sentence again and again, given whenever the speech is full, and at the end. */
    static void giveTimes(BowSpeeches x, int times, boolean kind, int giver, int receiver) {
        for (int time = 1; time <= times; time++) {
            say(x, giver, 0, kind ? 0 : 1, receiver);
            if (time % 6 == 0 || time == times) {
                x.give();
            }
        }
    }

    /** One more undo than there can be changes; a bound, so that a test ends whatever the answers are. */
    static void undoAll(BowSpeeches x) {
        for (int step = 0; step < 7; step++) {
            x.undo();
        }
    }

    /** Up to eight characters as the number that put() asks for. */
    static long packed(String text) {
        long number = 0;
        for (int i = 0; i < text.length(); i++) {
            number = number << 8 | text.charAt(i);
        }
        return number;
    }

    static void write(BowSpeeches x, String text) {
        for (int i = 0; i < text.length(); i += 8) {
            x.put(packed(text.substring(i, Math.min(i + 8, text.length()))));
        }
    }

    static BowSpeeches withText(String text) {
        BowSpeeches x = new BowSpeeches();
        write(x, text);
        return x;
    }

    /** A speech read from a text. */
    static BowSpeeches reading(String text) {
        BowSpeeches x = withText(text);
        x.read();
        return x;
    }

    static BowSpeeches withEyes(BowSpeeches x, int courtier, int eyes) {
        x.eyes(courtier, eyes);
        return x;
    }
}
