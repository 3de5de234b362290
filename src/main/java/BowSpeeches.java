/**
 * A court speech of bows where depth, side and pause make sentences, as ../shared/DOC.md tells it.
 *
 * <p>A bow is held as its number by itself (2 * (depth less 1) and the side) and the pause behind it. What is
 * understood of a speech is read anew for each call, so that nothing has to be kept in step with the bows.
 */
public final class BowSpeeches {
    public static final int NO_SUCH = -1000001, BAD_VALUE = -1000002, BAD_TEXT = -1000003, TOO_MANY = -1000004,
            NOT_POSSIBLE = -1000005, NONE = -1000006;
    public static final int BREAK = 0, PLUS = 1, MINUS = 2;

    private static final int SETTINGS = 3, HIGHEST_SETTING = 9, LOWEST_BREAK = 2, LOWEST_OTHER = 1;
    private static final int COURTIERS = 6, EYES = 3, SEES_ALL = 0, MISSES_DEEP = 1, MISSES_SHORT = 2;
    private static final int MOST_BOWS = 24, BOW_NUMBERS = 6, DEEPEST = 3, SIDES = 2, LONGEST_PAUSE = 9;
    private static final int LONGEST_WORD = 3, FIRST_DEED = 6, FIRST_FLOURISH = 42;
    private static final int SAYS_SOMETHING = 0, NO_BOWS = 1, LONG_GROUP = 2, NOT_OF_THREES = 3, NOT_IN_ORDER = 4,
            TO_ITSELF = 5;
    private static final int PARTS = 3, GIVER = 0, DEED = 1, RECEIVER = 2;
    private static final int MOST_FAVOUR = 99;
    private static final int MOST_CHARACTERS = 60, FIRST_CODE = 33, LAST_CODE = 126, CODES_AT_ONCE = 8;
    private static final int MOST_STATES = 6, SLOTS = 2;

    private final Court court = new Court();
    private final Pad pad = new Pad();
    private final History history = new History();
    private final Court[] slots = new Court[SLOTS];

    private final Seen seen = new Seen();
    /** A second one, for calls that set two ways of seeing side by side. */
    private final Seen plain = new Seen();
    /** A court to try a bow in, so that the real one stays as it is. */
    private final Court trial = new Court();

    public BowSpeeches() {
    }

    // ---- changes

    public int set(int setting, int value) {
        if (setting < 0 || setting >= SETTINGS) {
            return BAD_VALUE;
        }
        int lowest = setting == BREAK ? LOWEST_BREAK : LOWEST_OTHER;
        if (value < lowest || value > HIGHEST_SETTING) {
            return BAD_VALUE;
        }
        history.remember(court);
        int previous = court.settings[setting];
        court.settings[setting] = value;
        return previous;
    }

    public int eyes(int courtier, int eyes) {
        if (!isCourtier(courtier)) {
            return NO_SUCH;
        }
        if (!areEyes(eyes)) {
            return BAD_VALUE;
        }
        history.remember(court);
        int previous = court.eyes[courtier];
        court.eyes[courtier] = eyes;
        return previous;
    }

    public int bow(int depth, int side, int pause) {
        if (depth < 1 || depth > DEEPEST || side < 0 || side >= SIDES || pause < 0 || pause > LONGEST_PAUSE) {
            return BAD_VALUE;
        }
        if (court.bows >= MOST_BOWS) {
            return TOO_MANY;
        }
        history.remember(court);
        court.addBow(bowNumber(depth, side), pause);
        return court.bows;
    }

    public int takeBack() {
        if (court.bows <= 0) {
            return NOT_POSSIBLE;
        }
        history.remember(court);
        court.bows--;
        return court.bowAt(court.bows);
    }

    public int read() {
        if (pad.firstFault() != NONE) {
            return BAD_TEXT;
        }
        if (court.bows + pad.bowsInText() > MOST_BOWS) {
            return TOO_MANY;
        }
        history.remember(court);
        pad.addBowsTo(court);
        pad.length = 0;
        return court.bows;
    }

    public int hush() {
        history.remember(court);
        int had = court.bows;
        court.bows = 0;
        return had;
    }

    public int give() {
        if (!canBeGiven()) {
            return NOT_POSSIBLE;
        }
        history.remember(court);
        int taken = 0;
        for (int taker = 0; taker < COURTIERS; taker++) {
            lookThroughEyesOf(taker);
            taken += sentencesSeenFor(taker);
            for (int giver = 0; giver < COURTIERS; giver++) {
                court.favours[favourIndex(taker, giver)] = favourBehindSeen(taker, giver);
            }
        }
        court.bows = 0;
        court.given++;
        court.taken += taken;
        return taken;
    }

    // ---- what there is; nothing changes

    public int speech(int eyes, int what) {
        if (!areEyes(eyes)) {
            return BAD_VALUE;
        }
        seen.look(court, eyes);
        switch (what) {
            case 0:
                return seen.groups;
            case 1:
                return seen.reason;
            case 2:
                return seen.sentences;
            case 3:
                return seen.flourishes;
            default:
                return BAD_VALUE;
        }
    }

    public int word(int eyes, int group) {
        if (!areEyes(eyes)) {
            return BAD_VALUE;
        }
        seen.look(court, eyes);
        if (group < 0 || group >= seen.groups) {
            return NO_SUCH;
        }
        return at(seen.words, group);
    }

    public int sentence(int eyes, int sentence, int what) {
        if (!areEyes(eyes) || what < 0 || what > PARTS) {
            return BAD_VALUE;
        }
        seen.look(court, eyes);
        if (sentence < 0 || sentence >= seen.sentences) {
            return NO_SUCH;
        }
        if (what == PARTS) {
            return seen.isKind(sentence) ? 1 : 0;
        }
        return seen.part(sentence, what);
    }

    public int favour(int courtier, int giver) {
        if (!isCourtier(courtier) || !isCourtier(giver)) {
            return NO_SUCH;
        }
        return court.favours[favourIndex(courtier, giver)];
    }

    public int count(int what) {
        switch (what) {
            case 0:
            case 1:
            case 2:
                return court.settings[what];
            case 3:
                return court.bows;
            case 4:
                return court.given;
            case 5:
                return court.taken;
            case 6:
                return courtiersMisled();
            case 7:
                return sumOfAllFavours();
            case 8:
                return pad.length;
            case 9:
                return history.size;
            default:
                return BAD_VALUE;
        }
    }

    public int courtier(int courtier, int what) {
        if (!isCourtier(courtier)) {
            return NO_SUCH;
        }
        switch (what) {
            case 0:
                return court.eyes[courtier];
            case 1:
                return favoursForGiver(courtier);
            case 2:
                return favoursOfCourtier(courtier);
            case 3:
                return sentencesTakenIfGiven(courtier);
            default:
                return BAD_VALUE;
        }
    }

    // ---- what if; nothing changes

    public int ifGiven(int courtier, int giver) {
        if (!isCourtier(courtier) || !isCourtier(giver)) {
            return NO_SUCH;
        }
        if (!canBeGiven()) {
            return NOT_POSSIBLE;
        }
        lookThroughEyesOf(courtier);
        return favourBehindSeen(courtier, giver);
    }

    public int bestBow() {
        if (court.bows >= MOST_BOWS) {
            return NONE;
        }
        plain.look(court, SEES_ALL);
        int most = plain.sentences;
        int best = NONE;
        trial.become(court);
        for (int number = 0; number < BOW_NUMBERS; number++) {
            trial.bows = court.bows;
            trial.addBow(number, 0);
            seen.look(trial, SEES_ALL);
            if (seen.sentences > most) {
                most = seen.sentences;
                best = number;
            }
        }
        return best;
    }

    public int darling() {
        int best = 0;
        for (int other = 1; other < COURTIERS; other++) {
            if (favoursForGiver(other) > favoursForGiver(best)) {
                best = other;
            }
        }
        return best;
    }

    // ---- texts

    public int put(long characters) {
        int codes = codesIn(characters);
        if (codes == 0) {
            return BAD_VALUE;
        }
        if (pad.length + codes > MOST_CHARACTERS) {
            return TOO_MANY;
        }
        for (int place = codes - 1; place >= 0; place--) {
            pad.append((char) codeAt(characters, place));
        }
        return pad.length;
    }

    public int wipe() {
        int had = pad.length;
        pad.length = 0;
        return had;
    }

    public int fault() {
        return pad.firstFault();
    }

    // ---- undo, saving

    public int undo() {
        if (!history.stepBack(court)) {
            return NOT_POSSIBLE;
        }
        return history.size;
    }

    public int save(int slot) {
        if (!isSlot(slot)) {
            return BAD_VALUE;
        }
        slots[slot] = copyOf(court, slots[slot]);
        return court.bows;
    }

    public int restore(int slot) {
        if (!isSlot(slot)) {
            return BAD_VALUE;
        }
        Court saved = slots[slot];
        if (saved == null) {
            return NOT_POSSIBLE;
        }
        history.remember(court);
        court.become(saved);
        return court.bows;
    }

    // ---- what arguments may be

    private static boolean isCourtier(int courtier) {
        return courtier >= 0 && courtier < COURTIERS;
    }

    private static boolean areEyes(int eyes) {
        return eyes >= 0 && eyes < EYES;
    }

    private static boolean isSlot(int slot) {
        return slot >= 0 && slot < SLOTS;
    }

    /** How many characters a number holds, 0 if it is not one that may be put. */
    private static int codesIn(long characters) {
        int codes = 0;
        while (codes < CODES_AT_ONCE && codeAt(characters, codes) != 0) {
            int code = codeAt(characters, codes);
            if (code < FIRST_CODE || code > LAST_CODE) {
                return 0;
            }
            codes++;
        }
        // A shift by 64 would be one by 0, so eight characters have nothing above them to be looked at.
        boolean moreAbove = codes < CODES_AT_ONCE && characters >>> (8 * codes) != 0;
        return moreAbove ? 0 : codes;
    }

    private static int codeAt(long characters, int place) {
        return (int) (characters >>> (8 * place)) & 255;
    }

    // ---- numbers of bows and words

    private static int bowNumber(int depth, int side) {
        return 2 * (depth - 1) + side;
    }

    private static boolean isNameOfCourtier(int word) {
        return word >= 0 && word < FIRST_DEED;
    }

    private static boolean isDeed(int word) {
        return word >= FIRST_DEED && word < FIRST_FLOURISH;
    }

    private static boolean isFlourish(int word) {
        return word >= FIRST_FLOURISH;
    }

    // ---- rows

    /** What stands in a row at a place; 0 where the row has no such place. */
    private static int at(int[] row, int place) {
        return place >= 0 && place < row.length ? row[place] : 0;
    }

    private static void copyRow(int[] from, int[] to) {
        for (int i = 0; i < from.length && i < to.length; i++) {
            to[i] = from[i];
        }
    }

    /** The court as it is now, in the spare one if there is one: so a place makes one court at most. */
    private static Court copyOf(Court now, Court spare) {
        Court copy = spare == null ? new Court() : spare;
        copy.become(now);
        return copy;
    }

    // ---- favours

    private static int favourIndex(int courtier, int giver) {
        return COURTIERS * courtier + giver;
    }

    private int favoursForGiver(int giver) {
        int sum = 0;
        for (int courtier = 0; courtier < COURTIERS; courtier++) {
            sum += at(court.favours, favourIndex(courtier, giver));
        }
        return sum;
    }

    private int favoursOfCourtier(int courtier) {
        int sum = 0;
        for (int giver = 0; giver < COURTIERS; giver++) {
            sum += at(court.favours, favourIndex(courtier, giver));
        }
        return sum;
    }

    private int sumOfAllFavours() {
        int sum = 0;
        for (int courtier = 0; courtier < COURTIERS; courtier++) {
            sum += favoursOfCourtier(courtier);
        }
        return sum;
    }

    // ---- what giving brings

    private boolean canBeGiven() {
        plain.look(court, SEES_ALL);
        return plain.reason == SAYS_SOMETHING;
    }

    private int sentencesTakenIfGiven(int courtier) {
        if (!canBeGiven()) {
            return 0;
        }
        lookThroughEyesOf(courtier);
        return sentencesSeenFor(courtier);
    }

    private void lookThroughEyesOf(int courtier) {
        seen.look(court, at(court.eyes, courtier));
    }

    /** Of the sentences that are seen now, those of which the courtier is not the giver. */
    private int sentencesSeenFor(int courtier) {
        int taken = 0;
        for (int sentence = 0; sentence < seen.sentences; sentence++) {
            if (seen.part(sentence, GIVER) != courtier) {
                taken++;
            }
        }
        return taken;
    }

    /** The favour of a courtier for a giver behind all sentences that are seen now. */
    private int favourBehindSeen(int courtier, int giver) {
        int favour = at(court.favours, favourIndex(courtier, giver));
        if (courtier == giver) {
            return favour;
        }
        for (int sentence = 0; sentence < seen.sentences; sentence++) {
            if (seen.part(sentence, GIVER) == giver) {
                // The bounds hold behind each sentence: what goes over them is lost to the next one.
                favour = Math.max(-MOST_FAVOUR, Math.min(MOST_FAVOUR, favour + gain(courtier, sentence)));
            }
        }
        return favour;
    }

    private int gain(int courtier, int sentence) {
        int once = seen.isKind(sentence) ? court.settings[PLUS] : -court.settings[MINUS];
        return seen.part(sentence, RECEIVER) == courtier ? 2 * once : once;
    }

    /** How many courtiers see other sentences than there are. */
    private int courtiersMisled() {
        plain.look(court, SEES_ALL);
        int misled = 0;
        for (int courtier = 0; courtier < COURTIERS; courtier++) {
            lookThroughEyesOf(courtier);
            if (!seen.saysTheSameAs(plain)) {
                misled++;
            }
        }
        return misled;
    }

    /** All that undo and saving keep: everything but the pad, the slots and the history. */
    private static final class Court {
        final int[] settings = {3, 2, 3};
        final int[] eyes = new int[COURTIERS];
        /** Row by row: of each courtier, for each giver. */
        final int[] favours = new int[COURTIERS * COURTIERS];
        final int[] numbers = new int[MOST_BOWS];
        final int[] pauses = new int[MOST_BOWS];
        int bows = 0;
        int given = 0;
        int taken = 0;

        void become(Court other) {
            copyRow(other.settings, settings);
            copyRow(other.eyes, eyes);
            copyRow(other.favours, favours);
            copyRow(other.numbers, numbers);
            copyRow(other.pauses, pauses);
            bows = other.bows;
            given = other.given;
            taken = other.taken;
        }

        void addBow(int number, int pause) {
            if (bows >= 0 && bows < MOST_BOWS) {
                numbers[bows] = number;
                pauses[bows] = pause;
                bows++;
            }
        }

        int bowAt(int place) {
            return at(numbers, place);
        }
    }

    /** A speech as eyes see it: its words, what is left without the flourishes, and whether that says something. */
    private static final class Seen {
        final int[] words = new int[MOST_BOWS];
        int groups = 0;
        /** The words without the flourishes: giver, deed and receiver of each sentence, if they are some. */
        final int[] left = new int[MOST_BOWS];
        int kept = 0;
        int flourishes = 0;
        int longGroups = 0;
        int reason = NO_BOWS;
        int sentences = 0;

        void look(Court court, int eyes) {
            findGroups(court, eyes);
            leaveOutFlourishes();
            reason = findReason();
            sentences = reason == SAYS_SOMETHING ? kept / PARTS : 0;
        }

        private void findGroups(Court court, int eyes) {
            groups = 0;
            int length = 0;
            int digits = 0;
            for (int i = 0; i < court.bows; i++) {
                length++;
                digits = BOW_NUMBERS * digits + seenNumber(court.bowAt(i), eyes);
                boolean isLast = i == court.bows - 1;
                if (isLast || seenAsBreak(at(court.pauses, i), eyes, court.settings[BREAK])) {
                    addGroup(wordOf(length, digits));
                    length = 0;
                    digits = 0;
                }
            }
        }

        /** A depth of 3 is two numbers above the same bow with a depth of 2. */
        private static int seenNumber(int number, int eyes) {
            boolean deep = number >= bowNumber(DEEPEST, 0);
            return eyes == MISSES_DEEP && deep ? number - SIDES : number;
        }

        private static boolean seenAsBreak(int pause, int eyes, int breakBeats) {
            return pause >= breakBeats || eyes == MISSES_SHORT && pause >= 1;
        }

        /** NONE for a group that is no word, as the public word() answers it. */
        private static int wordOf(int length, int digits) {
            switch (length) {
                case 1:
                    return digits;
                case 2:
                    return FIRST_DEED + digits;
                case LONGEST_WORD:
                    return FIRST_FLOURISH + digits;
                default:
                    return NONE;
            }
        }

        private void addGroup(int number) {
            if (groups >= 0 && groups < MOST_BOWS) {
                words[groups] = number;
                groups++;
            }
        }

        private void leaveOutFlourishes() {
            flourishes = 0;
            longGroups = 0;
            kept = 0;
            for (int i = 0; i < groups; i++) {
                int number = at(words, i);
                if (number == NONE) {
                    longGroups++;
                } else if (isFlourish(number)) {
                    flourishes++;
                } else {
                    keep(number);
                }
            }
        }

        private void keep(int number) {
            if (kept >= 0 && kept < MOST_BOWS) {
                left[kept] = number;
                kept++;
            }
        }

        private int findReason() {
            if (groups == 0) {
                return NO_BOWS;
            }
            if (longGroups > 0) {
                return LONG_GROUP;
            }
            if (kept == 0 || kept % PARTS != 0) {
                return NOT_OF_THREES;
            }
            boolean toItself = false;
            for (int three = 0; three < kept / PARTS; three++) {
                if (!isInOrder(three)) {
                    return NOT_IN_ORDER;
                }
                if (part(three, GIVER) == part(three, RECEIVER)) {
                    toItself = true;
                }
            }
            return toItself ? TO_ITSELF : SAYS_SOMETHING;
        }

        private boolean isInOrder(int three) {
            return isNameOfCourtier(part(three, GIVER)) && isDeed(part(three, DEED))
                    && isNameOfCourtier(part(three, RECEIVER));
        }

        int part(int three, int which) {
            int place = PARTS * three + which;
            return place >= 0 && place < MOST_BOWS ? left[place] : 0;
        }

        boolean isKind(int three) {
            return part(three, DEED) % 2 == 0;
        }

        boolean saysTheSameAs(Seen other) {
            if (sentences != other.sentences) {
                return false;
            }
            for (int i = 0; i < PARTS * sentences; i++) {
                if (at(left, i) != at(other.left, i)) {
                    return false;
                }
            }
            return true;
        }
    }

    /** The text that waits to be read as bows. */
    private static final class Pad {
        private static final int AT_DEPTH = 0, AT_SIDE = 1, BEHIND_SIDE = 2, AT_BEATS = 3, BEHIND_PAUSE = 4,
                NOWHERE = 5;

        final char[] characters = new char[MOST_CHARACTERS];
        int length = 0;

        void append(char character) {
            if (length >= 0 && length < MOST_CHARACTERS) {
                characters[length] = character;
                length++;
            }
        }

        private char characterAt(int place) {
            return place >= 0 && place < length && place < MOST_CHARACTERS ? characters[place] : 0;
        }

        int firstFault() {
            int place = AT_DEPTH;
            for (int i = 0; i < length; i++) {
                place = placeBehind(place, characterAt(i));
                if (place == NOWHERE) {
                    return i;
                }
            }
            boolean complete = place == BEHIND_SIDE || place == BEHIND_PAUSE;
            return complete ? NONE : length;
        }

        private static int placeBehind(int place, char character) {
            boolean isDepth = character >= '1' && character <= '3';
            switch (place) {
                case AT_SIDE:
                    return character == 'l' || character == 'r' ? BEHIND_SIDE : NOWHERE;
                case BEHIND_SIDE:
                    if (character == '.') {
                        return AT_BEATS;
                    }
                    return isDepth ? AT_SIDE : NOWHERE;
                case AT_BEATS:
                    return character >= '0' && character <= '9' ? BEHIND_PAUSE : NOWHERE;
                default:
                    return isDepth ? AT_SIDE : NOWHERE;
            }
        }

        /** How many bows a text without a fault has: each has one side. */
        int bowsInText() {
            int bows = 0;
            for (int i = 0; i < length; i++) {
                if (characterAt(i) == 'l' || characterAt(i) == 'r') {
                    bows++;
                }
            }
            return bows;
        }

        /** Asks for a text without a fault. */
        void addBowsTo(Court court) {
            int i = 0;
            while (i < length) {
                int depth = characterAt(i) - '0';
                int side = characterAt(i + 1) == 'r' ? 1 : 0;
                i += 2;
                int pause = 0;
                if (characterAt(i) == '.') {
                    pause = characterAt(i + 1) - '0';
                    i += 2;
                }
                court.addBow(bowNumber(depth, side), pause);
            }
        }
    }

    /** The states before the latest changes, in a ring: the oldest gives its place to the newest. */
    private static final class History {
        final Court[] states = new Court[MOST_STATES];
        private int next = 0;
        int size = 0;

        void remember(Court now) {
            if (next < 0 || next >= MOST_STATES) {
                return;
            }
            states[next] = copyOf(now, states[next]);
            next = (next + 1) % MOST_STATES;
            size = Math.min(size + 1, MOST_STATES);
        }

        /** Makes the court what it was before the latest change; false if there is no change to undo. */
        boolean stepBack(Court now) {
            int latest = (next + MOST_STATES - 1) % MOST_STATES;
            if (size <= 0 || latest < 0 || states[latest] == null) {
                return false;
            }
            now.become(states[latest]);
            next = latest;
            size--;
            return true;
        }
    }
}
