import java.util.ArrayDeque;
import java.util.ArrayList;
import java.util.Arrays;
import java.util.Deque;
import java.util.List;
import java.util.regex.Pattern;

/** The same document once more, written for being read and not for being small: what BowSpeeches is compared with. */
final class Model {
    static final int NO_SUCH = -1000001, BAD_VALUE = -1000002, BAD_TEXT = -1000003, TOO_MANY = -1000004,
            NOT_POSSIBLE = -1000005, NONE = -1000006;
    private static final Pattern WHOLE = Pattern.compile("([123][lr](\\.[0-9])?)+");
    private static final Pattern BEGINNING = Pattern.compile("([123][lr](\\.[0-9])?)*([123]([lr]\\.?)?)?");

    private record Bow(int depth, int side, int pause) {
        int number() {
            return 2 * (depth - 1) + side;
        }
    }

    private record Sentence(int giver, int deed, int receiver) {
        boolean kind() {
            return deed % 2 == 0;
        }
    }

    private static final class State {
        int breakBeats = 3;
        int plus = 2;
        int minus = 3;
        int[] eyes = new int[6];
        int[][] favours = new int[6][6];
        List<Bow> bows = new ArrayList<>();
        int given = 0;
        int taken = 0;

        State copy() {
            State copy = new State();
            copy.breakBeats = breakBeats;
            copy.plus = plus;
            copy.minus = minus;
            copy.eyes = eyes.clone();
            for (int i = 0; i < 6; i++) {
                copy.favours[i] = favours[i].clone();
            }
            copy.bows = new ArrayList<>(bows);
            copy.given = given;
            copy.taken = taken;
            return copy;
        }
    }

    private State now = new State();
    private String pad = "";
    private final Deque<State> history = new ArrayDeque<>();
    private final State[] slots = new State[2];

    private void change() {
        history.addLast(now.copy());
        if (history.size() > 6) {
            history.removeFirst();
        }
    }

    private static boolean in(int value, int low, int high) {
        return low <= value && value <= high;
    }

    int set(int setting, int value) {
        if (!in(setting, 0, 2) || !in(value, setting == 0 ? 2 : 1, 9)) {
            return BAD_VALUE;
        }
        change();
        int before = count(setting);
        if (setting == 0) {
            now.breakBeats = value;
        } else if (setting == 1) {
            now.plus = value;
        } else {
            now.minus = value;
        }
        return before;
    }

    int eyes(int courtier, int eyes) {
        if (!in(courtier, 0, 5)) {
            return NO_SUCH;
        }
        if (!in(eyes, 0, 2)) {
            return BAD_VALUE;
        }
        change();
        int before = now.eyes[courtier];
        now.eyes[courtier] = eyes;
        return before;
    }

    int bow(int depth, int side, int pause) {
        if (!in(depth, 1, 3) || !in(side, 0, 1) || !in(pause, 0, 9)) {
            return BAD_VALUE;
        }
        if (now.bows.size() == 24) {
            return TOO_MANY;
        }
        change();
        now.bows.add(new Bow(depth, side, pause));
        return now.bows.size();
    }

    int takeBack() {
        if (now.bows.isEmpty()) {
            return NOT_POSSIBLE;
        }
        change();
        return now.bows.remove(now.bows.size() - 1).number();
    }

    int read() {
        if (!WHOLE.matcher(pad).matches()) {
            return BAD_TEXT;
        }
        List<Bow> more = new ArrayList<>();
        for (String text : pad.split("(?=[123][lr])")) {
            int pause = text.length() == 4 ? text.charAt(3) - '0' : 0;
            more.add(new Bow(text.charAt(0) - '0', text.charAt(1) == 'l' ? 0 : 1, pause));
        }
        if (more.size() + now.bows.size() > 24) {
            return TOO_MANY;
        }
        change();
        now.bows.addAll(more);
        pad = "";
        return now.bows.size();
    }

    int hush() {
        change();
        int had = now.bows.size();
        now.bows.clear();
        return had;
    }

    int give() {
        if (reason(0) != 0) {
            return NOT_POSSIBLE;
        }
        change();
        int taken = 0;
        for (int courtier = 0; courtier < 6; courtier++) {
            taken += taken(courtier);
            now.favours[courtier] = favoursBehind(courtier);
        }
        now.bows.clear();
        now.given++;
        now.taken += taken;
        return taken;
    }

    private int taken(int courtier) {
        return (int) sentences(now.eyes[courtier]).stream().filter(s -> s.giver() != courtier).count();
    }

    private int[] favoursBehind(int courtier) {
        int[] favours = now.favours[courtier].clone();
        for (Sentence s : sentences(now.eyes[courtier])) {
            if (s.giver() == courtier) {
                continue;
            }
            int times = s.receiver() == courtier ? 2 : 1;
            int favour = favours[s.giver()] + (s.kind() ? times * now.plus : -times * now.minus);
            favours[s.giver()] = favour > 99 ? 99 : favour < -99 ? -99 : favour;
        }
        return favours;
    }

    private List<List<Bow>> groups(int eyes) {
        List<List<Bow>> groups = new ArrayList<>();
        boolean begin = true;
        for (Bow bow : now.bows) {
            int depth = eyes == 1 ? Math.min(bow.depth(), 2) : bow.depth();
            int pause = eyes == 2 && bow.pause() > 0 ? 99 : bow.pause();
            if (begin) {
                groups.add(new ArrayList<>());
            }
            groups.get(groups.size() - 1).add(new Bow(depth, bow.side(), pause));
            begin = pause >= now.breakBeats;
        }
        return groups;
    }

    private static int wordOf(List<Bow> group) {
        int a = group.get(0).number();
        switch (group.size()) {
            case 1:
                return a;
            case 2:
                return 6 + 6 * a + group.get(1).number();
            case 3:
                return 42 + 36 * a + 6 * group.get(1).number() + group.get(2).number();
            default:
                return NONE;
        }
    }

    private List<List<Bow>> withoutFlourishes(int eyes) {
        List<List<Bow>> left = groups(eyes);
        left.removeIf(group -> group.size() == 3);
        return left;
    }

    private int reason(int eyes) {
        if (now.bows.isEmpty()) {
            return 1;
        }
        if (groups(eyes).stream().anyMatch(group -> group.size() > 3)) {
            return 2;
        }
        List<List<Bow>> left = withoutFlourishes(eyes);
        if (left.isEmpty() || left.size() % 3 != 0) {
            return 3;
        }
        for (int i = 0; i < left.size(); i++) {
            if (left.get(i).size() != (i % 3 == 1 ? 2 : 1)) {
                return 4;
            }
        }
        for (int i = 0; i < left.size(); i += 3) {
            if (wordOf(left.get(i)) == wordOf(left.get(i + 2))) {
                return 5;
            }
        }
        return 0;
    }

    private List<Sentence> sentences(int eyes) {
        List<Sentence> sentences = new ArrayList<>();
        if (reason(eyes) == 0) {
            List<List<Bow>> left = withoutFlourishes(eyes);
            for (int i = 0; i < left.size(); i += 3) {
                sentences.add(new Sentence(wordOf(left.get(i)), wordOf(left.get(i + 1)), wordOf(left.get(i + 2))));
            }
        }
        return sentences;
    }

    int speech(int eyes, int what) {
        if (!in(eyes, 0, 2) || !in(what, 0, 3)) {
            return BAD_VALUE;
        }
        int flourishes = (int) groups(eyes).stream().filter(group -> group.size() == 3).count();
        return new int[] {groups(eyes).size(), reason(eyes), sentences(eyes).size(), flourishes}[what];
    }

    int word(int eyes, int group) {
        if (!in(eyes, 0, 2)) {
            return BAD_VALUE;
        }
        return in(group, 0, groups(eyes).size() - 1) ? wordOf(groups(eyes).get(group)) : NO_SUCH;
    }

    int sentence(int eyes, int sentence, int what) {
        if (!in(eyes, 0, 2) || !in(what, 0, 3)) {
            return BAD_VALUE;
        }
        if (!in(sentence, 0, sentences(eyes).size() - 1)) {
            return NO_SUCH;
        }
        Sentence s = sentences(eyes).get(sentence);
        return new int[] {s.giver(), s.deed(), s.receiver(), s.kind() ? 1 : 0}[what];
    }

    int favour(int courtier, int giver) {
        return in(courtier, 0, 5) && in(giver, 0, 5) ? now.favours[courtier][giver] : NO_SUCH;
    }

    int count(int what) {
        if (!in(what, 0, 9)) {
            return BAD_VALUE;
        }
        int others = (int) Arrays.stream(now.eyes).filter(eyes -> !sentences(eyes).equals(sentences(0))).count();
        int sum = Arrays.stream(now.favours).mapToInt(row -> Arrays.stream(row).sum()).sum();
        return new int[] {now.breakBeats, now.plus, now.minus, now.bows.size(), now.given, now.taken, others, sum,
            pad.length(), history.size()}[what];
    }

    int courtier(int courtier, int what) {
        if (!in(courtier, 0, 5)) {
            return NO_SUCH;
        }
        if (!in(what, 0, 3)) {
            return BAD_VALUE;
        }
        int forIt = Arrays.stream(now.favours).mapToInt(row -> row[courtier]).sum();
        int ofIt = Arrays.stream(now.favours[courtier]).sum();
        return new int[] {now.eyes[courtier], forIt, ofIt, reason(0) == 0 ? taken(courtier) : 0}[what];
    }

    int ifGiven(int courtier, int giver) {
        if (!in(courtier, 0, 5) || !in(giver, 0, 5)) {
            return NO_SUCH;
        }
        return reason(0) == 0 ? favoursBehind(courtier)[giver] : NOT_POSSIBLE;
    }

    int bestBow() {
        int most = sentences(0).size();
        int best = NONE;
        for (int number = 0; number < 6 && now.bows.size() < 24; number++) {
            now.bows.add(new Bow(number / 2 + 1, number % 2, 0));
            int with = sentences(0).size();
            now.bows.remove(now.bows.size() - 1);
            if (with > most) {
                most = with;
                best = number;
            }
        }
        return best;
    }

    int darling() {
        int best = 5;
        for (int courtier = 4; courtier >= 0; courtier--) {
            best = courtier(courtier, 1) >= courtier(best, 1) ? courtier : best;
        }
        return best;
    }

    int put(long characters) {
        StringBuilder text = new StringBuilder();
        boolean ended = false;
        for (int i = 0; i < 8; i++) {
            int code = (int) (characters >> 8 * i & 255);
            if (code == 0) {
                ended = true;
            } else if (ended || !in(code, 33, 126)) {
                return BAD_VALUE;
            } else {
                text.insert(0, (char) code);
            }
        }
        if (text.isEmpty()) {
            return BAD_VALUE;
        }
        if (pad.length() + text.length() > 60) {
            return TOO_MANY;
        }
        pad += text;
        return pad.length();
    }

    int wipe() {
        int had = pad.length();
        pad = "";
        return had;
    }

    int fault() {
        for (int i = 0; i < pad.length(); i++) {
            if (!BEGINNING.matcher(pad.substring(0, i + 1)).matches()) {
                return i;
            }
        }
        return WHOLE.matcher(pad).matches() ? NONE : pad.length();
    }

    int undo() {
        if (history.isEmpty()) {
            return NOT_POSSIBLE;
        }
        now = history.removeLast();
        return history.size();
    }

    int save(int slot) {
        if (!in(slot, 0, 1)) {
            return BAD_VALUE;
        }
        slots[slot] = now.copy();
        return now.bows.size();
    }

    int restore(int slot) {
        if (!in(slot, 0, 1)) {
            return BAD_VALUE;
        }
        if (slots[slot] == null) {
            return NOT_POSSIBLE;
        }
        change();
        now = slots[slot].copy();
        return now.bows.size();
    }
}
