import java.util.ArrayDeque;
import java.util.ArrayList;
import java.util.Deque;
import java.util.List;
import java.util.Map;
import java.util.TreeMap;
import java.util.function.IntBinaryOperator;

/** The document once more, written with the whole library and as slowly as it likes: what TurnedBoards is held against. */
final class Model {
    private static final int INVALID = Checks.INVALID;
    private static final int NOT_FOUND = Checks.NOT_FOUND;

    /** A state that is never changed in place: each change works on a copy. */
    private static final class State implements Cloneable {
        TreeMap<Integer, Integer> drawn = new TreeMap<>();
        List<int[]> places = new ArrayList<>();
        String words = "/";
        boolean turned;
        int stiffness = 20;
        int day;
        int turns;
        int coats = 4;
        int cells = 3;

        State copy() {
            State copy = new State();
            copy.drawn = new TreeMap<>(drawn);
            for (int[] place : places) {
                copy.places.add(place.clone());
            }
            copy.words = words;
            copy.turned = turned;
            copy.stiffness = stiffness;
            copy.day = day;
            copy.turns = turns;
            copy.coats = coats;
            copy.cells = cells;
            return copy;
        }
    }

    private State now = new State();
    private State snapshot = null;
    private final Deque<State> history = new ArrayDeque<>();
    private final StringBuilder text = new StringBuilder();

    private void change() {
        history.addLast(now);
        if (history.size() == 5) {
            history.removeFirst();
        }
        now = now.copy();
    }

    static int turn(int sign) {
        int turned = 0;
        for (int cell = 0; cell < 15; cell++) {
            turned |= (sign >> 14 - cell & 1) << cell;
        }
        return turned;
    }

    static int distance(int one, int other) {
        int unlike = 0;
        for (int cell = 0; cell < 15; cell++) {
            unlike += (one >> cell & 1) == (other >> cell & 1) ? 0 : 1;
        }
        return unlike;
    }

    private int readSign(int sign) {
        int least = 99;
        int found = NOT_FOUND;
        for (Map.Entry<Integer, Integer> letter : now.drawn.entrySet()) {
            if (distance(sign, letter.getValue()) < least) {
                least = distance(sign, letter.getValue());
                found = letter.getKey();
            }
        }
        return found;
    }

    private int margin(int sign, int letter) {
        int own = distance(sign, now.drawn.get(letter));
        return now.drawn.entrySet().stream().filter(e -> e.getKey() != letter)
            .mapToInt(e -> distance(sign, e.getValue())).min().orElse(15) - own;
    }

    /** The composed sign and its lesser margin, or null. */
    private int[] between(int one, int other) {
        int a = now.drawn.get(one);
        int b = turn(now.drawn.get(other));
        int[] best = null;
        for (int sign = 0; sign < 32768; sign++) {
            if (((sign ^ a) & (sign ^ b)) != 0 || readSign(sign) != one || readSign(turn(sign)) != other) {
                continue;
            }
            int lesser = Math.min(margin(sign, one), margin(turn(sign), other));
            if (best == null || lesser > best[1]) {
                best = new int[] {sign, lesser};
            }
        }
        return best;
    }

    private String word(int word) {
        return now.words.split("/", -1)[word];
    }

    private int wanted(int place, int way) {
        String word = word(way);
        return word.charAt(way == 0 ? place : word.length() - 1 - place) - 'a';
    }

    private boolean noPlace(int place) {
        return place < 0 || place >= now.places.size();
    }

    private boolean coated(int place) {
        return now.places.get(place)[1] > 0;
    }

    private int seen(int place, int way) {
        int sign = now.places.get(place)[0];
        return way == 0 ? sign : turn(sign);
    }

    private int readPlace(int place, int way) {
        return coated(place) ? readSign(seen(place, way)) : NOT_FOUND;
    }

    private static boolean out(int value, int least, int most) {
        return value < least || value > most;
    }

    int letter(int letter, int sign) {
        if (out(letter, 0, 9) || out(sign, 0, 32767)) {
            return INVALID;
        }
        for (Map.Entry<Integer, Integer> other : now.drawn.entrySet()) {
            if (other.getKey() != letter && other.getValue() == sign) {
                return Checks.NOT_POSSIBLE;
            }
        }
        change();
        Integer before = now.drawn.put(letter, sign);
        return before == null ? -1 : before;
    }

    int sign(int place, int sign) {
        if (noPlace(place) || out(sign, 0, 32767)) {
            return INVALID;
        }
        change();
        int before = now.places.get(place)[0];
        now.places.set(place, new int[] {sign, now.coats});
        return before;
    }

    int compose(int place) {
        if (noPlace(place)) {
            return INVALID;
        }
        int[] found = between(wanted(place, 0), wanted(place, 1));
        if (found == null) {
            return Checks.NOT_POSSIBLE;
        }
        sign(place, found[0]);
        return found[0];
    }

    int composeAll() {
        if (now.places.isEmpty()) {
            return Checks.NOT_POSSIBLE;
        }
        change();
        int number = 0;
        for (int place = 0; place < now.places.size(); place++) {
            int[] found = between(wanted(place, 0), wanted(place, 1));
            if (found != null) {
                now.places.set(place, new int[] {found[0], now.coats});
                number++;
            }
        }
        return number;
    }

    int paint(int place) {
        if (noPlace(place)) {
            return INVALID;
        }
        if (now.places.get(place)[1] == 9) {
            return Checks.LIMIT;
        }
        change();
        return ++now.places.get(place)[1];
    }

    int gust(int force) {
        if (out(force, 1, 99)) {
            return INVALID;
        }
        change();
        if (force < now.stiffness) {
            return 0;
        }
        now.turned = !now.turned;
        now.turns++;
        if (now.stiffness > 1) {
            now.stiffness--;
        }
        return 1;
    }

    int oil(int stiffness) {
        if (out(stiffness, 1, 99)) {
            return INVALID;
        }
        change();
        int before = now.stiffness;
        now.stiffness = stiffness;
        return before;
    }

    private boolean fades(int place) {
        int dark = 0;
        for (int cell = 0; cell < 9; cell++) {
            dark += seen(place, now.turned ? 1 : 0) >> cell & 1;
        }
        return coated(place) && dark >= now.cells;
    }

    int pass(int days) {
        if (out(days, 1, 20)) {
            return INVALID;
        }
        if (now.day + days > 9999) {
            return Checks.LIMIT;
        }
        change();
        int lost = 0;
        for (int day = 0; day < days; day++) {
            now.day++;
            for (int place = 0; place < now.places.size(); place++) {
                if (fades(place)) {
                    now.places.get(place)[1]--;
                    lost++;
                }
            }
        }
        return lost;
    }

    int set(int what, int value) {
        if (out(what, 0, 1) || out(value, what == 0 ? 1 : 0, 9)) {
            return INVALID;
        }
        change();
        int before = what == 0 ? now.coats : now.cells;
        if (what == 0) {
            now.coats = value;
        } else {
            now.cells = value;
        }
        return before;
    }

    int letterOf(int letter, int what) {
        if (out(letter, 0, 9) || out(what, 0, 5)) {
            return INVALID;
        }
        if (what == 5) {
            return (int) now.words.chars().filter(c -> c == 'a' + letter).count();
        }
        Integer sign = now.drawn.get(letter);
        if (sign == null) {
            return NOT_FOUND;
        }
        if (what < 2) {
            return what == 0 ? sign : turn(sign);
        }
        if (what == 2) {
            return distance(sign, 0);
        }
        if (what == 3) {
            return readSign(turn(sign));
        }
        State with = now;
        now = now.copy();
        now.drawn.remove(letter);
        int other = readSign(sign);
        now = with;
        return other;
    }

    int placeOf(int place, int what) {
        if (noPlace(place) || out(what, 0, 7)) {
            return INVALID;
        }
        int way = what % 2;
        switch (what / 2) {
            case 0:
                return now.places.get(place)[way];
            case 1:
                return readPlace(place, way);
            case 2:
                return wanted(place, way);
            default:
                int letter = wanted(place, way);
                return now.drawn.containsKey(letter) ? margin(seen(place, way), letter) : NOT_FOUND;
        }
    }

    int reads(int reader, int index) {
        if (out(reader, 0, 1) || index < 0) {
            return INVALID;
        }
        if (index >= now.places.size()) {
            return NOT_FOUND;
        }
        boolean turnedFor = now.turned != (reader == 1);
        return turnedFor ? readPlace(now.places.size() - 1 - index, 1) : readPlace(index, 0);
    }

    int word(int word, int what) {
        if (out(word, 0, 1)) {
            return INVALID;
        }
        int size = now.places.size();
        if (what >= 10 && what < 10 + size) {
            return word(word).charAt(what - 10) - 'a';
        }
        if (what == 2) {
            return now.turned == (word == 1) ? 1 : 0;
        }
        if (what != 0 && what != 1) {
            return INVALID;
        }
        int misread = 0;
        for (int index = 0; index < size; index++) {
            int read = word == 0 ? readPlace(index, 0) : readPlace(size - 1 - index, 1);
            misread += read == word(word).charAt(index) - 'a' ? 0 : 1;
        }
        return what == 1 ? misread : misread == 0 ? 1 : 0;
    }

    int count(int what) {
        switch (what) {
            case 0:
                return now.places.size();
            case 1:
                return now.drawn.keySet().stream().mapToInt(letter -> 1 << letter).sum();
            case 2:
                return now.turned ? 1 : 0;
            case 3:
                return now.stiffness;
            case 4:
                return now.day;
            case 5:
                return now.turns;
            case 6:
                return now.places.stream().mapToInt(place -> place[1]).sum();
            case 7:
                return (int) now.places.stream().filter(place -> place[1] > 0).count();
            case 8:
                return history.size();
            case 9:
                return text.length();
            case 10:
                return snapshot == null ? 0 : 1;
            case 20:
                return now.coats;
            case 21:
                return now.cells;
            default:
                return INVALID;
        }
    }

    int composed(int one, int other, int what) {
        if (out(one, 0, 9) || out(other, 0, 9) || out(what, 0, 2)) {
            return INVALID;
        }
        if (!now.drawn.containsKey(one) || !now.drawn.containsKey(other)) {
            return Checks.NOT_POSSIBLE;
        }
        if (what == 2) {
            return distance(now.drawn.get(one), turn(now.drawn.get(other)));
        }
        int[] found = between(one, other);
        return found == null ? NOT_FOUND : found[what];
    }

    int goesWith(int letter) {
        if (out(letter, 0, 9)) {
            return INVALID;
        }
        if (!now.drawn.containsKey(letter)) {
            return Checks.NOT_POSSIBLE;
        }
        int best = NOT_FOUND;
        int lesser = -99;
        for (int other : now.drawn.keySet()) {
            int[] found = between(letter, other);
            if (found != null && found[1] > lesser) {
                best = other;
                lesser = found[1];
            }
        }
        return best;
    }

    int quality() {
        if (now.places.isEmpty()) {
            return NOT_FOUND;
        }
        IntBinaryOperator margin = (place, what) -> Math.max(-15, placeOf(place, what));
        int sum = 0;
        for (int place = 0; place < now.places.size(); place++) {
            sum += margin.applyAsInt(place, 6) + margin.applyAsInt(place, 7);
        }
        return Float.floatToIntBits((float) sum / (2 * now.places.size()));
    }

    int bareIn() {
        int least = NOT_FOUND;
        State real = now;
        for (int days = 1; days <= 9 && least == NOT_FOUND; days++) {
            now = now.copy();
            int coated = count(7);
            for (int place = 0; place < now.places.size(); place++) {
                if (fades(place)) {
                    now.places.get(place)[1]--;
                }
            }
            least = count(7) < coated ? days : NOT_FOUND;
        }
        now = real;
        return least;
    }

    int keep() {
        snapshot = now.copy();
        return now.places.size();
    }

    int restore() {
        if (snapshot == null) {
            return Checks.NOT_POSSIBLE;
        }
        change();
        now = snapshot.copy();
        return now.places.size();
    }

    int undo() {
        if (history.isEmpty()) {
            return Checks.NOT_POSSIBLE;
        }
        now = history.removeLast();
        return history.size();
    }

    int type(int character) {
        if (out(character, 32, 126)) {
            return INVALID;
        }
        if (text.length() == 30) {
            return Checks.LIMIT;
        }
        text.append((char) character);
        return text.length();
    }

    int clearText() {
        int before = text.length();
        text.setLength(0);
        return before;
    }

    /** The fault as place and reason, or null: character by character. */
    private int[] findFault() {
        int slash = -1;
        for (int index = 0; index < text.length(); index++) {
            char character = text.charAt(index);
            boolean letter = character >= 'a' && character <= 'j';
            if (slash < 0 && character == '/' && index > 0) {
                slash = index;
            } else if (!letter) {
                return new int[] {index, 1};
            } else if (slash < 0 && index == 8) {
                return new int[] {index, 2};
            } else if (slash >= 0 && index > 2 * slash) {
                return new int[] {index, 1};
            }
        }
        if (slash < 0 || text.length() < 2 * slash + 1) {
            return new int[] {text.length(), 1};
        }
        for (int index = 0; index < text.length(); index++) {
            if (index != slash && !now.drawn.containsKey(text.charAt(index) - 'a')) {
                return new int[] {index, 3};
            }
        }
        return null;
    }

    int fault(int what) {
        if (out(what, 0, 1)) {
            return INVALID;
        }
        int[] found = findFault();
        return found == null ? NOT_FOUND : found[what];
    }

    int read() {
        if (findFault() != null) {
            return Checks.NOT_POSSIBLE;
        }
        change();
        now.words = text.toString();
        now.turned = false;
        now.places = new ArrayList<>();
        for (int place = 0; place < now.words.indexOf('/'); place++) {
            now.places.add(new int[2]);
        }
        return now.places.size();
    }
}
