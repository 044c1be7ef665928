import java.math.BigInteger;
import java.util.ArrayDeque;
import java.util.ArrayList;
import java.util.Arrays;
import java.util.Deque;
import java.util.List;
import java.util.regex.Matcher;
import java.util.regex.Pattern;

/** The document written a second time, as plainly as can be, to compare the class with. */
final class Model {
    private static final int BAD = -1, NO = -2, FULL = -3, NONE = -4, SEA = 99;
    private static final String AT_FIRST = "r0010;r0103;r1002;r0310;r2001;r0000;o0,0;o5,0;o13,1;o23,2;o9,1;";
    private static final Pattern ITEM = Pattern.compile("r([0-3]{2,6});|o([0-9]{1,2}),([0-9]{1,2});");

    /** What stands: a digit a cell for what lies on it, a letter 0 to 4 a cell for whose it is. */
    private record State(String lies, String whose, int columns, int slides) {
        int cells() {
            return lies.length();
        }

        int rows() {
            return cells() / columns;
        }

        int thing(int c) {
            return lies.charAt(c) - '0';
        }

        int owner(int c) {
            return whose.charAt(c) - '0';
        }

        State withThing(int c, int k) {
            return new State(put(lies, c, k), whose, columns, slides);
        }

        State withOwner(int c, int f) {
            return new State(lies, put(whose, c, f), columns, slides);
        }

        State withSlide(Run run, int f) {
            State then = this;
            for (int c : run.cells) {
                then = then.withOwner(c, f);
            }
            return new State(then.lies, then.whose, columns, slides + 1);
        }

        State withFrost(int row) {
            State then = this;
            for (int c = row * columns; c < row * columns + columns; c++) {
                if (thing(c) == 0) {
                    then = then.withThing(c, 1);
                } else if (thing(c) == 2) {
                    then = then.withThing(c, 0);
                }
            }
            return then;
        }

        int ownedBy(int f) {
            return (int) whose.chars().filter(sign -> sign == '0' + f).count();
        }

        int iced() {
            return (int) lies.chars().filter(sign -> sign == '1').count();
        }

        private static String put(String row, int at, int what) {
            return row.substring(0, at) + what + row.substring(at + 1);
        }
    }

    private static final class Run {
        final List<Integer> cells = new ArrayList<>();
        final List<Integer> speeds = new ArrayList<>();
        int end = SEA;
    }

    private final StringBuilder text = new StringBuilder();
    private State state;
    private final Deque<State> past = new ArrayDeque<>();
    private final Deque<State> kept = new ArrayDeque<>();
    private final List<int[]> sights = new ArrayList<>();

    Model() {
        state = (State) read(AT_FIRST);
    }

    /** A State, or the place of the fault; null for a text without fault that has no row. */
    private static Object read(String text) {
        String lies = "";
        String whose = "";
        int columns = 0;
        int at = 0;
        Matcher item = ITEM.matcher(text);
        while (at < text.length()) {
            if (!item.find(at) || item.start() != at) {
                return at;
            }
            String row = item.group(1);
            if (row != null) {
                boolean first = lies.isEmpty();
                if (!first && (row.length() != columns || lies.length() / columns == 8)) {
                    return at;
                }
                columns = row.length();
                lies += row;
                whose += "4".repeat(columns);
            } else {
                int c = Integer.parseInt(item.group(2));
                int f = Integer.parseInt(item.group(3));
                if (c >= lies.length() || f > 3) {
                    return at;
                }
                whose = State.put(whose, c, f);
            }
            at = item.end();
        }
        return lies.isEmpty() ? null : new State(lies, whose, columns, 0);
    }

    private static Run run(State s, int x, int w, int h) {
        Run run = new Run();
        int speed = w;
        int column = x;
        for (int row = 1; row <= s.rows(); row++) {
            int c = (row - 1) * s.columns() + column;
            run.cells.add(c);
            switch (s.thing(c)) {
                case 0 -> speed -= 2;
                case 1 -> speed = speed == 20 ? 20 : speed + 1;
                case 2 -> speed -= 5;
                default -> speed = speed < 2 ? 0 : (speed - 2) >> 1;
            }
            if (speed < 0) {
                speed = 0;
            }
            if (speed != 0 && (h == row || h == row + 10)) {
                speed -= 1;
                column += h > 10 ? 1 : -1;
                column = Math.min(Math.max(column, 0), s.columns() - 1);
            }
            run.speeds.add(speed);
            if (speed == 0) {
                run.end = c;
                break;
            }
        }
        return run;
    }

    private boolean isCell(int c) {
        return c >= 0 && c < state.cells();
    }

    private boolean isEnd(int c) {
        return c == SEA || isCell(c);
    }

    private boolean isSlide(int x, int w, int h) {
        boolean heels = h == 0 || h >= 1 && h <= 8 || h >= 11 && h <= 18;
        return x >= 0 && x < state.columns() && w >= 1 && w <= 20 && heels;
    }

    private static boolean in(int number, int low, int high) {
        return low <= number && number <= high;
    }

    private void remember() {
        past.push(state);
        if (past.size() > 8) {
            past.removeLast();
        }
    }

    int write(int letter) {
        if (!in(letter, 32, 126)) {
            return BAD;
        }
        if (text.length() == 200) {
            return FULL;
        }
        text.append((char) letter);
        return text.length();
    }

    int wipe() {
        int was = text.length();
        text.setLength(0);
        return was;
    }

    int fault() {
        Object found = read(text.toString());
        return found instanceof Integer place ? place : NONE;
    }

    int lay() {
        if (!(read(text.toString()) instanceof State laid) || laid.rows() < 2) {
            return NO;
        }
        state = new State(laid.lies, laid.whose, laid.columns, state.slides);
        sights.clear();
        past.clear();
        kept.clear();
        return state.cells();
    }

    int cell(int c, int what) {
        if (!isCell(c) || !in(what, 0, 1)) {
            return BAD;
        }
        return what == 0 ? state.thing(c) : state.owner(c) == 4 ? NONE : state.owner(c);
    }

    int stops(int x, int w, int h) {
        return isSlide(x, w, h) ? run(state, x, w, h).end : BAD;
    }

    int track(int x, int w, int h, int k, int what) {
        if (!isSlide(x, w, h) || !in(k, 0, state.rows() - 1) || !in(what, 0, 1)) {
            return BAD;
        }
        Run run = run(state, x, w, h);
        List<Integer> row = what == 0 ? run.cells : run.speeds;
        return k < row.size() ? row.get(k) : NONE;
    }

    int holds(int f) {
        return in(f, 0, 3) ? state.ownedBy(f) : BAD;
    }

    int slide(int f, int x, int w, int h) {
        if (!in(f, 0, 3) || !isSlide(x, w, h)) {
            return BAD;
        }
        remember();
        Run run = run(state, x, w, h);
        state = state.withSlide(run, f);
        return run.end;
    }

    int dig(int c, int k) {
        if (!isCell(c) || !in(k, 0, 3)) {
            return BAD;
        }
        int was = state.thing(c);
        if (was == k) {
            return NO;
        }
        remember();
        state = state.withThing(c, k);
        return was;
    }

    int give(int c, int f) {
        if (!isCell(c) || !in(f, 0, 4)) {
            return BAD;
        }
        int was = state.owner(c);
        if (was == f) {
            return NO;
        }
        remember();
        state = state.withOwner(c, f);
        return was == 4 ? NONE : was;
    }

    int frost(int r) {
        if (!in(r, 0, state.rows() - 1)) {
            return BAD;
        }
        State then = state.withFrost(r);
        int many = 0;
        for (int c = 0; c < state.cells(); c++) {
            many += then.thing(c) != state.thing(c) ? 1 : 0;
        }
        if (many == 0) {
            return NO;
        }
        remember();
        state = then;
        return many;
    }

    int undo() {
        if (past.isEmpty()) {
            return NO;
        }
        state = past.pop();
        return past.size();
    }

    /** All slides there are: column, weight and heels, in the document's order. */
    private List<int[]> allSlides() {
        List<int[]> all = new ArrayList<>();
        for (int code = 0; code < 10000 * state.columns(); code++) {
            int x = code / 10000;
            int w = code / 100 % 100;
            int h = code % 100;
            if (isSlide(x, w, h)) {
                all.add(new int[] {x, w, h, code});
            }
        }
        return all;
    }

    int aim(int c) {
        if (!isCell(c)) {
            return BAD;
        }
        for (int[] s : allSlides()) {
            if (run(state, s[0], s[1], s[2]).end == c) {
                return s[3];
            }
        }
        return NONE;
    }

    int gain(int f, int what) {
        return in(f, 0, 3) && in(what, 0, 1) ? best(f, f, 1, what) : BAD;
    }

    int spoil(int f, int g, int what) {
        return in(f, 0, 3) && in(g, 0, 3) && f != g && in(what, 0, 1) ? best(f, g, -1, what) : BAD;
    }

    private int best(int f, int counted, int sign, int what) {
        int bestCode = NONE;
        int bestMany = 0;
        for (int[] s : allSlides()) {
            int many = state.withSlide(run(state, s[0], s[1], s[2]), f).ownedBy(counted);
            if (bestCode == NONE || sign * many > sign * bestMany) {
                bestCode = s[3];
                bestMany = many;
            }
        }
        return what == 0 ? bestCode : bestMany;
    }

    int cure(int x, int w, int h, int c) {
        if (!isSlide(x, w, h) || !isCell(c)) {
            return BAD;
        }
        if (run(state, x, w, h).end == c) {
            return NONE;
        }
        for (int i = 0; i < 4 * state.cells(); i++) {
            if (run(state.withThing(i / 4, i % 4), x, w, h).end == c) {
                return i / 4 * 10 + i % 4;
            }
        }
        return NONE;
    }

    /** The fewest cells not f's behind the first cell on a way, for all pairs. */
    private int[][] distances(int f) {
        int n = state.cells();
        int[][] far = new int[n][n];
        for (int a = 0; a < n; a++) {
            for (int b = 0; b < n; b++) {
                int rows = Math.abs(a / state.columns() - b / state.columns());
                int columns = Math.abs(a % state.columns() - b % state.columns());
                far[a][b] = a == b ? 0 : rows + columns == 1 ? (state.owner(b) == f ? 0 : 1) : 1000;
            }
        }
        for (int m = 0; m < n; m++) {
            for (int a = 0; a < n; a++) {
                for (int b = 0; b < n; b++) {
                    far[a][b] = Math.min(far[a][b], far[a][m] + far[m][b]);
                }
            }
        }
        return far;
    }

    int pieces(int f) {
        if (!in(f, 0, 3)) {
            return BAD;
        }
        int[][] far = distances(f);
        int many = 0;
        for (int c = 0; c < state.cells(); c++) {
            boolean first = state.owner(c) == f;
            for (int b = 0; b < c && first; b++) {
                first = state.owner(b) != f || far[b][c] > 0;
            }
            many += first ? 1 : 0;
        }
        return many;
    }

    int bridge(int f, int a, int b) {
        if (!in(f, 0, 3) || !isCell(a) || !isCell(b)) {
            return BAD;
        }
        return state.owner(a) == f && state.owner(b) == f ? distances(f)[a][b] : NO;
    }

    int seen(int x, int w, int c) {
        if (!isSlide(x, w, 0) || !isEnd(c)) {
            return BAD;
        }
        if (sights.size() == 6) {
            return FULL;
        }
        sights.add(new int[] {x, w, c});
        return sights.size();
    }

    int forget() {
        int were = sights.size();
        sights.clear();
        return were;
    }

    int lies(int c) {
        if (!isCell(c)) {
            return BAD;
        }
        int bits = 0;
        for (int k = 0; k < 4; k++) {
            State then = state.withThing(c, k);
            bits += sights.stream().allMatch(s -> run(then, s[0], s[1], 0).end == s[2]) ? 1 << k : 0;
        }
        return bits;
    }

    int heavy(int x, int c, int what) {
        if (!in(x, 0, state.columns() - 1) || !isEnd(c) || !in(what, 0, 1)) {
            return BAD;
        }
        List<Integer> all = new ArrayList<>();
        for (int w = 1; w <= 20; w++) {
            if (run(state, x, w, 0).end == c) {
                all.add(w);
            }
        }
        return what == 0 ? all.size() : all.isEmpty() ? NONE : all.get(0);
    }

    int likely(int x, int w, int c, int t, int part) {
        if (!isSlide(x, w, 0) || !isEnd(c) || !in(t, 0, 10) || !in(part, 0, 1)) {
            return BAD;
        }
        BigInteger above = BigInteger.ZERO;
        for (int mask = 0; mask < 1 << state.rows(); mask++) {
            State then = state;
            long ways = 1;
            for (int row = 0; row < state.rows(); row++) {
                boolean ice = (mask >> row & 1) == 1;
                ways *= ice ? t : 10 - t;
                then = ice ? then.withThing(row * state.columns() + x, 1) : then;
            }
            if (run(then, x, w, 0).end == c) {
                above = above.add(BigInteger.valueOf(ways));
            }
        }
        BigInteger below = BigInteger.TEN.pow(state.rows());
        return (part == 0 ? above : below).divide(above.gcd(below)).intValueExact();
    }

    int winter(int z, int n, int what) {
        if (!in(z, 0, 9999) || !in(n, 1, 60) || !in(what, 0, 2)) {
            return BAD;
        }
        State then = state;
        int sea = 0;
        for (int i = 0; i < n; i++) {
            BigInteger x = BigInteger.valueOf(7919L * z + 6151L * i + 1);
            int draw = x.multiply(x).mod(BigInteger.valueOf(65521)).intValueExact() >> 1;
            int c = draw % then.cells();
            switch ((draw >> 6) & 3) {
                case 0 -> then = then.withThing(c, (draw >> 8) & 3);
                case 1 -> then = then.withFrost(c / then.columns());
                default -> {
                    Run run = run(then, c % then.columns(), (draw >> 8) % 20 + 1, 0);
                    then = then.withSlide(run, (draw >> 4) & 3);
                    sea += run.end == SEA ? 1 : 0;
                }
            }
        }
        return Arrays.asList(then.cells() - then.ownedBy(4), then.iced(), sea).get(what);
    }

    int keep() {
        if (kept.size() == 2) {
            return FULL;
        }
        kept.push(state);
        return kept.size();
    }

    int back() {
        if (kept.isEmpty()) {
            return NO;
        }
        state = kept.pop();
        past.clear();
        return kept.size();
    }

    int count(int what) {
        int[] all = {state.cells(), state.columns(), state.rows(), state.cells() - state.ownedBy(4),
            state.iced(), state.slides(), sights.size(), past.size(), kept.size(), text.length()};
        return in(what, 0, 9) ? all[what] : BAD;
    }
}
