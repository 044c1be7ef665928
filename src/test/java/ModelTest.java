import java.util.ArrayDeque;
import java.util.Deque;

/** Long runs of drawn calls: the class answers as the model does. */
public final class ModelTest {
    private static final int RUNS = 400, CALLS = 512;
    private static final String[] CALL_NAMES = {
        "write", "wipe", "fault", "lay", "cell", "stops", "track", "holds", "slide", "dig", "give", "frost",
        "undo", "aim", "gain", "spoil", "cure", "pieces", "bridge", "seen", "forget", "lies", "heavy",
        "likely", "winter", "keep", "back", "count"};
    /** How often each call is drawn, against the others. */
    private static final int[] SHARES = {
        2, 1, 3, 1, 3, 3, 4, 3, 8, 8, 6, 5, 6, 3, 2, 2, 3, 4, 6, 4, 1, 4, 4, 4, 3, 2, 1, 8};

    private final Check check;
    private long seed;
    private EstateSlopes slopes;
    private Model model;
    private final Deque<Integer> letters = new ArrayDeque<>();

    private ModelTest(Check check, long seed) {
        this.check = check;
        this.seed = seed;
    }

    public static void main(String[] args) {
        Check check = new Check();
        for (int run = 0; run < RUNS && check.wrong() == 0; run++) {
            new ModelTest(check, run).play(run);
        }
        check.close("ModelTest");
    }

    private void play(int run) {
        slopes = new EstateSlopes();
        model = new Model();
        if (run % 3 != 0) {
            drawText();
        }
        for (int i = 0; i < CALLS && check.wrong() == 0; i++) {
            int call = letters.isEmpty() ? drawCall() : 0;
            int[] a = new int[5];
            for (int k = 0; k < a.length; k++) {
                a[k] = draw(6) == 0 ? draw(24) - 2 : draw(4);
            }
            shape(call, a);
            ask(run, i, call, a);
            if (call == 1 && draw(3) != 0 || call == 0 && letters.isEmpty() && draw(40) == 0) {
                drawText();
            }
        }
    }

    private int draw(int below) {
        seed = seed * 6364136223846793005L + 1442695040888963407L;
        return (int) ((seed >>> 33) % below);
    }

    private int drawCall() {
        int sum = 0;
        for (int share : SHARES) {
            sum += share;
        }
        int at = draw(sum);
        for (int i = 0; i < SHARES.length; i++) {
            at -= SHARES[i];
            if (at < 0) {
                return i;
            }
        }
        return 0;
    }

    /** Letters that wait to be written: mostly a text without fault, then laid (letter -1). */
    private void drawText() {
        StringBuilder text = new StringBuilder();
        int columns = 2 + draw(5);
        int rows = 1 + draw(draw(4) == 0 ? 9 : 8);
        int ice = draw(4);
        for (int r = 0; r < rows; r++) {
            text.append('r');
            for (int x = 0; x < columns + (draw(60) == 0 ? draw(3) - 1 : 0); x++) {
                text.append(draw(60) == 0 ? 4 : draw(3) == 0 ? ice : draw(4));
            }
            text.append(";");
            if (draw(5) == 0) {
                text.append(owner(columns * (r + 1)));
            }
        }
        for (int i = draw(8); i > 0; i--) {
            text.append(owner(columns * rows));
        }
        if (draw(8) == 0) {
            text.setCharAt(draw(text.length()), (char) (draw(3) == 0 ? 32 + draw(95) : "ro;,0129".charAt(draw(8))));
        }
        if (draw(8) == 0) {
            text.setLength(draw(text.length()) + 1);
        }
        letters.clear();
        letters.add(-2);
        text.chars().forEach(letters::add);
        letters.add(-3);
        letters.add(-1);
    }

    private String owner(int cells) {
        int c = draw(30) == 0 ? cells + draw(3) : draw(cells);
        int f = draw(30) == 0 ? 4 + draw(8) : draw(4);
        String number = draw(6) == 0 && c < 10 ? "0" + c : "" + c;
        String side = draw(12) == 0 ? "0" + f : "" + f;
        return "o" + number + "," + side + ";";
    }

    private int drawEnd() {
        return draw(3) == 0 ? 99 : drawCell();
    }

    private int drawCell() {
        return draw(30) == 0 ? model.count(0) + draw(3) - 1 : draw(model.count(0));
    }

    private int drawColumn() {
        return draw(30) == 0 ? draw(9) - 1 : draw(model.count(1));
    }

    private int drawWeight() {
        return draw(30) == 0 ? draw(25) - 2 : 1 + draw(20);
    }

    private int drawHeels() {
        return draw(3) == 0 ? 0 : draw(21);
    }

    /** Makes most arguments of a call such as there are. */
    private void shape(int call, int[] a) {
        switch (CALL_NAMES[call]) {
            case "cell", "dig", "give", "aim", "lies" -> a[0] = drawCell();
            case "stops", "track", "cure" -> {
                a[0] = drawColumn();
                a[1] = drawWeight();
                a[2] = drawHeels();
                a[3] = CALL_NAMES[call].equals("track") ? draw(9) - (draw(9) == 0 ? 1 : 0) : drawCell();
                a[4] = draw(20) == 0 ? draw(4) - 1 : draw(2);
            }
            case "slide" -> {
                a[1] = drawColumn();
                a[2] = drawWeight();
                a[3] = drawHeels();
            }
            case "gain", "spoil" -> a[CALL_NAMES[call].equals("gain") ? 1 : 2] = draw(2);
            case "frost" -> a[0] = draw(9) - (draw(9) == 0 ? 1 : 0);
            case "bridge" -> shapeBridge(a);
            case "seen" -> {
                a[0] = drawColumn();
                a[1] = drawWeight();
                int end = model.stops(a[0], a[1], 0);
                a[2] = draw(3) == 0 || end < 0 ? drawEnd() : end;
            }
            case "heavy" -> {
                a[0] = drawColumn();
                a[1] = draw(3) == 0 ? drawEnd() : Math.max(0, model.stops(Math.max(a[0], 0), 1 + draw(20), 0));
                a[2] = draw(20) == 0 ? 2 : draw(2);
            }
            case "likely" -> {
                a[0] = drawColumn();
                a[1] = drawWeight();
                a[2] = draw(2) == 0 ? drawEnd() : a[0] + model.count(1) * draw(model.count(2));
                a[3] = draw(30) == 0 ? draw(14) - 1 : draw(11);
                a[4] = draw(20) == 0 ? 2 : draw(2);
            }
            case "winter" -> {
                a[0] = draw(10) == 0 ? 9995 + draw(10) : draw(10000);
                a[1] = draw(10) == 0 ? draw(65) - 1 : 1 + draw(60);
                a[2] = draw(20) == 0 ? draw(5) - 1 : draw(3);
            }
            case "count" -> a[0] = draw(12) - 1;
            default -> { }
        }
    }

    private void shapeBridge(int[] a) {
        a[1] = drawCell();
        a[2] = drawCell();
        int f = model.cell(a[1], 1);
        a[0] = f >= 0 && draw(10) != 0 ? f : draw(6) - 1;
        for (int tries = 0; tries < 20 && f >= 0 && model.cell(a[2], 1) != f; tries++) {
            a[2] = drawCell();
        }
    }

    private void ask(int run, int at, int drawn, int[] a) {
        int call = drawn;
        if (call == 0) {
            int letter = letters.isEmpty() ? 30 + draw(99) : letters.poll();
            call = letter == -1 ? 3 : letter == -2 ? 1 : letter == -3 ? 2 : 0;
            a[0] = letter;
        }
        String name = CALL_NAMES[call] + " " + a[0] + " " + a[1] + " " + a[2] + " " + a[3] + " " + a[4];
        check.due("run " + run + ", call " + at + ": " + name, answer(call, a), wanted(call, a));
    }

    private int answer(int call, int[] a) {
        return switch (CALL_NAMES[call]) {
            case "write" -> slopes.write(a[0]);
            case "wipe" -> slopes.wipe();
            case "fault" -> slopes.fault();
            case "lay" -> slopes.lay();
            case "cell" -> slopes.cell(a[0], a[1]);
            case "stops" -> slopes.stops(a[0], a[1], a[2]);
            case "track" -> slopes.track(a[0], a[1], a[2], a[3], a[4]);
            case "holds" -> slopes.holds(a[0]);
            case "slide" -> slopes.slide(a[0], a[1], a[2], a[3]);
            case "dig" -> slopes.dig(a[0], a[1]);
            case "give" -> slopes.give(a[0], a[1]);
            case "frost" -> slopes.frost(a[0]);
            case "undo" -> slopes.undo();
            case "aim" -> slopes.aim(a[0]);
            case "gain" -> slopes.gain(a[0], a[1]);
            case "spoil" -> slopes.spoil(a[0], a[1], a[2]);
            case "cure" -> slopes.cure(a[0], a[1], a[2], a[3]);
            case "pieces" -> slopes.pieces(a[0]);
            case "bridge" -> slopes.bridge(a[0], a[1], a[2]);
            case "seen" -> slopes.seen(a[0], a[1], a[2]);
            case "forget" -> slopes.forget();
            case "lies" -> slopes.lies(a[0]);
            case "heavy" -> slopes.heavy(a[0], a[1], a[2]);
            case "likely" -> slopes.likely(a[0], a[1], a[2], a[3], a[4]);
            case "winter" -> slopes.winter(a[0], a[1], a[2]);
            case "keep" -> slopes.keep();
            case "back" -> slopes.back();
            default -> slopes.count(a[0]);
        };
    }

    private int wanted(int call, int[] a) {
        return switch (CALL_NAMES[call]) {
            case "write" -> model.write(a[0]);
            case "wipe" -> model.wipe();
            case "fault" -> model.fault();
            case "lay" -> model.lay();
            case "cell" -> model.cell(a[0], a[1]);
            case "stops" -> model.stops(a[0], a[1], a[2]);
            case "track" -> model.track(a[0], a[1], a[2], a[3], a[4]);
            case "holds" -> model.holds(a[0]);
            case "slide" -> model.slide(a[0], a[1], a[2], a[3]);
            case "dig" -> model.dig(a[0], a[1]);
            case "give" -> model.give(a[0], a[1]);
            case "frost" -> model.frost(a[0]);
            case "undo" -> model.undo();
            case "aim" -> model.aim(a[0]);
            case "gain" -> model.gain(a[0], a[1]);
            case "spoil" -> model.spoil(a[0], a[1], a[2]);
            case "cure" -> model.cure(a[0], a[1], a[2], a[3]);
            case "pieces" -> model.pieces(a[0]);
            case "bridge" -> model.bridge(a[0], a[1], a[2]);
            case "seen" -> model.seen(a[0], a[1], a[2]);
            case "forget" -> model.forget();
            case "lies" -> model.lies(a[0]);
            case "heavy" -> model.heavy(a[0], a[1], a[2]);
            case "likely" -> model.likely(a[0], a[1], a[2], a[3], a[4]);
            case "winter" -> model.winter(a[0], a[1], a[2]);
            case "keep" -> model.keep();
            case "back" -> model.back();
            default -> model.count(a[0]);
        };
    }
}
