import java.util.function.ToIntFunction;

/** The answers BAD, NO, NONE and FULL: which of several, and that nothing changes by them. */
final class AnswerSentences {
    private static final int BAD = EstateSlopes.BAD, NO = EstateSlopes.NO;
    private static final int FULL = EstateSlopes.FULL, NONE = EstateSlopes.NONE;
    private static final int[] FAR = {Integer.MIN_VALUE, Integer.MIN_VALUE + 1, -1000000, -100, -5, 100, 1000000,
        1 << 16, 1 << 30, Integer.MAX_VALUE - 1, Integer.MAX_VALUE};

    private final Sentences on;

    AnswerSentences(Sentences on) {
        this.on = on;
    }

    void all() {
        numbersThatAreNone();
        numberedFrom0();
        notAsThingsStand();
        thereIsNone();
        full();
        theFirstInThisOrder();
        nothingChangesByARefusal();
        nothingChangesByAQuestion();
    }

    /** Eight that can be undone, two kept, six seen, a text of 200 letters: nothing has room for more. */
    private static EstateSlopes filled() {
        EstateSlopes s = Slopes.laid("r02;r13;o0,0;o3,0;");
        s.seen(0, 3, 2);
        s.keep();
        s.slide(1, 0, 9, 0);
        s.dig(0, 3);
        s.keep();
        s.give(1, 2);
        s.frost(0);
        for (int i = 0; i < 6; i++) {
            s.slide(i % 4, i % 2, i + 1, 11);
            s.seen(1, 20, 99);
        }
        Slopes.type(s, "o1,1;".repeat(36) + "xy");
        return s;
    }

    private void refused(String call, int want, ToIntFunction<EstateSlopes> asked) {
        EstateSlopes s = filled();
        on.due(call, asked.applyAsInt(s), want);
        on.due("all behind " + call, Slopes.whole(s), Slopes.whole(filled()));
    }

    private void asked(String call, ToIntFunction<EstateSlopes> question) {
        EstateSlopes s = filled();
        int first = question.applyAsInt(s);
        on.due(call + " asked again", question.applyAsInt(s), first);
        on.due("all behind " + call, Slopes.whole(s), Slopes.whole(filled()));
    }

    private void numbersThatAreNone() {
        on.says("BAD: a number is none that is told (CELLS, COLUMNS, rows: such as there are;");
        EstateSlopes s = Slopes.laid("r000;r000;o0,0;o5,0;");
        for (int n : FAR) {
            int[] got = {s.write(n), s.cell(n, 0), s.cell(0, n), s.stops(n, 1, 0), s.stops(0, n, 0), s.stops(0, 1, n),
                s.track(n, 1, 0, 0, 0), s.track(0, n, 0, 0, 0), s.track(0, 1, n, 0, 0), s.track(0, 1, 0, n, 0),
                s.track(0, 1, 0, 0, n), s.holds(n), s.dig(n, 1), s.dig(0, n), s.give(n, 1), s.give(0, n)};
            for (int i = n == 100 ? 1 : 0; i < got.length; i++) {
                on.due(n + " in place " + i, got[i], BAD);
            }
        }
        for (int n : FAR) {
            int[] got = {s.slide(n, 0, 1, 0), s.slide(0, n, 1, 0), s.slide(0, 0, n, 0), s.slide(0, 0, 1, n), s.frost(n),
                s.aim(n), s.gain(n, 0), s.gain(0, n), s.spoil(n, 1, 0), s.spoil(1, n, 0), s.spoil(0, 1, n),
                s.cure(n, 1, 0, 0), s.cure(0, n, 0, 0), s.cure(0, 1, n, 0), s.cure(0, 1, 0, n), s.pieces(n)};
            for (int i = 0; i < got.length; i++) {
                on.due(n + " in place " + i + " of the acts and the best", got[i], BAD);
            }
        }
        s = Slopes.laid("r000;r000;o0,0;o5,0;");
        for (int n : FAR) {
            int[] got = {s.bridge(n, 0, 5), s.bridge(0, n, 5), s.bridge(0, 0, n), s.seen(n, 1, 0), s.seen(0, n, 0),
                s.seen(0, 1, n), s.lies(n), s.heavy(n, 0, 0), s.heavy(0, n, 0), s.heavy(0, 0, n),
                s.likely(n, 1, 0, 1, 0), s.likely(0, n, 0, 1, 0), s.likely(0, 1, n, 1, 0), s.likely(0, 1, 0, n, 0),
                s.likely(0, 1, 0, 1, n), s.winter(0, n, 0), s.winter(0, 1, n), s.count(n)};
            for (int i = 0; i < got.length; i++) {
                on.due(n + " in place " + i + " of the rest", got[i], BAD);
            }
            on.due("winter by " + n, s.winter(n, 1, 0), n == 100 ? s.winter(100, 1, 0) : BAD);
        }
        on.due("nothing has changed", Slopes.owners(s) + Slopes.counts(s), "0....0 6 3 2 2 0 0 0 0 0 20");
    }

    private void numberedFrom0() {
        on.says("COLUMNS and rows are numbered from 0, the left one, the uppermost first,"
                + " but rows by HEELS from 1 on;");
        EstateSlopes s = Slopes.laid("r012;r330;");
        on.due("column 0 is the left one", s.track(0, 9, 0, 0, 1), 7);
        on.due("column 2 is the right one", s.track(2, 9, 0, 0, 1), 4);
        on.due("row 0 is the uppermost", s.track(1, 9, 0, 0, 0), 1);
        on.due("row 1 is below it", s.track(1, 9, 0, 1, 0), 4);
        on.due("a frost in row 0", s.frost(0), 2);
        on.due("a frost in row 1", s.frost(1), 1);
        on.due("heels 1 are in the uppermost row", s.track(1, 9, 11, 0, 1), 9);
        on.due("heels 2 are in the row below it", s.track(1, 9, 12, 0, 1), 10);
        on.says("SIDES 0 to 3; WEIGHTS, HEELS as told).");
        for (int f = -1; f <= 4; f++) {
            boolean told = f >= 0 && f <= 3;
            on.due("holds " + f, s.holds(f), told ? 0 : BAD);
            on.due("slide of side " + f, s.slide(f, 0, 1, 0), told ? 3 : BAD);
        }
        for (int w = -1; w <= 22; w++) {
            on.due("weight " + w, s.stops(0, w, 0) == BAD ? 1 : 0, w < 1 || w > 20 ? 1 : 0);
        }
        for (int h = -2; h <= 20; h++) {
            boolean told = h >= 0 && h <= 8 || h >= 11 && h <= 18;
            on.due("heels " + h, s.stops(0, 1, h) == BAD ? 1 : 0, told ? 0 : 1);
        }
    }

    private void notAsThingsStand() {
        on.says("NO: not as things stand.");
        EstateSlopes s = Slopes.laid("r11;r00;o0,0;");
        on.due("dig what lies", s.dig(0, 1), NO);
        on.due("give to whose it is", s.give(0, 0), NO);
        on.due("a frost on ice", s.frost(0), NO);
        on.due("undo", s.undo(), NO);
        on.due("back", s.back(), NO);
        on.due("a bridge to nobody's cell", s.bridge(0, 0, 1), NO);
        s.wipe();
        on.due("lay an empty text", s.lay(), NO);
    }

    private void thereIsNone() {
        on.says("NONE: there is none.");
        EstateSlopes s = Slopes.laid("r11;r00;");
        on.due("no fault", s.fault(), NONE);
        on.due("no owner", s.cell(0, 1), NONE);
        on.due("no row it comes to", Slopes.laid("r00;r00;").track(0, 1, 0, 1, 0), NONE);
        on.due("no slide that stops there", s.aim(0), NONE);
        on.due("no cure", s.cure(0, 20, 0, 0), NONE);
        on.due("no weight", s.heavy(0, 0, 1), NONE);
        on.due("nobody's so far", s.give(0, 1), NONE);
        on.due("that was given all the same", s.cell(0, 1), 1);
    }

    private void full() {
        on.says("FULL.");
        EstateSlopes s = filled();
        on.due("write", s.write('r'), FULL);
        on.due("seen", s.seen(0, 1, 0), FULL);
        on.due("keep", s.keep(), FULL);
        on.due("slides are never full", s.slide(0, 0, 1, 0) >= 0 ? 1 : 0, 1);
        on.due("eight can be undone still", s.count(7), 8);
    }

    private void theFirstInThisOrder() {
        on.says("Of several the first in this order;");
        EstateSlopes s = filled();
        on.due("write: BAD, FULL", s.write(127), BAD);
        on.due("seen: BAD, FULL", s.seen(2, 1, 0), BAD);
        on.due("seen: BAD, FULL, the cell", s.seen(0, 1, 4), BAD);
        EstateSlopes t = Slopes.laid("r11;r00;o0,0;");
        on.due("bridge: BAD, NO", t.bridge(0, 1, 4), BAD);
        on.due("bridge: BAD, NO, the side", t.bridge(4, 1, 2), BAD);
        on.due("track: BAD, NONE", t.track(0, 1, 0, 2, 0), BAD);
        on.due("cell: BAD, NONE", t.cell(1, 2), BAD);
        on.due("heavy: BAD, NONE", t.heavy(0, 1, 2), BAD);
        on.due("cure: BAD, NONE", t.cure(0, 21, 0, 0), BAD);
        on.due("give: BAD, NO", t.give(4, 4), BAD);
    }

    private void nothingChangesByARefusal() {
        on.says("nothing changes then.");
        refused("write 31", BAD, s -> s.write(31));
        refused("write 114", FULL, s -> s.write('r'));
        refused("lay", NO, s -> s.lay());
        refused("slide of side 4", BAD, s -> s.slide(4, 0, 1, 0));
        refused("slide in column 2", BAD, s -> s.slide(0, 2, 1, 0));
        refused("slide of weight 21", BAD, s -> s.slide(0, 0, 21, 0));
        refused("slide by heels 10", BAD, s -> s.slide(0, 0, 1, 10));
        refused("dig cell 4", BAD, s -> s.dig(4, 0));
        refused("dig a 4", BAD, s -> s.dig(0, 4));
        refused("dig what lies", NO, s -> s.dig(0, s.cell(0, 0)));
        refused("give cell 4", BAD, s -> s.give(4, 0));
        refused("give to 5", BAD, s -> s.give(0, 5));
        refused("give to whose it is", NO, s -> s.give(0, s.cell(0, 1)));
        refused("frost in row 2", BAD, s -> s.frost(2));
        refused("frost on ice and a road", NO, s -> s.frost(1));
        refused("seen in column 2", BAD, s -> s.seen(2, 1, 0));
        refused("seen a seventh", FULL, s -> s.seen(0, 1, 0));
        refused("keep a third", FULL, s -> s.keep());
        refused("count 10", BAD, s -> s.count(10));
    }

    private void nothingChangesByAQuestion() {
        on.says("nothing changes then.");
        asked("fault", s -> s.fault());
        asked("cell", s -> s.cell(0, 1));
        asked("stops", s -> s.stops(0, 9, 11));
        asked("track", s -> s.track(0, 9, 11, 1, 1));
        asked("holds", s -> s.holds(1));
        asked("aim", s -> s.aim(3));
        asked("aim at none", s -> s.aim(2));
        asked("gain", s -> s.gain(2, 1));
        asked("spoil", s -> s.spoil(2, 1, 0));
        asked("cure", s -> s.cure(0, 9, 0, 2));
        asked("cure to the other column", s -> s.cure(0, 9, 0, 3));
        asked("pieces", s -> s.pieces(1));
        asked("bridge", s -> s.bridge(1, 0, 3));
        asked("lies", s -> s.lies(1));
        asked("heavy", s -> s.heavy(1, 99, 1));
        asked("likely", s -> s.likely(1, 9, 99, 5, 1));
        asked("winter", s -> s.winter(9999, 60, 0));
        asked("count", s -> s.count(5));
    }
}
