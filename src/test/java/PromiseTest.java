/** Each promise by hand: ordinary inputs, the edges that the document names, wrong inputs. */
public final class PromiseTest {
    private static final int BAD = EstateSlopes.BAD, NO = EstateSlopes.NO;
    private static final int FULL = EstateSlopes.FULL, NONE = EstateSlopes.NONE;
    private static final int LOW = Integer.MIN_VALUE, HIGH = Integer.MAX_VALUE;

    private final Check check = new Check();

    public static void main(String[] args) {
        PromiseTest test = new PromiseTest();
        test.newObject();
        test.write();
        test.wipe();
        test.fault();
        test.lay();
        test.cell();
        test.stops();
        test.track();
        test.holds();
        test.slide();
        test.dig();
        test.give();
        test.frost();
        test.undo();
        test.aim();
        test.gain();
        test.spoil();
        test.cure();
        test.pieces();
        test.bridge();
        test.seen();
        test.forget();
        test.lies();
        test.heavy();
        test.likely();
        test.winter();
        test.keep();
        test.back();
        test.count();
        test.farNumbers();
        test.check.close("PromiseTest");
    }

    private void due(String call, int got, int want) {
        check.due(call, got, want);
    }

    /** Promise 1 */
    private void newObject() {
        EstateSlopes s = new EstateSlopes();
        int[] counts = {24, 4, 6, 5, 5, 0, 0, 0, 0, 0};
        for (int i = 0; i < counts.length; i++) {
            due("new: count " + i, s.count(i), counts[i]);
        }
        String slope = "001001031002031020010000";
        String whose = "044440444144414444444442";
        for (int c = 0; c < 24; c++) {
            due("new: thing on " + c, s.cell(c, 0), slope.charAt(c) - '0');
            int f = whose.charAt(c) - '0';
            due("new: owner of " + c, s.cell(c, 1), f == 4 ? NONE : f);
        }
        due("new: fault", s.fault(), NONE);
        due("new: undo", s.undo(), NO);
        due("new: back", s.back(), NO);
        due("new: forget", s.forget(), 0);
        EstateSlopes other = new EstateSlopes();
        s.dig(0, 3);
        s.give(0, 3);
        due("objects share nothing: thing", other.cell(0, 0), 0);
        due("objects share nothing: owner", other.cell(0, 1), 0);
    }

    /** Promise 2 */
    private void write() {
        EstateSlopes s = new EstateSlopes();
        due("write 31", s.write(31), BAD);
        due("write 127", s.write(127), BAD);
        due("write -1", s.write(-1), BAD);
        due("wrong letters are not written", s.count(9), 0);
        due("write 32", s.write(32), 1);
        due("write 126", s.write(126), 2);
        for (int i = 3; i <= 200; i++) {
            due("write letter " + i, s.write('0'), i);
        }
        due("write beyond 200", s.write('0'), FULL);
        due("BAD is ahead of FULL", s.write(127), BAD);
        due("a full text stays", s.count(9), 200);
    }

    /** Promise 3 */
    private void wipe() {
        EstateSlopes s = new EstateSlopes();
        due("wipe nothing", s.wipe(), 0);
        Slopes.type(s, "r00;r");
        due("wipe five", s.wipe(), 5);
        due("wiped", s.count(9), 0);
        due("wiped: no fault", s.fault(), NONE);
        for (int i = 0; i < 201; i++) {
            s.write('x');
        }
        due("wipe a full one", s.wipe(), 200);
        due("write after it", s.write('r'), 1);
        due("what was wiped is not read", s.fault(), 0);
    }

    /** Promise 4 */
    private void fault() {
        String eight = "r00;r00;r00;r00;r00;r00;r00;r00;";
        due("fault of nothing", Slopes.faultOf(""), NONE);
        due("two cells a row", Slopes.faultOf("r03;"), NONE);
        due("six cells a row", Slopes.faultOf("r012301;"), NONE);
        due("one cell a row", Slopes.faultOf("r0;"), 0);
        due("seven cells a row", Slopes.faultOf("r0123012;"), 0);
        due("no cell a row", Slopes.faultOf("r;"), 0);
        due("a thing 4", Slopes.faultOf("r04;"), 0);
        due("a thing before 0", Slopes.faultOf("r0/;"), 0);
        due("a sign in a row", Slopes.faultOf("r0,0;"), 0);
        due("no end", Slopes.faultOf("r00"), 0);
        due("no end of the second", Slopes.faultOf("r00;r00"), 4);
        due("a shorter row", Slopes.faultOf("r000;r00;"), 5);
        due("a longer row", Slopes.faultOf("r00;r000;"), 4);
        due("eight rows", Slopes.faultOf(eight), NONE);
        due("nine rows", Slopes.faultOf(eight + "r00;"), 32);
        due("an unknown letter", Slopes.faultOf("r00;x00;"), 4);
        due("a large letter", Slopes.faultOf("R00;"), 0);
        due("an empty item", Slopes.faultOf("r00;;"), 4);
        due("a space", Slopes.faultOf("r00; r00;"), 4);
        due("an owner", Slopes.faultOf("r00;o1,3;"), NONE);
        due("a row behind an owner", Slopes.faultOf("r00;o1,3;r00;o2,0;"), NONE);
        due("a cell that is told later", Slopes.faultOf("r00;o2,3;r00;"), 4);
        due("a cell that is not told", Slopes.faultOf("r00;r00;o4,0;"), 8);
        due("an owner ahead of all", Slopes.faultOf("o0,0;r00;"), 0);
        due("two figures", Slopes.faultOf("r00;o01,03;"), NONE);
        due("three figures of a cell", Slopes.faultOf("r00;o001,3;"), 4);
        due("three figures of a side", Slopes.faultOf("r00;o1,003;"), 4);
        due("a side 4", Slopes.faultOf("r00;o1,4;"), 4);
        due("a side 10", Slopes.faultOf("r00;o1,10;"), 4);
        due("no side", Slopes.faultOf("r00;o1,;"), 4);
        due("no cell", Slopes.faultOf("r00;o,1;"), 4);
        due("no comma", Slopes.faultOf("r00;o1;"), 4);
        due("a third number", Slopes.faultOf("r00;o1,1,1;"), 4);
        due("an owner without end", Slopes.faultOf("r00;o1,1"), 4);
        due("a lone letter", Slopes.faultOf("r00;o"), 4);
        due("the first of two faults", Slopes.faultOf("r00;o9,1;r0;"), 4);
        due("cell 47", Slopes.faultOf("r000000;".repeat(8) + "o47,0;"), NONE);
        due("cell 48", Slopes.faultOf("r000000;".repeat(8) + "o48,0;"), 64);
        EstateSlopes s = Slopes.laid("r00;r00;o1,3;");
        s.slide(0, 0, 20, 0);
        s.fault();
        due("fault changes nothing", s.holds(0), 2);
        due("fault keeps the text", s.count(9), 13);
    }

    /** Promise 5 */
    private void lay() {
        EstateSlopes s = new EstateSlopes();
        due("lay nothing", s.lay(), NO);
        Slopes.type(s, "r13;");
        due("lay one row", s.lay(), NO);
        s.wipe();
        Slopes.type(s, "r13;r02;o9,9;");
        due("lay a fault", s.lay(), NO);
        due("not laid", s.count(0), 24);
        s.keep();
        s.seen(0, 5, 12);
        s.dig(0, 1);
        s.wipe();
        Slopes.type(s, "r13;o0,2;o0,1;r02;");
        due("lay two rows", s.lay(), 4);
        int[] counts = {4, 2, 2, 1, 1, 0, 0, 0, 0, 18};
        for (int i = 0; i < counts.length; i++) {
            due("laid: count " + i, s.count(i), counts[i]);
        }
        due("laid: thing", s.cell(1, 0), 3);
        due("laid: the last owner", s.cell(0, 1), 1);
        due("laid: nobody's", s.cell(3, 1), NONE);
        due("laid: undo", s.undo(), NO);
        due("laid: back", s.back(), NO);
        due("laid: no cell of old", s.cell(4, 0), BAD);
        s.slide(3, 0, 20, 0);
        due("lay again", s.lay(), 4);
        due("laid again: owner", s.cell(0, 1), 1);
        due("laid again: nobody's", s.holds(3), 0);
        due("slides so far stay", s.count(5), 1);
        due("lay the most", Slopes.laid("r000000;".repeat(8)).count(0), 48);
    }

    /** Promise 6 */
    private void cell() {
        EstateSlopes s = new EstateSlopes();
        due("cell 11 0", s.cell(11, 0), 2);
        due("cell 7 0", s.cell(7, 0), 3);
        due("cell 23 1", s.cell(23, 1), 2);
        due("cell 22 1", s.cell(22, 1), NONE);
        due("cell -1 0", s.cell(-1, 0), BAD);
        due("cell 24 0", s.cell(24, 0), BAD);
        due("cell 0 2", s.cell(0, 2), BAD);
        due("cell 0 -1", s.cell(0, -1), BAD);
    }

    /** Promise 7 */
    private void stops() {
        EstateSlopes s = Slopes.laid("r0123;r0000;r0000;");
        due("snow 2", s.stops(0, 2, 0), 0);
        due("snow 3", s.stops(0, 3, 0), 4);
        due("ice 1", s.stops(1, 1, 0), 5);
        due("thaw 5", s.stops(2, 5, 0), 2);
        due("thaw 6", s.stops(2, 6, 0), 6);
        due("road 3", s.stops(3, 3, 0), 3);
        due("road 4", s.stops(3, 4, 0), 7);
        due("road 1", s.stops(3, 1, 0), 3);
        due("snow 6", s.stops(0, 6, 0), 8);
        due("snow 7", s.stops(0, 7, 0), 99);
        due("heels stop it", s.stops(0, 3, 1), 0);
        due("heels to the right", s.stops(0, 4, 11), 5);
        due("heels to the left, none there", s.stops(0, 4, 1), 4);
        due("heels to the right, none there", s.stops(3, 7, 11), 7);
        due("heels to the left", s.stops(2, 7, 1), 5);
        due("heels in the last row stop it", s.stops(0, 7, 3), 8);
        due("heels in the last row", s.stops(0, 8, 13), 99);
        due("heels in no such row", s.stops(0, 7, 4), 99);
        due("heels in no such row 8", s.stops(0, 7, 8), 99);
        due("heels in no such row 18", s.stops(0, 7, 18), 99);
        due("20 on ice is 20", Slopes.laid("r11;r22;r22;r22;r22;").stops(0, 20, 0), 8);
        due("stops gives nothing", s.count(3) + s.count(5) + s.count(7), 0);
        int[][] wrong = {{-1, 5, 0}, {4, 5, 0}, {0, 0, 0}, {0, 21, 0}, {0, 5, -1}, {0, 5, 9}, {0, 5, 10}, {0, 5, 19}};
        for (int[] w : wrong) {
            due("stops wrong " + w[0] + " " + w[1] + " " + w[2], s.stops(w[0], w[1], w[2]), BAD);
        }
    }

    /** Promise 8 */
    private void track() {
        EstateSlopes s = Slopes.laid("r012;r000;r333;");
        due("cell in row 0", s.track(1, 9, 0, 0, 0), 1);
        due("speed behind ice", s.track(1, 9, 0, 0, 1), 10);
        due("cell in row 2", s.track(1, 9, 0, 2, 0), 7);
        due("speed behind a road", s.track(1, 9, 0, 2, 1), 3);
        due("speed behind heels", s.track(1, 9, 11, 0, 1), 9);
        due("cell behind heels", s.track(1, 9, 11, 1, 0), 5);
        due("speed where it stops", s.track(0, 3, 0, 1, 1), 0);
        due("cell where it stops", s.track(0, 3, 0, 1, 0), 3);
        due("behind where it stops", s.track(0, 3, 0, 2, 0), NONE);
        due("speed behind where it stops", s.track(0, 3, 0, 2, 1), NONE);
        due("stopped by heels", s.track(0, 3, 11, 0, 1), 0);
        due("row 3", s.track(0, 3, 0, 3, 0), BAD);
        due("row -1", s.track(0, 3, 0, -1, 0), BAD);
        due("what 2", s.track(0, 3, 0, 0, 2), BAD);
        due("what -1", s.track(0, 3, 0, 0, -1), BAD);
        due("BAD is ahead of NONE", s.track(0, 1, 0, 2, 2), BAD);
        due("column 3", s.track(3, 3, 0, 0, 0), BAD);
        due("weight 0", s.track(0, 0, 0, 0, 0), BAD);
        due("heels 9", s.track(0, 3, 9, 0, 0), BAD);
        due("track gives nothing", s.count(3) + s.count(5) + s.count(7), 0);
    }

    /** Promise 9 */
    private void holds() {
        EstateSlopes s = new EstateSlopes();
        int[] many = {2, 2, 1, 0};
        for (int f = 0; f < 4; f++) {
            due("holds " + f, s.holds(f), many[f]);
        }
        due("holds -1", s.holds(-1), BAD);
        due("holds 4", s.holds(4), BAD);
    }

    /** Promise 10 */
    private void slide() {
        EstateSlopes s = new EstateSlopes();
        due("slide that stops", s.slide(1, 0, 5, 0), 12);
        String mine = "1000100010001";
        for (int c = 0; c < mine.length(); c++) {
            boolean its = s.cell(c, 1) == 1;
            check.holds("cell " + c + " of the slide", its == (mine.charAt(c) == '1' || c == 9));
        }
        due("no cell behind its stop", s.cell(16, 1), NONE);
        due("the other side's cell is lost", s.holds(0), 1);
        due("slide with heels", s.slide(2, 2, 4, 14), 23);
        int[] way = {2, 6, 10, 14, 19, 23};
        for (int c : way) {
            due("its cell " + c, s.cell(c, 1), 2);
        }
        due("its cells are no more", s.holds(2), 6);
        due("the heel's other cell", s.cell(18, 1), NONE);
        due("slide to the sea", s.slide(3, 0, 13, 0), 99);
        due("slides", s.count(5), 3);
        int[][] wrong = {{-1, 0, 5, 0}, {4, 0, 5, 0}, {0, 4, 5, 0}, {0, -1, 5, 0}, {0, 0, 0, 0}, {0, 0, 21, 0},
            {0, 0, 5, 9}, {0, 0, 5, 10}, {0, 0, 5, 19}, {0, 0, 5, -1}};
        for (int[] w : wrong) {
            due("slide wrong", s.slide(w[0], w[1], w[2], w[3]), BAD);
        }
        due("wrong slides are none", s.count(5), 3);
        due("wrong slides are not to be undone", s.count(7), 3);
    }

    /** Promise 11 */
    private void dig() {
        EstateSlopes s = new EstateSlopes();
        due("dig 7", s.dig(7, 0), 3);
        due("dug", s.cell(7, 0), 0);
        due("dig the same", s.dig(7, 0), NO);
        due("dig 23", s.dig(23, 2), 0);
        due("its owner stays", s.cell(23, 1), 2);
        due("it stops there", s.stops(3, 15, 0), 23);
        due("dig -1", s.dig(-1, 0), BAD);
        due("dig 24", s.dig(24, 0), BAD);
        due("dig a 4", s.dig(0, 4), BAD);
        due("dig a -1", s.dig(0, -1), BAD);
        due("two acts", s.count(7), 2);
    }

    /** Promise 12 */
    private void give() {
        EstateSlopes s = new EstateSlopes();
        due("give 13 to 0", s.give(13, 0), 1);
        due("give 13 to 0 again", s.give(13, 0), NO);
        due("give 13 to none", s.give(13, 4), 0);
        due("give 13 to none again", s.give(13, 4), NO);
        due("give nobody's", s.give(13, 3), NONE);
        due("given", s.cell(13, 1), 3);
        due("what lies on it stays", s.cell(13, 0), 3);
        due("give -1", s.give(-1, 0), BAD);
        due("give 24", s.give(24, 0), BAD);
        due("give to 5", s.give(0, 5), BAD);
        due("give to -1", s.give(0, -1), BAD);
        due("three acts", s.count(7), 3);
        due("no slide", s.count(5), 0);
    }

    /** Promise 13 */
    private void frost() {
        EstateSlopes s = Slopes.laid("r0123;r1313;r2222;");
        due("frost 0", s.frost(0), 2);
        int[] then = {1, 1, 0, 3, 1, 3, 1, 3, 2, 2, 2, 2};
        for (int c = 0; c < then.length; c++) {
            due("frozen " + c, s.cell(c, 0), then[c]);
        }
        due("frost 1", s.frost(1), NO);
        due("frost 2", s.frost(2), 4);
        due("frost 2 again", s.frost(2), 4);
        due("frost 2 a third time", s.frost(2), NO);
        due("frost 3", s.frost(3), BAD);
        due("frost -1", s.frost(-1), BAD);
        due("three acts", s.count(7), 3);
    }

    /** Promise 14 */
    private void undo() {
        EstateSlopes s = new EstateSlopes();
        due("undo nothing", s.undo(), NO);
        s.slide(3, 0, 13, 0);
        s.dig(0, 2);
        s.give(0, 1);
        s.frost(0);
        due("undo the frost", s.undo(), 3);
        due("thaw again", s.cell(0, 0), 2);
        due("snow again", s.cell(1, 0), 0);
        due("undo the gift", s.undo(), 2);
        due("given back", s.cell(0, 1), 3);
        due("undo what was dug", s.undo(), 1);
        due("not dug", s.cell(0, 0), 0);
        due("undo the slide", s.undo(), 0);
        due("whose of old", s.cell(0, 1), 0);
        due("no slide", s.count(5), 0);
        due("undo more", s.undo(), NO);
        for (int i = 0; i < 3; i++) {
            s.slide(0, 0, 1, 0);
        }
        due("slides by which nothing becomes another", s.count(7), 3);
        s.dig(0, 0);
        s.give(0, 0);
        s.frost(9);
        due("calls that were refused are none", s.count(7), 3);
        for (int i = 0; i < 10; i++) {
            s.dig(3, i % 2 == 0 ? 1 : 0);
        }
        due("eight at most", s.count(7), 8);
        for (int i = 7; i >= 0; i--) {
            due("undo the last eight", s.undo(), i);
            due("as it was then", s.cell(3, 0), i % 2 == 0 ? 0 : 1);
        }
        due("no ninth", s.undo(), NO);
        due("slides stay that can't be undone", s.count(5), 3);
    }

    /** Promise 15 */
    private void aim() {
        EstateSlopes s = Slopes.laid("r10;r30;");
        due("aim 0", s.aim(0), NONE);
        due("aim 1", s.aim(1), 10100);
        due("aim 2", s.aim(2), 100);
        due("aim 3", s.aim(3), 111);
        due("aim -1", s.aim(-1), BAD);
        due("aim 4", s.aim(4), BAD);
        due("aim 99", s.aim(99), BAD);
        due("heels come last", Slopes.laid("r00;r00;").aim(2), 300);
        due("none stops on ice", Slopes.laid("r11;r00;").aim(0), NONE);
        // A road leaves 9 of 20, but 8 of 19, and each snow takes 2: the last row takes weight 20.
        EstateSlopes far = Slopes.laid("r33;r00;r00;r00;r00;r00;");
        due("aim by weight 20", far.aim(10), 2000);
        due("aim by weight 20 in the last column", far.aim(11), 12000);
        due("aim is no slide", s.count(5) + s.count(7), 0);
    }

    /** Promise 16 */
    private void gain() {
        EstateSlopes s = Slopes.laid("r10;r30;o0,1;o3,1;");
        due("gain 0: which", s.gain(0, 0), 100);
        due("gain 0: how many", s.gain(0, 1), 2);
        due("gain 1: which", s.gain(1, 0), 10401);
        due("gain 1: how many", s.gain(1, 1), 4);
        due("gain of all", Slopes.laid("r11;r11;o0,2;o1,2;o2,2;o3,2;").gain(2, 0), 100);
        due("gain of all: how many", Slopes.laid("r11;r11;o0,2;o1,2;o2,2;o3,2;").gain(2, 1), 4);
        due("gain -1", s.gain(-1, 0), BAD);
        due("gain 4", s.gain(4, 0), BAD);
        due("gain what 2", s.gain(0, 2), BAD);
        due("gain what -1", s.gain(0, -1), BAD);
        due("gain gives nothing", s.holds(0), 0);
    }

    /** Promise 17 */
    private void spoil() {
        EstateSlopes s = Slopes.laid("r10;r30;o0,1;o3,1;");
        due("spoil 1: which", s.spoil(0, 1, 0), 111);
        due("spoil 1: how many", s.spoil(0, 1, 1), 0);
        due("spoil one with nothing: which", s.spoil(1, 0, 0), 100);
        due("spoil one with nothing: how many", s.spoil(1, 0, 1), 0);
        EstateSlopes part = Slopes.laid("r000;r000;o2,3;o3,3;o5,3;");
        due("spoil part: which", part.spoil(0, 3, 0), 20300);
        due("spoil part: how many", part.spoil(0, 3, 1), 1);
        due("spoil alike", s.spoil(1, 1, 0), BAD);
        due("spoil 4", s.spoil(0, 4, 0), BAD);
        due("spoil by 4", s.spoil(4, 0, 0), BAD);
        due("spoil -1", s.spoil(0, -1, 0), BAD);
        due("spoil what 2", s.spoil(0, 1, 2), BAD);
        due("spoil takes nothing", s.holds(1), 2);
    }

    /** Promise 18 */
    private void cure() {
        EstateSlopes s = Slopes.laid("r10;r30;");
        due("cure to 0", s.cure(0, 3, 0, 0), 2);
        due("cure to 2", s.cure(0, 3, 0, 2), 0);
        due("it does as it is", s.cure(0, 2, 0, 2), NONE);
        due("cure to another column", s.cure(0, 3, 0, 1), NONE);
        due("cure with heels", s.cure(0, 3, 11, 3), 32);
        due("too fast", s.cure(0, 20, 0, 0), NONE);
        due("cure 99", s.cure(0, 3, 0, 99), BAD);
        due("cure 4", s.cure(0, 3, 0, 4), BAD);
        due("cure -1", s.cure(0, 3, 0, -1), BAD);
        due("cure column", s.cure(2, 3, 0, 0), BAD);
        due("cure weight", s.cure(0, 21, 0, 0), BAD);
        due("cure heels", s.cure(0, 3, 10, 0), BAD);
        due("cure digs nothing 0", s.cell(0, 0), 1);
        due("cure digs nothing 2", s.cell(2, 0), 3);
        due("cure is no act", s.count(7), 0);
    }

    /** Promise 19 */
    private void pieces() {
        String corners = "o0,1;o2,1;o4,1;o6,1;o8,1;";
        EstateSlopes s = Slopes.laid("r000;r000;r000;" + corners);
        due("by corners they are apart", s.pieces(1), 5);
        s.give(1, 1);
        due("beside in a row and a column", s.pieces(1), 3);
        s.give(5, 1);
        due("around a corner", s.pieces(1), 2);
        s.give(1, 0);
        due("apart again", s.pieces(1), 3);
        due("no cells", s.pieces(3), 0);
        due("the end of a row and the next one's start",
                Slopes.laid("r000;r000;o2,0;o3,0;").pieces(0), 2);
        due("pieces -1", s.pieces(-1), BAD);
        due("pieces 4", s.pieces(4), BAD);
    }

    /** Promise 20 */
    private void bridge() {
        EstateSlopes s = Slopes.laid("r0000;r0000;r0000;o0,2;o11,2;o6,2;o3,1;");
        due("bridge from corner to corner", s.bridge(2, 0, 11), 3);
        due("bridge back", s.bridge(2, 11, 0), 3);
        due("bridge to itself", s.bridge(2, 6, 6), 0);
        due("bridge 0 6", s.bridge(2, 0, 6), 2);
        s.give(7, 2);
        due("beside one another", s.bridge(2, 6, 11), 0);
        due("a longer way with fewer", detour().bridge(0, 0, 3), 0);
        due("another one's cell", s.bridge(2, 0, 3), NO);
        due("nobody's cell", s.bridge(2, 1, 0), NO);
        due("bridge side 4", s.bridge(4, 0, 0), BAD);
        due("bridge side -1", s.bridge(-1, 0, 0), BAD);
        due("bridge cell 12", s.bridge(2, 0, 12), BAD);
        due("BAD is ahead of NO", s.bridge(2, 1, -1), BAD);
    }

    private static EstateSlopes detour() {
        return Slopes.laid("r0000;r0000;r0000;o0,0;o4,0;o8,0;o9,0;o10,0;o11,0;o7,0;o3,0;");
    }

    /** Promise 21 */
    private void seen() {
        EstateSlopes s = new EstateSlopes();
        due("seen x -1", s.seen(-1, 5, 0), BAD);
        due("seen x 4", s.seen(4, 5, 0), BAD);
        due("seen w 0", s.seen(0, 0, 0), BAD);
        due("seen w 21", s.seen(0, 21, 0), BAD);
        due("seen c 24", s.seen(0, 5, 24), BAD);
        due("seen c -1", s.seen(0, 5, -1), BAD);
        due("seen c 98", s.seen(0, 5, 98), BAD);
        for (int i = 1; i <= 6; i++) {
            due("seen " + i, s.seen(0, 20, i % 2 == 0 ? 99 : 0), i);
        }
        due("seen a seventh", s.seen(0, 20, 99), FULL);
        due("BAD is ahead of FULL", s.seen(0, 20, 24), BAD);
        due("six are seen", s.count(6), 6);
        due("seen is no act", s.count(7), 0);
    }

    /** Promise 22 */
    private void forget() {
        EstateSlopes s = new EstateSlopes();
        due("forget nothing", s.forget(), 0);
        s.seen(0, 5, 12);
        s.seen(0, 1, 99);
        due("lies by what can't be", s.lies(3), 0);
        due("forget two", s.forget(), 2);
        due("nothing is seen", s.count(6), 0);
        due("anything lies", s.lies(3), 15);
        due("seen again", s.seen(0, 5, 12), 1);
        due("what was forgotten counts no more", s.lies(3), 15);
    }

    /** Promise 23 */
    private void lies() {
        EstateSlopes s = Slopes.laid("r00;r00;");
        due("nothing seen", s.lies(0), 15);
        s.seen(0, 3, 2);
        due("snow or road in cell 0", s.lies(0), 1);
        due("all but ice in cell 2", s.lies(2), 13);
        due("another column", s.lies(1), 15);
        s.seen(0, 7, 99);
        due("both", s.lies(2), 9);
        s.dig(0, 1);
        due("by the slope as it is now", s.lies(0), 1);
        due("the cell below then", s.lies(2), 4);
        s.dig(0, 2);
        due("nothing will do", s.lies(2), 0);
        due("lies digs nothing", s.cell(2, 0), 0);
        due("lies -1", s.lies(-1), BAD);
        due("lies 4", s.lies(4), BAD);
        due("lies 99", s.lies(99), BAD);
    }

    /** Promise 24 */
    private void heavy() {
        EstateSlopes s = Slopes.laid("r023;r003;");
        due("heavy 0 0: how many", s.heavy(0, 0, 0), 2);
        due("heavy 0 0: least", s.heavy(0, 0, 1), 1);
        due("heavy 0 3: how many", s.heavy(0, 3, 0), 2);
        due("heavy 0 3: least", s.heavy(0, 3, 1), 3);
        due("heavy 0 sea: how many", s.heavy(0, 99, 0), 16);
        due("heavy 0 sea: least", s.heavy(0, 99, 1), 5);
        due("heavy 2 5: how many", s.heavy(2, 5, 0), 6);
        due("heavy 2 5: least", s.heavy(2, 5, 1), 4);
        due("heavy another column: how many", s.heavy(0, 1, 0), 0);
        due("heavy another column: least", s.heavy(0, 1, 1), NONE);
        due("heavy x 3", s.heavy(3, 0, 0), BAD);
        due("heavy x -1", s.heavy(-1, 0, 0), BAD);
        due("heavy c 6", s.heavy(0, 6, 0), BAD);
        due("heavy c -1", s.heavy(0, -1, 0), BAD);
        due("heavy what 2", s.heavy(0, 0, 2), BAD);
        due("BAD is ahead of NONE", s.heavy(0, 1, -1), BAD);
    }

    private void odds(EstateSlopes s, int w, int c, int t, int above, int below) {
        due("likely above w " + w + " c " + c + " t " + t, s.likely(0, w, c, t, 0), above);
        due("likely below w " + w + " c " + c + " t " + t, s.likely(0, w, c, t, 1), below);
    }

    /** Promise 25 */
    private void likely() {
        EstateSlopes s = Slopes.laid("r00;r00;");
        odds(s, 2, 0, 3, 7, 10);
        odds(s, 2, 2, 3, 0, 1);
        odds(s, 2, 99, 3, 3, 10);
        odds(s, 3, 2, 4, 9, 25);
        odds(s, 3, 99, 4, 16, 25);
        odds(s, 1, 2, 5, 1, 4);
        odds(s, 2, 0, 0, 1, 1);
        odds(s, 2, 0, 10, 0, 1);
        odds(s, 2, 99, 10, 1, 1);
        odds(s, 2, 1, 5, 0, 1);
        EstateSlopes deep = Slopes.laid("r20;".repeat(8));
        // Behind seven rows: speed 8 by 1 way of ten million, speed 2 by 18.
        odds(deep, 1, 14, 1, 81, 50000000);
        odds(deep, 1, 99, 1, 7, 25000000);
        odds(Slopes.laid("r00;".repeat(8)), 15, 14, 1, 43046721, 100000000);
        int[][] wrong = {{-1, 1, 0, 5, 0}, {2, 1, 0, 5, 0}, {0, 0, 0, 5, 0}, {0, 21, 0, 5, 0}, {0, 1, 4, 5, 0},
            {0, 1, -1, 5, 0}, {0, 1, 0, -1, 0}, {0, 1, 0, 11, 0}, {0, 1, 0, 5, 2}, {0, 1, 0, 5, -1}};
        for (int[] w : wrong) {
            due("likely wrong", s.likely(w[0], w[1], w[2], w[3], w[4]), BAD);
        }
    }

    /** Promise 26 */
    private void winter() {
        // By z 0, thing 0: x 1, DRAW 0: cell 0 is dug, snow lies on it.
        EstateSlopes s = Slopes.laid("r11;r11;");
        due("one thing: sides", s.winter(0, 1, 0), 0);
        due("one thing: ice", s.winter(0, 1, 1), 3);
        due("one thing: sea", s.winter(0, 1, 2), 0);
        // Thing 1: x 6152, its square 37847104 modulo 65521 is 41487, DRAW 20743:
        // cell 3, kind 324 modulo 4 = 0, dug, 81 modulo 4 = 1: ice.
        due("two things: ice", s.winter(0, 2, 1), 3);
        due("two things on snow: ice", Slopes.laid("r00;r00;").winter(0, 2, 1), 1);
        // By z 2, thing 0: x 15839, 250873921 modulo 65521 is 59533, DRAW 29766:
        // cell 2, kind 465 modulo 4 = 1: a frost in row 1.
        due("a frost: ice", Slopes.laid("r00;r20;").winter(2, 1, 1), 1);
        // By z 1, thing 0: x 7920, 62726400 modulo 65521 is 22803, DRAW 11401:
        // cell 1, kind 178 modulo 4 = 2: side 712 modulo 4 = 0 slides in column 1 with 44 modulo 20 and 1.
        due("a slide: sides", s.winter(1, 1, 0), 2);
        due("a slide: ice", s.winter(1, 1, 1), 4);
        due("a slide: sea", s.winter(1, 1, 2), 1);
        due("nothing is given", s.count(3), 0);
        due("nothing is dug", s.count(4), 4);
        due("no act", s.count(7) + s.count(5), 0);
        due("the last winter", s.winter(9999, 60, 0) >= 0 ? 0 : 1, 0);
        due("z -1", s.winter(-1, 1, 0), BAD);
        due("z 10000", s.winter(10000, 1, 0), BAD);
        due("n 0", s.winter(0, 0, 0), BAD);
        due("n 61", s.winter(0, 61, 0), BAD);
        due("what 3", s.winter(0, 1, 3), BAD);
        due("what -1", s.winter(0, 1, -1), BAD);
    }

    /** Promise 27 */
    private void keep() {
        EstateSlopes s = new EstateSlopes();
        due("keep one", s.keep(), 1);
        due("keep two", s.keep(), 2);
        due("keep three", s.keep(), FULL);
        due("two are kept", s.count(8), 2);
        due("keep is no act", s.count(7), 0);
        s.dig(0, 3);
        due("keep when full", s.keep(), FULL);
        s.back();
        due("the third was not kept", s.cell(0, 0), 0);
        due("keep again", s.keep(), 2);
    }

    /** Promise 28 */
    private void back() {
        EstateSlopes s = new EstateSlopes();
        due("back to nothing", s.back(), NO);
        s.slide(3, 0, 13, 0);
        s.keep();
        s.slide(2, 0, 13, 0);
        s.dig(3, 2);
        s.keep();
        s.frost(5);
        s.slide(1, 0, 13, 0);
        s.seen(0, 5, 12);
        Slopes.type(s, "r0");
        due("back to the last", s.back(), 1);
        due("whose then", s.holds(2), 7);
        due("what lay then", s.cell(3, 0), 2);
        due("no frost then", s.cell(20, 0), 0);
        due("slides then", s.count(5), 2);
        due("nothing can be undone", s.undo(), NO);
        due("what is seen stays", s.count(6), 1);
        due("the text stays", s.count(9), 2);
        due("back to the first", s.back(), 0);
        due("whose at first", s.holds(3), 6);
        due("what lay at first", s.cell(3, 0), 0);
        due("slides at first", s.count(5), 1);
        due("back to no more", s.back(), NO);
        s.dig(3, 2);
        due("acts behind it can be undone", s.undo(), 0);
    }

    /** Promise 29 */
    private void count() {
        EstateSlopes s = Slopes.laid("r011;r230;o1,3;");
        s.slide(0, 0, 1, 0);
        s.slide(1, 1, 1, 0);
        s.undo();
        s.seen(0, 1, 0);
        s.keep();
        int[] counts = {6, 3, 2, 2, 2, 1, 1, 1, 1, 15};
        for (int i = 0; i < counts.length; i++) {
            due("count " + i, s.count(i), counts[i]);
        }
        due("count -1", s.count(-1), BAD);
        due("count 10", s.count(10), BAD);
    }

    /** Numbers far outside are BAD in every place, and change nothing. */
    private void farNumbers() {
        EstateSlopes s = new EstateSlopes();
        int[] far = {LOW, LOW + 1, -1000000, 1000000, HIGH - 1, HIGH, 1 << 16, 1 << 30};
        for (int n : far) {
            int[] got = {s.write(n), s.cell(n, 0), s.cell(0, n), s.stops(n, 1, 0), s.stops(0, n, 0), s.stops(0, 1, n),
                s.track(n, 1, 0, 0, 0), s.track(0, 1, 0, n, 0), s.track(0, 1, 0, 0, n), s.holds(n),
                s.slide(n, 0, 1, 0), s.slide(0, n, 1, 0), s.slide(0, 0, n, 0), s.slide(0, 0, 1, n), s.dig(n, 1),
                s.dig(0, n), s.give(n, 1), s.give(0, n), s.frost(n), s.aim(n), s.gain(n, 0), s.gain(0, n),
                s.spoil(n, 1, 0), s.spoil(1, n, 0), s.spoil(0, 1, n), s.cure(n, 1, 0, 0), s.cure(0, n, 0, 0),
                s.cure(0, 1, n, 0), s.cure(0, 1, 0, n), s.pieces(n), s.bridge(n, 0, 5), s.bridge(0, n, 5),
                s.bridge(0, 0, n), s.seen(n, 1, 0), s.seen(0, n, 0), s.seen(0, 1, n), s.lies(n), s.heavy(n, 0, 0),
                s.heavy(0, n, 0), s.heavy(0, 0, n), s.likely(n, 1, 0, 1, 0), s.likely(0, n, 0, 1, 0),
                s.likely(0, 1, n, 1, 0), s.likely(0, 1, 0, n, 0), s.likely(0, 1, 0, 1, n), s.winter(n, 1, 0),
                s.winter(0, n, 0), s.winter(0, 1, n), s.count(n)};
            for (int i = 0; i < got.length; i++) {
                due("far number " + n + " in place " + i, got[i], BAD);
            }
        }
        due("nothing has changed", s.count(3) + s.count(5) + s.count(6) + s.count(7) + s.count(9), 5);
    }
}
