/** Terms 3, and promises 15 to 20: aim, gain, spoil, cure, pieces, bridge. */
final class BestSentences {
    private static final int BAD = EstateSlopes.BAD, NO = EstateSlopes.NO, NONE = EstateSlopes.NONE;

    private final Sentences on;

    BestSentences(Sentences on) {
        this.on = on;
    }

    void all() {
        aimAtTheFirst();
        aim();
        gainOfSeveral();
        gain();
        spoilOfSeveral();
        spoil();
        cureByTheFirst();
        cureOfNothing();
        cure();
        piecesTogether();
        pieces();
        bridgeByTheFewest();
        bridge();
    }

    private void aimAtTheFirst() {
        on.says("AIM at a CELL: of SLIDES that which STOPS there, the first (by the COLUMN, then the WEIGHT,"
                + " then HEELS): 10000 times the COLUMN, 100 times the WEIGHT, and HEELS; none.");
        EstateSlopes snow = Slopes.laid("r00;r00;");
        on.due("the first slide of all", snow.aim(0), 100);
        on.due("the first of column 1", snow.aim(1), 10100);
        on.due("the lightest that comes there", snow.aim(2), 300);
        on.due("the column is ahead of the weight", snow.aim(3), 411);
        // From column 0: weight 3 by heels in row 2, weight 9 by heels in row 1, over the thaw.
        on.due("the weight is ahead of the heels", Slopes.laid("r00;r12;r00;").aim(5), 312);
        EstateSlopes ice = Slopes.laid("r111;r111;r000;");
        on.due("heels to the left are ahead of those to the right", ice.aim(6), 101);
        on.due("heels to the right", ice.aim(7), 111);
        on.due("a column that heels do not come to", ice.aim(8), 10111);
        on.due("none stops on ice", ice.aim(0), NONE);
        EstateSlopes far = Slopes.laid("r33;r00;r00;r00;r00;r00;");
        on.due("weight 20, and no less", far.aim(10), 2000);
        EstateSlopes deep = Slopes.laid("r00;".repeat(8));
        on.due("the last of eight rows", deep.aim(14), 1500);
        on.due("the last of eight rows, by heels", deep.aim(15), 1611);
        // 9 behind the road at most, 4 behind the first thaw, nothing behind the second.
        on.due("none comes there", Slopes.laid("r33;r22;r22;r00;").aim(6), NONE);
        // A road leaves 1 of 5 and of 4, so that heels ahead of it are of no use, but those in its row are.
        EstateSlopes last = Slopes.laid("r11;r11;r11;r11;r00;r11;r11;r33;");
        on.due("by heels in row 8", last.aim(14), 108);
        on.due("by heels in row 8 in column 1", last.aim(15), 10108);
        EstateSlopes wide = Slopes.laid("r000001;r000000;");
        on.due("the last column, by the one beside it", wide.aim(11), 40411);
        on.due("the last column's own slide", Slopes.laid("r111110;r111111;").aim(5), 50100);
    }

    private void aim() {
        on.says("AIM. NONE; BAD.");
        EstateSlopes s = Slopes.laid("r10;r00;");
        on.due("aim at ice", s.aim(0), NONE);
        on.due("aim -1", s.aim(-1), BAD);
        on.due("aim 4", s.aim(4), BAD);
        on.due("aim at the sea", s.aim(99), BAD);
        on.due("aim at the last cell", s.aim(3), 111);
        on.due("nothing slides", Slopes.counts(s), " 4 2 2 0 1 0 0 0 0 8");
    }

    private void gainOfSeveral() {
        on.says("GAIN of a SIDE: of SLIDES that by which it would have most CELLS, of several the first (as above):"
                + " which; how many.");
        EstateSlopes s = Slopes.laid("r00;r00;o0,0;");
        on.due("of several, those of column 0 alike: which", s.gain(1, 0), 300);
        on.due("of several, those of column 0 alike: how many", s.gain(1, 1), 2);
        on.due("its own cell is not had twice: which", s.gain(0, 0), 10300);
        on.due("its own cell is not had twice: how many", s.gain(0, 1), 3);
        EstateSlopes own = Slopes.laid("r11;r11;o0,2;o1,2;o2,2;o3,2;");
        EstateSlopes last = Slopes.laid("r33;r00;r00;r00;r00;r00;");
        on.due("weight 20 alone: which", last.gain(2, 0), 2000);
        on.due("weight 20 alone: how many", last.gain(2, 1), 6);
        // By heels in row 1 it would stop there, by those in row 2 it comes to cell 5.
        EstateSlopes later = Slopes.laid("r00;r11;r00;o0,1;o1,1;o2,1;o3,1;o4,1;");
        on.due("heels behind a row where they would stop it: which", later.gain(1, 0), 312);
        on.due("heels behind a row where they would stop it: how many", later.gain(1, 1), 6);
        on.due("all are its already: which", own.gain(2, 0), 100);
        on.due("all are its already: how many", own.gain(2, 1), 4);
        on.due("another one's cells become its: how many", own.gain(0, 1), 2);
        // The road leaves 7 of 17 and 8 of 18, the thaw 2 and 3, the snow below it 0 and 1.
        EstateSlopes heavy = Slopes.laid("r33;r22;r00;r00;r00;");
        on.due("the heavy ones alone: which", heavy.gain(3, 0), 1800);
        on.due("the heavy ones alone: how many", heavy.gain(3, 1), 4);
        EstateSlopes heels = Slopes.laid("r11;r11;o0,1;o1,1;o2,1;");
        on.due("by heels: which", heels.gain(1, 0), 111);
        on.due("by heels: how many", heels.gain(1, 1), 4);
    }

    private void gain() {
        on.says("GAIN: which (what = 0; as AIM), how many (1). BAD.");
        EstateSlopes s = Slopes.laid("r11;r11;");
        on.due("gain -1", s.gain(-1, 0), BAD);
        on.due("gain 4", s.gain(4, 0), BAD);
        on.due("gain what -1", s.gain(0, -1), BAD);
        on.due("gain what 2", s.gain(0, 2), BAD);
        on.due("gain 0", s.gain(0, 0), 100);
        on.due("gain 3", s.gain(3, 1), 2);
        on.due("nothing slides", Slopes.counts(s), " 4 2 2 0 4 0 0 0 0 8");
    }

    private void spoilOfSeveral() {
        on.says("SPOIL of a SIDE for another one: of SLIDES of the one that by which the other one would have fewest"
                + " CELLS, of several the first: which; how many.");
        EstateSlopes s = Slopes.laid("r00;r00;o1,2;o3,2;o0,1;");
        on.due("all are lost: which", s.spoil(1, 2, 0), 10300);
        on.due("all are lost: how many", s.spoil(1, 2, 1), 0);
        on.due("the other way round: which", s.spoil(2, 1, 0), 100);
        on.due("the other way round: how many", s.spoil(2, 1, 1), 0);
        on.due("one with nothing: which", s.spoil(1, 3, 0), 100);
        on.due("one with nothing: how many", s.spoil(1, 3, 1), 0);
        EstateSlopes part = Slopes.laid("r000;r000;o0,3;o2,3;o3,3;o5,3;");
        on.due("of several the first: which", part.spoil(0, 3, 0), 300);
        on.due("of several the first: how many", part.spoil(0, 3, 1), 2);
        EstateSlopes mine = Slopes.laid("r11;r11;o0,0;o2,0;o1,1;");
        on.due("its own cells do not count: which", mine.spoil(0, 1, 0), 10100);
        on.due("its own cells do not count: how many", mine.spoil(0, 1, 1), 0);
        EstateSlopes heels = Slopes.laid("r11;r11;o0,2;o3,2;");
        on.due("by heels: which", heels.spoil(0, 2, 0), 111);
        on.due("by heels: how many", heels.spoil(0, 2, 1), 0);
        EstateSlopes last = Slopes.laid("r33;r00;r00;r00;r00;r00;o10,1;");
        on.due("by weight 20 alone: which", last.spoil(0, 1, 0), 2000);
        on.due("by weight 20 alone: how many", last.spoil(0, 1, 1), 0);
        EstateSlopes later = Slopes.laid("r00;r11;r00;o5,2;");
        on.due("by heels behind a row where they would stop it: which", later.spoil(0, 2, 0), 312);
        EstateSlopes far = Slopes.laid("r33;r22;r22;o4,1;");
        on.due("what only a heavy one comes to: which", far.spoil(0, 1, 0), 1400);
        on.due("what none comes to: how many", Slopes.laid("r33;r22;r22;r00;o6,1;").spoil(0, 1, 1), 1);
    }

    private void spoil() {
        on.says("SPOIL: which (what = 0), how many (1). BAD (alike, too).");
        EstateSlopes s = Slopes.laid("r11;r11;o0,3;");
        int[][] wrong = {{0, 0, 0}, {3, 3, 1}, {-1, 0, 0}, {4, 0, 0}, {0, -1, 0}, {0, 4, 0}, {0, 3, -1}, {0, 3, 2}};
        for (int[] w : wrong) {
            on.due("spoil " + w[0] + " " + w[1] + " " + w[2], s.spoil(w[0], w[1], w[2]), BAD);
        }
        on.due("spoil 0 3", s.spoil(0, 3, 1), 0);
        on.due("spoil 3 0", s.spoil(3, 0, 0), 100);
        on.due("nothing slides", Slopes.counts(s), " 4 2 2 1 4 0 0 0 0 13");
    }

    private void cureByTheFirst() {
        on.says("CURE of a SLIDE for a CELL: of CELLS and what may lie on them (other than what does), such that,"
                + " so DUG, it would STOP in that CELL, the first (by the CELL, then what lies on it):"
                + " 10 times the CELL, and that;");
        EstateSlopes s = Slopes.laid("r00;r00;r00;");
        on.due("cell 0 is ahead of cell 2", s.cure(0, 3, 0, 4), 1);
        on.due("thaw is ahead of a road", s.cure(0, 3, 0, 0), 2);
        EstateSlopes t = Slopes.laid("r10;r00;r00;");
        on.due("the cell itself", t.cure(0, 2, 0, 2), 22);
        on.due("snow is ahead of all", t.cure(0, 1, 0, 0), 0);
        on.due("a cell of two figures", Slopes.laid("r111111;r000000;").cure(4, 2, 0, 10), 102);
        on.due("the last cell", Slopes.laid("r111111;".repeat(8)).cure(5, 1, 0, 47), NONE);
        on.due("a cell of its way, not the first of all", Slopes.laid("r00;r00;").cure(1, 7, 0, 3), 12);
        on.due("a road, the last of them", Slopes.laid("r00;r22;").cure(0, 11, 0, 2), 3);
        // Heels in the first row take it to column 1.
        on.due("a cell that heels lead to", s.cure(0, 4, 11, 5), 1);
        on.due("one on the side it leaves", s.cure(0, 4, 11, 2), NONE);
    }

    private void cureOfNothing() {
        on.says("none (it does as it is: none, too).");
        EstateSlopes s = Slopes.laid("r00;r00;r00;");
        on.due("it stops there as it is", s.cure(0, 3, 0, 2), NONE);
        on.due("it stops there as it is, by heels", s.cure(0, 3, 11, 0), NONE);
        on.due("a road stops it there as it is", Slopes.laid("r13;r33;").cure(0, 2, 0, 2), NONE);
        on.due("another column", s.cure(0, 3, 0, 1), NONE);
        on.due("too heavy", s.cure(0, 20, 0, 0), NONE);
        on.due("too light", s.cure(0, 1, 0, 4), NONE);
    }

    private void cure() {
        on.says("CURE. NONE; BAD.");
        EstateSlopes s = Slopes.laid("r00;r00;r00;");
        int[][] wrong = {{-1, 3, 0, 0}, {2, 3, 0, 0}, {0, 0, 0, 0}, {0, 21, 0, 0}, {0, 3, -1, 0}, {0, 3, 9, 0},
            {0, 3, 10, 0}, {0, 3, 19, 0}, {0, 3, 0, -1}, {0, 3, 0, 6}, {0, 3, 0, 99}};
        for (int[] w : wrong) {
            on.due("cure " + w[0] + " " + w[1] + " " + w[2] + " " + w[3], s.cure(w[0], w[1], w[2], w[3]), BAD);
        }
        on.due("cure", s.cure(0, 3, 0, 4), 1);
        on.due("no cure", s.cure(0, 1, 0, 5), NONE);
        on.due("nothing is dug", Slopes.things(s) + Slopes.counts(s), "000000 6 2 3 0 0 0 0 0 0 12");
    }

    private void piecesTogether() {
        on.says("PIECES of a SIDE: its CELLS, those beside one another in a row or a column together: how many.");
        on.due("in a row", Slopes.laid("r000;r000;o0,0;o1,0;").pieces(0), 1);
        on.due("in a column", Slopes.laid("r000;r000;o1,0;o4,0;").pieces(0), 1);
        on.due("by a corner", Slopes.laid("r000;r000;o0,0;o4,0;").pieces(0), 2);
        on.due("by the other corner", Slopes.laid("r000;r000;o1,0;o3,0;").pieces(0), 2);
        on.due("the end of a row and the start of the next", Slopes.laid("r000;r000;o2,0;o3,0;").pieces(0), 2);
        on.due("a gap in a row", Slopes.laid("r000;r000;o0,0;o2,0;").pieces(0), 2);
        on.due("another side's cell between", Slopes.laid("r000;r000;o0,0;o1,1;o2,0;").pieces(0), 2);
        on.due("around a corner", Slopes.laid("r000;r000;o0,0;o3,0;o4,0;").pieces(0), 1);
        on.due("up again at the end", Slopes.laid("r000;r000;o0,0;o2,0;o3,0;o4,0;o5,0;").pieces(0), 1);
        on.due("the pieces of each side apart", Slopes.laid("r00;r00;o0,1;o1,2;o2,2;o3,1;").pieces(2), 2);
        EstateSlopes chess = Slopes.laid("r000000;".repeat(8));
        for (int c = 0; c < 48; c++) {
            chess.give(c, (c / 6 + c % 6) % 2);
        }
        on.due("every second cell", chess.pieces(1), 24);
        for (int c = 0; c < 48; c++) {
            chess.give(c, 1);
        }
        on.due("all cells", chess.pieces(1), 1);
        on.due("a winding piece", winding().pieces(3), 1);
        String cross = "r000;r000;r000;o1,0;o3,0;o4,0;o5,0;o7,0;";
        on.due("a cross, to all four sides", Slopes.laid(cross).pieces(0), 1);
    }

    /** Rows 0, 2, 4 and 6 whole, joined by turns at the right and the left end. */
    private static EstateSlopes winding() {
        EstateSlopes s = Slopes.laid("r000000;".repeat(7));
        for (int c = 0; c < 42; c++) {
            boolean joint = c == 11 || c == 18 || c == 35;
            if (c / 6 % 2 == 0 || joint) {
                s.give(c, 3);
            }
        }
        return s;
    }

    private void pieces() {
        on.says("PIECES. BAD.");
        EstateSlopes s = Slopes.laid("r00;r00;o0,3;");
        on.due("no cell, no piece", s.pieces(0), 0);
        on.due("one cell", s.pieces(3), 1);
        on.due("pieces -1", s.pieces(-1), BAD);
        on.due("pieces 4, nobody's", s.pieces(4), BAD);
        on.due("asked again", s.pieces(3), 1);
    }

    private void bridgeByTheFewest() {
        on.says("BRIDGE of a SIDE between two CELLS of its: the fewest CELLS not its on a way from one to the other"
                + " by CELLS beside one another.");
        EstateSlopes s = Slopes.laid("r0000;r0000;r0000;o0,2;o11,2;o6,2;o3,1;o1,1;");
        on.due("a cell and itself", s.bridge(2, 6, 6), 0);
        on.due("over two cells, not by corners", s.bridge(2, 0, 6), 2);
        on.due("over three cells, one of its between", s.bridge(2, 0, 11), 3);
        on.due("and back", s.bridge(2, 11, 0), 3);
        s.give(5, 2);
        on.due("one more of its", s.bridge(2, 0, 11), 2);
        s.give(7, 2);
        on.due("beside one another", s.bridge(2, 6, 7), 0);
        on.due("in one piece", s.bridge(2, 5, 11), 0);
        on.due("over nobody's cell", s.bridge(1, 1, 3), 1);
        s.give(2, 0);
        on.due("another side's cell is as nobody's", s.bridge(1, 1, 3), 1);
        EstateSlopes most = Slopes.laid("r000000;".repeat(8) + "o0,0;o47,0;");
        on.due("from corner to corner", most.bridge(0, 0, 47), 11);
        EstateSlopes end = Slopes.laid("r000;r000;o2,0;o3,0;");
        on.due("the end of a row is not beside the next one's start", end.bridge(0, 2, 3), 2);
        on.due("a long way of its own", winding().bridge(3, 0, 41), 0);
        EstateSlopes cut = winding();
        cut.give(18, 4);
        on.due("a long way, one cell of it lost", cut.bridge(3, 0, 41), 1);
        EstateSlopes beside = Slopes.laid("r000;r000;o0,0;o3,0;o5,0;");
        on.due("from the cell below, over one", beside.bridge(0, 0, 5), 1);
        // Straight on there are three cells between, round by row 2 two.
        EstateSlopes round = Slopes.laid("r00000;r00000;r00000;o0,1;o4,1;o5,1;o11,1;o12,1;o13,1;o9,1;");
        on.due("round is less than straight on", round.bridge(1, 0, 4), 2);
    }

    private void bridge() {
        on.says("BRIDGE. BAD; NO: one of them is not its.");
        EstateSlopes s = Slopes.laid("r00;r00;o0,0;o3,0;o1,1;");
        on.due("bridge", s.bridge(0, 0, 3), 1);
        on.due("the first is not its", s.bridge(0, 1, 3), NO);
        on.due("the second is not its", s.bridge(0, 0, 1), NO);
        on.due("the second is nobody's", s.bridge(0, 0, 2), NO);
        on.due("neither is its", s.bridge(3, 0, 3), NO);
        on.due("nobody's cell and itself", s.bridge(0, 2, 2), NO);
        int[][] wrong = {{-1, 0, 3}, {4, 0, 3}, {4, 2, 2}, {0, -1, 3}, {0, 4, 3}, {0, 0, -1}, {0, 0, 4}, {0, 0, 99},
            {0, 1, 4}, {0, 4, 1}};
        for (int[] w : wrong) {
            on.due("bridge " + w[0] + " " + w[1] + " " + w[2], s.bridge(w[0], w[1], w[2]), BAD);
        }
        on.due("nothing is given", Slopes.owners(s), "01.0");
    }
}
