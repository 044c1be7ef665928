/** Terms 2, and promises 6 to 10: where a slide goes, how fast, where it stops, whose cells are by it. */
final class SlideSentences {
    private static final int BAD = EstateSlopes.BAD, NONE = EstateSlopes.NONE;
    private static final int SEA = 99;

    private final Sentences on;

    SlideSentences(Sentences on) {
        this.on = on;
    }

    void all() {
        columns();
        weights();
        heelsInEachRow();
        heelsInNoSuchRow();
        speeds();
        stopsAtNothing();
        heelsAndSpeed();
        heelsAtTheSides();
        behindTheLastRow();
        cellsOfASlide();
        cell();
        stops();
        track();
        holds();
        slide();
    }

    private void columns() {
        on.says("A SLIDE begins in a CELL of the first row (its COLUMN),");
        EstateSlopes two = Slopes.laid("r00;r00;");
        on.due("column -1 of two", two.stops(-1, 1, 0), BAD);
        on.due("column 0 of two", two.stops(0, 1, 0), 0);
        on.due("column 1 of two", two.stops(1, 1, 0), 1);
        on.due("column 2 of two", two.stops(2, 1, 0), BAD);
        EstateSlopes six = Slopes.laid("r000000;r000000;");
        on.due("column 5 of six", six.stops(5, 1, 0), 5);
        on.due("column 6 of six", six.stops(6, 1, 0), BAD);
    }

    private void weights() {
        on.says("with a WEIGHT of 1 to 20, which is its SPEED,");
        EstateSlopes s = Slopes.laid("r01;r00;");
        on.due("weight 0", s.stops(0, 0, 0), BAD);
        on.due("weight -1", s.stops(0, -1, 0), BAD);
        on.due("weight 1", s.track(1, 1, 0, 0, 1), 2);
        on.due("weight 20", s.track(0, 20, 0, 0, 1), 18);
        on.due("weight 21", s.stops(0, 21, 0), BAD);
    }

    private void heelsInEachRow() {
        on.says("and HEELS: 0 none, or 1 to 8: dug in in that row (1 the first), to the left,"
                + " or 11 to 18: in row 1 to 8, to the right");
        EstateSlopes s = Slopes.laid("r111111;".repeat(8));
        for (int row = 1; row <= 8; row++) {
            heelsInRow(s, row, row, 1);
            heelsInRow(s, row, row + 10, 3);
        }
        on.due("speed behind all without heels", s.track(2, 5, 0, 7, 1), 13);
        on.due("column behind all without heels", s.track(2, 5, 0, 7, 0), 44);
        int[] wrong = {-1, 9, 10, 19, -11, 20, 100};
        for (int h : wrong) {
            on.due("heels " + h, s.stops(2, 5, h), BAD);
        }
    }

    /** On a slope of ice, six columns wide, from column 2, with weight 5. */
    private void heelsInRow(EstateSlopes s, int row, int h, int column) {
        int at = row - 1;
        on.due("heels " + h + ": cell in their row", s.track(2, 5, h, at, 0), 6 * at + 2);
        on.due("heels " + h + ": speed behind their row", s.track(2, 5, h, at, 1), 5 + row - 1);
        if (at > 0) {
            on.due("heels " + h + ": speed ahead of it", s.track(2, 5, h, at - 1, 1), 5 + at);
            on.due("heels " + h + ": cell ahead of it", s.track(2, 5, h, at - 1, 0), 6 * at - 4);
        }
        if (row < 8) {
            on.due("heels " + h + ": cell behind it", s.track(2, 5, h, row, 0), 6 * row + column);
            on.due("heels " + h + ": the last cell", s.track(2, 5, h, 7, 0), 42 + column);
        }
        on.due("heels " + h + ": the last speed", s.track(2, 5, h, 7, 1), 12);
    }

    private void heelsInNoSuchRow() {
        on.says("(no such row: none).");
        EstateSlopes s = Slopes.laid("r11;r11;");
        for (int row = 3; row <= 8; row++) {
            for (int h = row; h <= row + 10; h += 10) {
                on.due("heels " + h + " of two rows: end", s.stops(0, 5, h), SEA);
                on.due("heels " + h + " of two rows: last cell", s.track(0, 5, h, 1, 0), 2);
                on.due("heels " + h + " of two rows: last speed", s.track(0, 5, h, 1, 1), 7);
            }
        }
        on.due("heels 2 of two rows: last speed", s.track(0, 5, 2, 1, 1), 6);
        on.due("heels 12 of two rows: last speed", s.track(0, 5, 12, 1, 1), 6);
    }

    private void speeds() {
        on.says("In each CELL, that of the first row, too, its SPEED is less by 2 on SNOW; 1 more on ICE (20 at most);"
                + " less by 5 on THAW; less by 2, then half of that, cut, on a ROAD; 0 at least.");
        int[][] behind = {
            {0, 0, 1, 2, 3, 4, 5, 6, 7, 8, 9, 10, 11, 12, 13, 14, 15, 16, 17, 18},
            {2, 3, 4, 5, 6, 7, 8, 9, 10, 11, 12, 13, 14, 15, 16, 17, 18, 19, 20, 20},
            {0, 0, 0, 0, 0, 1, 2, 3, 4, 5, 6, 7, 8, 9, 10, 11, 12, 13, 14, 15},
            {0, 0, 0, 1, 1, 2, 2, 3, 3, 4, 4, 5, 5, 6, 6, 7, 7, 8, 8, 9}};
        EstateSlopes s = Slopes.laid("r0123;r1111;");
        for (int k = 0; k < 4; k++) {
            for (int w = 1; w <= 20; w++) {
                on.due("speed behind " + k + " in the first row by " + w, s.track(k, w, 0, 0, 1), behind[k][w - 1]);
            }
        }
        EstateSlopes below = Slopes.laid("r1111;r0123;");
        for (int k = 0; k < 4; k++) {
            for (int w = 1; w <= 19; w++) {
                on.due("speed behind " + k + " in the second row by " + w, below.track(k, w, 0, 1, 1), behind[k][w]);
            }
        }
        EstateSlopes ice = Slopes.laid("r11;".repeat(8));
        on.due("20 stays 20 on ice, row by row", ice.track(0, 15, 0, 7, 1), 20);
        on.due("20 at the first of them", ice.track(0, 15, 0, 4, 1), 20);
        on.due("19 ahead of it", ice.track(0, 15, 0, 3, 1), 19);
    }

    private void stopsAtNothing() {
        on.says("Is it 0 then, it STOPS there.");
        EstateSlopes s = Slopes.laid("r0023;r1000;r0000;");
        on.due("1 on snow", s.stops(0, 1, 0), 0);
        on.due("2 on snow", s.stops(0, 2, 0), 0);
        on.due("3 on snow, then ice, then snow", s.stops(0, 3, 0), 8);
        on.due("3 on snow, then snow", s.stops(1, 3, 0), 5);
        on.due("5 on thaw", s.stops(2, 5, 0), 2);
        on.due("6 on thaw", s.stops(2, 6, 0), 6);
        on.due("3 on a road", s.stops(3, 3, 0), 3);
        on.due("4 on a road", s.stops(3, 4, 0), 7);
        on.due("ice below does not make it go on", s.track(0, 2, 0, 1, 0), NONE);
        on.due("heels where it stops: end", s.stops(0, 2, 11), 0);
        on.due("heels where it stops: speed", s.track(0, 2, 11, 0, 1), 0);
        on.due("heels where it stops: next row", s.track(0, 2, 11, 1, 0), NONE);
    }

    private void heelsAndSpeed() {
        on.says("Else, if HEELS are dug in in that row, its SPEED is 1 less (is it 0 then, it STOPS there),");
        EstateSlopes s = Slopes.laid("r001;r000;r000;");
        on.due("1 behind snow, then heels: end", s.stops(0, 3, 11), 0);
        on.due("1 behind snow, then heels: speed", s.track(0, 3, 11, 0, 1), 0);
        on.due("1 behind snow, then heels: next row", s.track(0, 3, 11, 1, 0), NONE);
        on.due("1 behind snow, then heels to the left", s.stops(1, 3, 1), 1);
        on.due("2 behind snow, then heels: speed", s.track(0, 4, 11, 0, 1), 1);
        on.due("2 behind snow, then heels: end", s.stops(0, 4, 11), 4);
        on.due("1 behind the second row, then heels", s.stops(0, 5, 12), 3);
        on.due("heels come behind the 20 at most", s.track(2, 20, 1, 0, 1), 19);
        on.due("heels in a row it does not come to", s.stops(0, 3, 13), 3);
    }

    private void heelsAtTheSides() {
        on.says("and it goes on one COLUMN to that side (if there is none, in the same).");
        EstateSlopes s = Slopes.laid("r111;r111;r111;");
        int[][] next = {{0, 1, 3}, {0, 11, 4}, {1, 1, 3}, {1, 11, 5}, {2, 1, 4}, {2, 11, 5}};
        for (int[] n : next) {
            on.due("from column " + n[0] + " by heels " + n[1], s.track(n[0], 5, n[1], 1, 0), n[2]);
            on.due("and on, from column " + n[0] + " by heels " + n[1], s.track(n[0], 5, n[1], 2, 0), n[2] + 3);
        }
        on.due("it is slower where there is no column, too: left", s.track(0, 5, 1, 0, 1), 5);
        on.due("it is slower where there is no column, too: right", s.track(2, 5, 11, 0, 1), 5);
        on.due("to the right end by the second row", s.track(1, 5, 12, 2, 0), 8);
        on.due("to the left end by the second row", s.track(1, 5, 2, 2, 0), 6);
    }

    private void behindTheLastRow() {
        on.says("It goes on in the next row; behind the last one it is in the SEA.");
        EstateSlopes s = Slopes.laid("r00;r00;");
        on.due("0 in the last row", s.stops(0, 4, 0), 2);
        on.due("1 behind the last row", s.stops(0, 5, 0), SEA);
        on.due("1 behind the last row, then heels", s.stops(0, 5, 2), 2);
        on.due("2 behind the last row, then heels", s.stops(0, 6, 2), SEA);
        on.due("2 behind the last row, then heels to the right", s.stops(1, 6, 12), SEA);
        EstateSlopes deep = Slopes.laid("r00;".repeat(8));
        on.due("seven rows of eight", deep.stops(0, 14, 0), 12);
        on.due("eight rows of eight", deep.stops(1, 16, 0), 15);
        on.due("behind eight rows", deep.stops(1, 17, 0), SEA);
    }

    private void cellsOfASlide() {
        on.says("By a SLIDE of a SIDE all CELLS in which it was are that SIDE's.");
        EstateSlopes s = Slopes.laid("r000;r000;r000;o3,0;o8,0;");
        s.slide(1, 0, 4, 0);
        on.due("to where it stops, that too, none behind it", Slopes.owners(s), "1..1....0");
        s.slide(2, 0, 1, 0);
        on.due("one cell alone", Slopes.owners(s), "2..1....0");
        s.slide(3, 1, 20, 11);
        on.due("to the sea, with heels", Slopes.owners(s), "23.1.3..3");
        s.slide(0, 1, 3, 11);
        on.due("stopped by heels", Slopes.owners(s), "20.1.3..3");
        s.slide(0, 2, 20, 0);
        on.due("to the sea", Slopes.owners(s), "2001.0..0");
        s.slide(0, 2, 20, 0);
        on.due("its own cells again", Slopes.owners(s), "2001.0..0");
        on.due("nothing is dug by it", Slopes.things(s), "000000000");
    }

    private void cell() {
        on.says("Of a CELL: what lies on it (what = 0), whose it is (1; NONE). BAD.");
        EstateSlopes s = Slopes.laid("r012;r301;o0,0;o5,3;");
        on.due("cell 0 0", s.cell(0, 0), 0);
        on.due("cell 5 0", s.cell(5, 0), 1);
        on.due("cell 3 0", s.cell(3, 0), 3);
        on.due("cell 0 1", s.cell(0, 1), 0);
        on.due("cell 5 1", s.cell(5, 1), 3);
        on.due("cell 1 1", s.cell(1, 1), NONE);
        int[][] wrong = {{-1, 0}, {6, 0}, {6, 1}, {0, -1}, {0, 2}, {1, 2}, {99, 0}};
        for (int[] w : wrong) {
            on.due("cell " + w[0] + " " + w[1], s.cell(w[0], w[1]), BAD);
        }
    }

    private void stops() {
        on.says("Of a SLIDE (not given): in which CELL it STOPS (99: in none, in the SEA). BAD.");
        EstateSlopes s = Slopes.laid("r00;r00;");
        on.due("stops in cell 0", s.stops(0, 1, 0), 0);
        on.due("stops in the last cell", s.stops(1, 4, 0), 3);
        on.due("stops in the sea", s.stops(1, 20, 0), SEA);
        on.due("no cell is given", s.count(3), 0);
        on.due("no slide so far", s.count(5), 0);
        on.due("nothing to be undone", s.count(7), 0);
        int[][] wrong = {{-1, 1, 0}, {2, 1, 0}, {0, 0, 0}, {0, 21, 0}, {0, 1, -1}, {0, 1, 9}, {0, 1, 10}, {0, 1, 19}};
        for (int[] w : wrong) {
            on.due("stops " + w[0] + " " + w[1] + " " + w[2], s.stops(w[0], w[1], w[2]), BAD);
        }
    }

    private void track() {
        on.says("Of a SLIDE (not given): CELL in row k (what = 0), its SPEED behind that CELL, HEELS too (1)."
                + " NONE: it does not come there; BAD.");
        EstateSlopes s = Slopes.laid("r00;r00;r00;");
        on.due("cell in the first row", s.track(1, 6, 11, 0, 0), 1);
        on.due("speed behind it, heels too", s.track(1, 6, 11, 0, 1), 3);
        on.due("speed behind it, heels elsewhere", s.track(1, 6, 12, 0, 1), 4);
        on.due("cell in which it stops", s.track(0, 5, 0, 2, 0), 4);
        on.due("speed where it stops", s.track(0, 5, 0, 2, 1), 0);
        on.due("behind where it stops: cell", s.track(0, 4, 0, 2, 0), NONE);
        on.due("behind where it stops: speed", s.track(0, 4, 0, 2, 1), NONE);
        s.track(0, 20, 0, 2, 0);
        on.due("two rows behind where it stops: cell", s.track(0, 1, 0, 2, 0), NONE);
        on.due("two rows behind where it stops: speed", s.track(0, 1, 0, 2, 1), NONE);
        on.due("the last row of one to the sea", s.track(0, 20, 0, 2, 1), 14);
        on.due("no cell is given", s.count(3) + s.count(5) + s.count(7), 0);
        int[][] wrong = {{-1, 5, 0, 0, 0}, {2, 5, 0, 0, 0}, {0, 0, 0, 0, 0}, {0, 21, 0, 0, 0}, {0, 5, -1, 0, 0},
            {0, 5, 9, 0, 0}, {0, 5, 10, 0, 0}, {0, 5, 19, 0, 0}, {0, 5, 0, -1, 0}, {0, 5, 0, 3, 0}, {0, 5, 0, 0, -1},
            {0, 5, 0, 0, 2}, {0, 1, 0, 2, 2}, {0, 1, 0, 3, 1}, {0, 1, 10, 2, 0}};
        for (int[] w : wrong) {
            on.due("track " + w[0] + " " + w[1] + " " + w[2] + " " + w[3] + " " + w[4],
                    s.track(w[0], w[1], w[2], w[3], w[4]), BAD);
        }
    }

    private void holds() {
        on.says("How many CELLS are a SIDE's. BAD.");
        EstateSlopes s = Slopes.laid("r11;r11;o0,0;o1,3;o3,3;");
        int[] many = {1, 0, 0, 2};
        for (int f = 0; f < 4; f++) {
            on.due("holds " + f, s.holds(f), many[f]);
        }
        on.due("holds -1", s.holds(-1), BAD);
        on.due("holds 4, nobody's", s.holds(4), BAD);
        s.slide(3, 0, 1, 0);
        on.due("holds all", s.holds(3), 4);
        on.due("holds none", s.holds(0), 0);
    }

    private void slide() {
        on.says("A SLIDE: in which CELL it STOPS (99: in none, in the SEA). BAD.");
        EstateSlopes s = Slopes.laid("r00;r00;");
        int[][] wrong = {{-1, 0, 5, 0}, {4, 0, 5, 0}, {0, -1, 5, 0}, {0, 2, 5, 0}, {0, 0, 0, 0}, {0, 0, 21, 0},
            {0, 0, 5, -1}, {0, 0, 5, 9}, {0, 0, 5, 10}, {0, 0, 5, 19}};
        for (int[] w : wrong) {
            on.due("slide " + w[0] + " " + w[1] + " " + w[2] + " " + w[3], s.slide(w[0], w[1], w[2], w[3]), BAD);
        }
        on.due("nothing is given by these", Slopes.counts(s), " 4 2 2 0 0 0 0 0 0 8");
        on.due("side 0 stops in cell 0", s.slide(0, 0, 1, 0), 0);
        on.due("side 3 stops in the last cell", s.slide(3, 1, 4, 0), 3);
        on.due("side 1 goes to the sea", s.slide(1, 0, 20, 18), SEA);
        on.due("three slides", Slopes.counts(s), " 4 2 2 4 0 3 0 3 0 8");
        on.due("a slide by what was dug", digAndSlide(s), 0);
    }

    private static int digAndSlide(EstateSlopes s) {
        s.dig(0, 2);
        return s.slide(0, 0, 5, 0);
    }
}
