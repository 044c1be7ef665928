/** Terms 4, and promises 25 and 26: how likely one stops when rows freeze, winters by draws. */
final class ChanceSentences {
    private static final int BAD = EstateSlopes.BAD;
    private static final int SEA = 99;
    private static final String SNOW = "r000000;".repeat(8);

    private final Sentences on;

    ChanceSentences(Sentences on) {
        this.on = on;
    }

    void all() {
        tenths();
        lowestTerms();
        likely();
        thingsOfAWinter();
        drawsOfAWinter();
        answersOfAWinter();
        winter();
    }

    private void odds(EstateSlopes s, int[] asked, int above, int below) {
        String call = asked[0] + " " + asked[1] + " " + asked[2] + " by " + asked[3];
        on.due("likely above " + call, s.likely(asked[0], asked[1], asked[2], asked[3], 0), above);
        on.due("likely below " + call, s.likely(asked[0], asked[1], asked[2], asked[3], 1), below);
    }

    private static int[] asked(int x, int w, int c, int t) {
        return new int[] {x, w, c, t};
    }

    private void tenths() {
        on.says("LIKELY for a COLUMN, a WEIGHT and a CELL (or 99): in each row what the SLIDE (without HEELS) comes to"
                + " is ICE by t (0 to 10) of ten, for itself, else what it is:");
        EstateSlopes s = Slopes.laid("r00;r00;");
        odds(s, asked(0, 2, 0, 1), 9, 10);
        odds(s, asked(0, 2, 0, 9), 1, 10);
        // Ice, then snow: 3, then 1. Ice twice: the sea, too.
        odds(s, asked(0, 2, 2, 1), 0, 1);
        odds(s, asked(0, 2, SEA, 1), 1, 10);
        // Each row for itself: snow and snow stops 3 in the second row, all else goes to the sea.
        odds(s, asked(0, 3, 2, 1), 81, 100);
        odds(s, asked(0, 3, SEA, 1), 19, 100);
        odds(s, asked(1, 1, 3, 3), 21, 100);
        odds(s, asked(1, 1, SEA, 3), 9, 100);
        on.due("what is ice is so by any t", Slopes.laid("r11;r00;").likely(0, 1, 2, 3, 0), 7);
        on.due("thaw is what it is else", Slopes.laid("r22;r00;").likely(0, 5, 0, 3, 0), 7);
        on.due("a road is what it is else", Slopes.laid("r33;r00;").likely(0, 3, 0, 3, 0), 7);
        on.due("20 at most on ice", Slopes.laid("r11;r11;r33;r33;r33;").likely(0, 20, 8, 0, 0), 1);
        odds(s, asked(0, 2, 1, 5), 0, 1);
        odds(s, asked(1, 2, 0, 5), 0, 1);
    }

    private void lowestTerms() {
        on.says("how likely it STOPS there, in lowest terms.");
        EstateSlopes s = Slopes.laid("r00;r00;");
        odds(s, asked(0, 2, 0, 5), 1, 2);
        odds(s, asked(0, 2, 0, 4), 3, 5);
        odds(s, asked(0, 2, 0, 0), 1, 1);
        odds(s, asked(0, 2, 0, 10), 0, 1);
        odds(s, asked(0, 2, SEA, 0), 0, 1);
        odds(s, asked(0, 2, SEA, 10), 1, 1);
        odds(s, asked(0, 3, 2, 5), 1, 4);
        odds(s, asked(0, 3, SEA, 5), 3, 4);
        odds(s, asked(0, 20, SEA, 5), 1, 1);
        odds(s, asked(0, 20, 0, 5), 0, 1);
        EstateSlopes deep = Slopes.laid(SNOW);
        // Snow in all eight rows: 9 of ten, eight times; the 15 stops in the last one then.
        odds(deep, asked(5, 15, 47, 1), 43046721, 100000000);
        odds(deep, asked(5, 15, SEA, 1), 56953279, 100000000);
        odds(deep, asked(5, 16, 47, 9), 1, 100000000);
        odds(deep, asked(5, 16, 47, 5), 1, 256);
        odds(deep, asked(5, 16, SEA, 5), 255, 256);
    }

    private void likely() {
        on.says("LIKELY: above (part = 0), below (1). BAD.");
        EstateSlopes s = Slopes.laid("r00;r00;");
        odds(s, asked(0, 2, 0, 3), 7, 10);
        int[][] wrong = {{-1, 2, 0, 3, 0}, {2, 2, 0, 3, 0}, {0, 0, 0, 3, 0}, {0, 21, 0, 3, 0}, {0, 2, -1, 3, 0},
            {0, 2, 4, 3, 0}, {0, 2, 98, 3, 0}, {0, 2, 100, 3, 0}, {0, 2, 0, -1, 0}, {0, 2, 0, 11, 0}, {0, 2, 0, 3, -1},
            {0, 2, 0, 3, 2}};
        for (int[] w : wrong) {
            on.due("likely " + w[0] + " " + w[1] + " " + w[2] + " " + w[3] + " " + w[4],
                    s.likely(w[0], w[1], w[2], w[3], w[4]), BAD);
        }
        on.due("nothing freezes", Slopes.things(s) + Slopes.counts(s), "0000 4 2 2 0 0 0 0 0 0 8");
    }

    private void winters(EstateSlopes s, int z, int n, String want) {
        String got = s.winter(z, n, 0) + " " + s.winter(z, n, 1) + " " + s.winter(z, n, 2);
        on.due("winter " + z + " of " + n, got, want);
    }

    private void thingsOfAWinter() {
        on.says("A WINTER by z (0 to 9999) of n (1 to 60) things (nothing changes by it):");
        EstateSlopes s = Slopes.laid(SNOW);
        winters(s, 0, 1, "0 0 0");
        winters(s, 0, 60, "45 40 19");
        winters(s, 0, 59, "45 39 19");
        winters(s, 9999, 1, "0 0 0");
        winters(s, 9999, 2, "2 0 0");
        winters(s, 9999, 60, "48 34 23");
        winters(s, 9990, 59, "40 35 14");
        winters(s, 9990, 60, "48 35 15");
        on.due("z -1", s.winter(-1, 1, 0), BAD);
        on.due("z 10000", s.winter(10000, 1, 0), BAD);
        on.due("n 0", s.winter(0, 0, 0), BAD);
        on.due("n -1", s.winter(0, -1, 0), BAD);
        on.due("n 61", s.winter(0, 61, 0), BAD);
        on.due("nothing changes", Slopes.counts(s), " 48 6 8 0 0 0 0 0 0 64");
        on.due("nothing is dug", Slopes.things(s), "0".repeat(48));
    }

    private void drawsOfAWinter() {
        on.says("with CELL DRAW modulo as many: if (DRAW by 64, cut) modulo 4 is 0, it is DUG,"
                + " (DRAW by 256, cut) modulo 4 lies on it;");
        // By z 9999 the first DRAW is 25651: cell 19 of 24 is dug, where ice lay, snow lies on it.
        winters(new EstateSlopes(), 9999, 1, "5 4 0");
        // By z 0 the second DRAW is 20743: cell 7 of 48, cell 3 of 4 is dug, ice lies on it.
        winters(Slopes.laid("r00;r00;"), 0, 2, "0 1 0");
        winters(Slopes.laid("r01;r11;"), 0, 2, "0 3 0");
        on.says("if 1, there is a FROST in its row;");
        // By z 2 the first DRAW is 29766: cell 2 of 4, in row 1.
        winters(Slopes.laid("r00;r00;"), 2, 1, "0 2 0");
        winters(Slopes.laid("r00;r20;"), 2, 1, "0 1 0");
        winters(Slopes.laid("r00;r13;"), 2, 1, "0 1 0");
        on.says("else SIDE (DRAW by 16, cut) modulo 4 SLIDES in its COLUMN, with WEIGHT (DRAW by 256, cut) modulo 20"
                + " and 1, without HEELS,");
        // By z 1 the first DRAW is 11401: side 0 in column 1 of 2 or of 4, with weight 5.
        winters(Slopes.laid("r00;r00;"), 1, 1, "2 0 1");
        winters(Slopes.laid("r00;r00;r00;"), 1, 1, "3 0 0");
        winters(Slopes.laid("r03;r03;"), 1, 1, "2 0 0");
        winters(Slopes.laid("r02;r00;"), 1, 1, "1 0 0");
        winters(Slopes.laid("r02;r00;o1,1;"), 1, 1, "1 0 0");
        on.says("DRAW being ((x times x) modulo 65521) by 2, cut, x 7919 z, 6151 (which of these, 0 first)"
                + " and 1 together:");
        // x goes to 79544991 by z 9999 of 60 things, its square far beyond an int.
        winters(new EstateSlopes(), 9999, 60, "24 14 14");
        winters(new EstateSlopes(), 9998, 60, "24 17 18");
        winters(new EstateSlopes(), 9998, 59, "24 16 18");
        winters(new EstateSlopes(), 2, 3, "13 7 2");
    }

    private void answersOfAWinter() {
        on.says("how many CELLS are a SIDE's then; how many CELLS are ICE; how many came to the SEA in it.");
        EstateSlopes s = Slopes.laid("r11;r11;o0,3;");
        winters(s, 0, 1, "1 3 0");
        winters(s, 1, 1, "3 4 1");
        on.due("what it gave is not given", Slopes.owners(s), "3...");
        s.slide(2, 0, 1, 0);
        winters(s, 1, 1, "4 4 1");
        on.due("slides so far are not those of a winter", s.count(5), 1);
    }

    private void winter() {
        on.says("A WINTER: CELLS (what = 0), ICE (1), SEA (2). BAD.");
        EstateSlopes s = Slopes.laid("r11;r11;o0,3;");
        on.due("what -1", s.winter(0, 1, -1), BAD);
        on.due("what 3", s.winter(0, 1, 3), BAD);
        on.due("what 0", s.winter(1, 1, 0), 3);
        on.due("what 1", s.winter(1, 1, 1), 4);
        on.due("what 2", s.winter(1, 1, 2), 1);
        s.keep();
        s.dig(0, 2);
        s.winter(77, 60, 0);
        on.due("no act by it", Slopes.counts(s), " 4 2 2 1 3 0 0 1 1 13");
        on.due("undo behind it", s.undo(), 0);
        on.due("what lies then", Slopes.things(s), "1111");
    }
}
