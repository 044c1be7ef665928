/** Terms 4, and promises 21 to 24: what was seen, what may lie by it, how heavy one was. */
final class SeenSentences {
    private static final int BAD = EstateSlopes.BAD, FULL = EstateSlopes.FULL, NONE = EstateSlopes.NONE;
    private static final int SEA = 99;

    private final Sentences on;

    SeenSentences(Sentences on) {
        this.on = on;
    }

    void all() {
        sixAtMost();
        bySlopeAsItIs();
        whatMayLie();
        weights();
        seen();
        forget();
        lies();
        heavy();
    }

    private void sixAtMost() {
        on.says("SEEN (6 at most) is that a SLIDE without HEELS in a COLUMN, of a WEIGHT, STOPS in a CELL"
                + " (or 99: in none, in the SEA),");
        EstateSlopes s = Slopes.laid("r00;r00;");
        for (int i = 1; i <= 6; i++) {
            on.due("seen " + i, s.seen(0, 1, 0), i);
        }
        on.due("seen a seventh", s.seen(0, 1, 0), FULL);
        on.due("six are seen", s.count(6), 6);
        s.forget();
        s.seen(0, 5, SEA);
        on.due("to the sea by 5: cell 0", s.lies(0), 3);
        on.due("to the sea by 5: cell 2", s.lies(2), 3);
        on.due("another column", s.lies(1), 15);
        s.seen(1, 20, 3);
        on.due("to the sea by 20 as it is, what is seen can't be", s.lies(1), 0);
        EstateSlopes six = Slopes.laid("r00;r00;");
        for (int i = 1; i <= 5; i++) {
            six.seen(0, 20, SEA);
        }
        six.seen(0, 1, 2);
        on.due("the sixth counts, too", six.lies(0), 2);
    }

    private void bySlopeAsItIs() {
        on.says("by the SLOPE as it is when that is asked (not when it was SEEN).");
        EstateSlopes s = Slopes.laid("r00;r00;");
        s.seen(0, 3, 2);
        on.due("as it is: cell 0", s.lies(0), 1);
        on.due("as it is: cell 2", s.lies(2), 13);
        s.dig(0, 1);
        on.due("behind ice in cell 0: cell 2", s.lies(2), 4);
        s.undo();
        on.due("undone: cell 2", s.lies(2), 13);
        s.keep();
        s.dig(0, 2);
        on.due("behind thaw in cell 0: cell 2", s.lies(2), 0);
        s.back();
        on.due("as kept: cell 2", s.lies(2), 13);
        s.frost(0);
        on.due("behind a frost: cell 2", s.lies(2), 4);
        on.due("seen all the while", s.count(6), 1);
    }

    private void whatMayLie() {
        on.says("LAY of a CELL: what may lie on it (bits of 0 to 3), in place of what does,"
                + " by which all that is SEEN would be so.");
        EstateSlopes s = Slopes.laid("r02;r31;r00;");
        on.due("nothing is seen: all bits", s.lies(1), 15);
        s.seen(1, 6, 5);
        on.due("what lies there is one of them", s.lies(1), 4);
        on.due("what lies below", s.lies(3), 2);
        on.due("where it stops", s.lies(5), 13);
        on.due("a cell it does not come to", s.lies(0), 15);
        s.dig(1, 0);
        on.due("what does lie there need not be one of them", s.lies(1), 4);
        s.seen(1, 10, SEA);
        on.due("both that are seen", s.lies(1), 4);
        s.seen(1, 7, 5);
        on.due("all three that are seen", s.lies(1), 0);
        s.forget();
        s.seen(0, 1, 1);
        on.due("a cell of another column", s.lies(0), 0);
    }

    private void weights() {
        on.says("HEAVY for a COLUMN and a CELL (or 99): WEIGHTS (1 to 20) with which a SLIDE there, without HEELS,"
                + " STOPS in it: how many; the least; none.");
        EstateSlopes ice = Slopes.laid("r11;r11;");
        on.due("all weights: how many", ice.heavy(0, SEA, 0), 20);
        on.due("all weights: the least", ice.heavy(0, SEA, 1), 1);
        on.due("no weight: how many", ice.heavy(0, 0, 0), 0);
        on.due("no weight: the least", ice.heavy(0, 0, 1), NONE);
        EstateSlopes far = Slopes.laid("r33;r22;r22;");
        on.due("weights to 20: how many", far.heavy(1, 5, 0), 7);
        on.due("weights to 20: the least", far.heavy(1, 5, 1), 14);
        on.due("none to the sea: how many", far.heavy(1, SEA, 0), 0);
        on.due("none to the sea: the least", far.heavy(1, SEA, 1), NONE);
        on.due("another column: the least", far.heavy(1, 4, 1), NONE);
        EstateSlopes last = Slopes.laid("r33;r00;r00;r00;r00;r00;");
        on.due("weight 20 alone: how many", last.heavy(0, 10, 0), 1);
        on.due("weight 20 alone: the least", last.heavy(0, 10, 1), 20);
    }

    private void seen() {
        on.says("SEEN: how many. BAD; FULL.");
        EstateSlopes s = Slopes.laid("r00;r00;");
        int[][] wrong = {{-1, 1, 0}, {2, 1, 0}, {0, 0, 0}, {0, 21, 0}, {0, 1, -1}, {0, 1, 4}, {0, 1, 98}, {0, 1, 100}};
        for (int[] w : wrong) {
            on.due("seen " + w[0] + " " + w[1] + " " + w[2], s.seen(w[0], w[1], w[2]), BAD);
        }
        on.due("none is seen", s.count(6), 0);
        on.due("seen by the last numbers", s.seen(1, 20, 3), 1);
        for (int i = 2; i <= 6; i++) {
            on.due("seen the same again", s.seen(0, 1, SEA), i);
        }
        on.due("full", s.seen(0, 1, 0), FULL);
        for (int[] w : wrong) {
            on.due("BAD is ahead of FULL: " + w[0] + " " + w[1] + " " + w[2], s.seen(w[0], w[1], w[2]), BAD);
        }
        on.due("seen is no slide and no act", Slopes.counts(s), " 4 2 2 0 0 0 6 0 0 8");
    }

    private void forget() {
        on.says("Nothing is SEEN: how many were.");
        EstateSlopes s = Slopes.laid("r00;r00;");
        on.due("none were", s.forget(), 0);
        for (int i = 0; i < 6; i++) {
            s.seen(0, 1, SEA);
        }
        on.due("six were", s.forget(), 6);
        on.due("none is", s.count(6), 0);
        on.due("forget again", s.forget(), 0);
        on.due("what may lie", s.lies(0), 15);
        on.due("seen anew", s.seen(0, 3, 2), 1);
        on.due("only that is seen", s.lies(2), 13);
    }

    private void lies() {
        on.says("LAY, as bits. BAD.");
        EstateSlopes s = Slopes.laid("r00;r00;");
        on.due("lies -1", s.lies(-1), BAD);
        on.due("lies 4", s.lies(4), BAD);
        on.due("lies in the sea", s.lies(99), BAD);
        on.due("lies 3", s.lies(3), 15);
        s.seen(0, 3, 0);
        on.due("thaw or a road", s.lies(0), 12);
        on.due("no bit", s.lies(2), 0);
        on.due("nothing is dug", Slopes.things(s) + Slopes.counts(s), "0000 4 2 2 0 0 0 1 0 0 8");
    }

    private void heavy() {
        on.says("HEAVY: how many (what = 0), the least (1; NONE). BAD.");
        EstateSlopes s = Slopes.laid("r00;r00;");
        on.due("how many", s.heavy(0, 0, 0), 2);
        on.due("the least", s.heavy(0, 0, 1), 1);
        on.due("how many in the last cell", s.heavy(1, 3, 0), 2);
        on.due("the least in the last cell", s.heavy(1, 3, 1), 3);
        on.due("how many to the sea", s.heavy(0, SEA, 0), 16);
        on.due("the least to the sea", s.heavy(0, SEA, 1), 5);
        on.due("how many of none is 0", s.heavy(0, 1, 0), 0);
        on.due("the least of none is NONE", s.heavy(0, 1, 1), NONE);
        int[][] wrong = {{-1, 0, 0}, {2, 0, 0}, {0, -1, 0}, {0, 4, 0}, {0, 98, 0}, {0, 100, 0}, {0, 0, -1}, {0, 0, 2},
            {0, 1, 2}, {2, 1, 1}};
        for (int[] w : wrong) {
            on.due("heavy " + w[0] + " " + w[1] + " " + w[2], s.heavy(w[0], w[1], w[2]), BAD);
        }
    }
}
