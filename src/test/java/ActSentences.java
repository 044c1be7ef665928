/** Terms 2, and promises 11 to 14: cells dug, given away, frosts, undone. */
final class ActSentences {
    private static final int BAD = EstateSlopes.BAD, NO = EstateSlopes.NO, NONE = EstateSlopes.NONE;

    private final Sentences on;

    ActSentences(Sentences on) {
        this.on = on;
    }

    void all() {
        dugAndGiven();
        frosts();
        lastEight();
        nothingBecomesAnother();
        dig();
        give();
        frost();
        undo();
        undoBehindUndo();
    }

    private void dugAndGiven() {
        on.says("A CELL may be DUG (another thing lies on it), GIVEN to a SIDE, or to none.");
        EstateSlopes s = Slopes.laid("r01;r23;o0,0;o1,1;");
        s.dig(1, 3);
        on.due("another thing lies on it, and on no other", Slopes.things(s), "0323");
        on.due("whose it is stays", Slopes.owners(s), "01..");
        s.give(3, 3);
        on.due("given to a side", Slopes.owners(s), "01.3");
        s.give(1, 4);
        on.due("given to none", Slopes.owners(s), "0..3");
        on.due("what lies stays", Slopes.things(s), "0323");
    }

    private void frosts() {
        on.says("By a FROST in a row SNOW is ICE there, THAW is SNOW.");
        EstateSlopes s = Slopes.laid("r0123;r0123;r0123;o4,1;o11,2;");
        s.frost(1);
        on.due("a frost in the row between", Slopes.things(s), "012311030123");
        s.frost(0);
        on.due("a frost in the first row", Slopes.things(s), "110311030123");
        s.frost(2);
        on.due("a frost in the last row", Slopes.things(s), "110311031103");
        s.frost(1);
        on.due("a second one: what was thaw is ice now", Slopes.things(s), "110311131103");
        on.due("whose they are stays", Slopes.owners(s), "....1......2");
    }

    private void lastEight() {
        on.says("UNDONE is the latest of these");
        EstateSlopes s = Slopes.laid("r00;r00;");
        for (int i = 1; i <= 7; i++) {
            s.dig(0, i % 4);
            on.due("that can be undone behind " + i, s.count(7), i);
        }
        on.due("undo of seven", s.undo(), 6);
        on.due("the latest alone is undone", s.cell(0, 0), 2);
        on.says("the last 8 can be).");
        for (int i = 7; i <= 9; i++) {
            s.dig(0, i % 4);
            on.due("that can be undone behind " + i, s.count(7), Math.min(i, 8));
        }
        for (int left = 7; left >= 0; left--) {
            on.due("undo to " + left, s.undo(), left);
            on.due("what lies then", s.cell(0, 0), (left + 1) % 4);
        }
        on.due("the first of nine can't be undone", s.undo(), NO);
        on.due("it stays", s.cell(0, 0), 1);
        for (int i = 2; i <= 101; i++) {
            s.dig(0, i % 4);
        }
        on.due("that can be undone behind a hundred", s.count(7), 8);
        for (int left = 7; left >= 0; left--) {
            on.due("undo of a hundred to " + left, s.undo(), left);
            on.due("what lies then", s.cell(0, 0), (93 + left) % 4);
        }
        on.due("undo of a hundred, no more", s.undo(), NO);
    }

    private void nothingBecomesAnother() {
        on.says("(such by which nothing becomes another, too;");
        EstateSlopes s = Slopes.laid("r00;r00;o0,0;");
        on.due("slide in its own cell", s.slide(0, 0, 1, 0), 0);
        on.due("slide there again", s.slide(0, 0, 1, 0), 0);
        on.due("that can be undone", s.count(7), 2);
        on.due("slides so far", s.count(5), 2);
        on.due("undo one", s.undo(), 1);
        on.due("slides then", s.count(5), 1);
        on.due("undo the other", s.undo(), 0);
        on.due("slides at last", s.count(5), 0);
        on.due("it is as it was", Slopes.owners(s), "0...");
        s.give(0, 1);
        for (int i = 0; i < 8; i++) {
            s.slide(1, 0, 1, 0);
        }
        for (int i = 0; i < 8; i++) {
            s.undo();
        }
        on.due("eight of them, and the gift ahead can't be undone", s.undo(), NO);
        on.due("it is given still", s.cell(0, 1), 1);
    }

    private void dig() {
        on.says("DUG: what lay on it. BAD; NO: that does.");
        EstateSlopes s = Slopes.laid("r00;r00;");
        for (int from = 0; from < 4; from++) {
            for (int to = 0; to < 4; to++) {
                s.dig(3, from);
                on.due("dig " + to + " where " + from + " lies", s.dig(3, to), from == to ? NO : from);
                on.due("what lies then", s.cell(3, 0), to);
            }
        }
        EstateSlopes t = Slopes.laid("r01;r23;");
        int[][] wrong = {{-1, 0}, {4, 0}, {99, 0}, {0, -1}, {0, 4}, {4, 4}};
        for (int[] w : wrong) {
            on.due("dig " + w[0] + " " + w[1], t.dig(w[0], w[1]), BAD);
        }
        on.due("dig what lies", t.dig(2, 2), NO);
        on.due("nothing changes by these", Slopes.things(t) + Slopes.counts(t), "0123 4 2 2 0 1 0 0 0 0 8");
    }

    private void give() {
        on.says("GIVEN to SIDE f (4: to none): whose it was (NONE: nobody's). BAD; NO: it is.");
        EstateSlopes s = Slopes.laid("r00;r00;");
        on.due("nobody's to none", s.give(3, 4), NO);
        on.due("nobody's to side 0", s.give(3, 0), NONE);
        on.due("side 0's to side 0", s.give(3, 0), NO);
        on.due("side 0's to side 3", s.give(3, 3), 0);
        on.due("side 3's to side 3", s.give(3, 3), NO);
        on.due("side 3's to none", s.give(3, 4), 3);
        on.due("none's to none", s.give(3, 4), NO);
        on.due("whose it is then", s.cell(3, 1), NONE);
        on.due("acts", s.count(7), 3);
        int[][] wrong = {{-1, 0}, {4, 0}, {99, 4}, {0, -1}, {0, 5}, {0, -4}, {4, 4}};
        for (int[] w : wrong) {
            on.due("give " + w[0] + " " + w[1], s.give(w[0], w[1]), BAD);
        }
        on.due("no act more", s.count(7), 3);
        on.due("no slide", s.count(5), 0);
    }

    private void frost() {
        on.says("A FROST in row r: in how many CELLS something else lies. BAD; NO: in none.");
        EstateSlopes s = Slopes.laid("r000000;r131313;r222222;r333330;r111112;");
        on.due("six cells", s.frost(0), 6);
        on.due("none: ice and roads", s.frost(1), NO);
        on.due("six cells of thaw", s.frost(2), 6);
        on.due("six cells that are snow now", s.frost(2), 6);
        on.due("none any more", s.frost(2), NO);
        on.due("one cell of snow", s.frost(3), 1);
        on.due("one cell of thaw", s.frost(4), 1);
        on.due("row -1", s.frost(-1), BAD);
        on.due("row 5 of five", s.frost(5), BAD);
        on.due("acts", s.count(7), 5);
        on.due("the last of eight rows", Slopes.laid("r00;".repeat(8)).frost(7), 2);
        on.due("row 8 of eight", Slopes.laid("r00;".repeat(8)).frost(8), BAD);
    }

    private void undo() {
        on.says("UNDONE: how many more can be. NO.");
        EstateSlopes s = Slopes.laid("r02;r13;o0,0;o2,0;");
        on.due("nothing to be undone", s.undo(), NO);
        s.slide(1, 0, 5, 11);
        s.dig(0, 3);
        s.give(0, 4);
        s.frost(0);
        on.due("all four", Slopes.things(s) + Slopes.owners(s), "3013..01");
        on.due("undo the frost", s.undo(), 3);
        on.due("no frost", Slopes.things(s) + Slopes.owners(s), "3213..01");
        on.due("undo the gift", s.undo(), 2);
        on.due("no gift", Slopes.things(s) + Slopes.owners(s), "32131.01");
        on.due("undo what was dug", s.undo(), 1);
        on.due("not dug", Slopes.things(s) + Slopes.owners(s), "02131.01");
        on.due("undo the slide", s.undo(), 0);
        on.due("no slide", Slopes.things(s) + Slopes.owners(s), "02130.0.");
        on.due("slides so far", s.count(5), 0);
        on.due("no more", s.undo(), NO);
    }

    private void undoBehindUndo() {
        on.says("UNDONE is the latest of these");
        EstateSlopes s = Slopes.laid("r00;r00;");
        s.dig(0, 1);
        s.dig(0, 2);
        s.undo();
        on.due("what is undone is not one of them", s.count(7), 1);
        s.dig(0, 3);
        on.due("another one behind it", s.undo(), 1);
        on.due("what lies then", s.cell(0, 0), 1);
        on.due("undo the first", s.undo(), 0);
        on.due("what lies at last", s.cell(0, 0), 0);
        s.dig(0, 1);
        s.seen(0, 1, 0);
        s.keep();
        s.write('x');
        on.due("neither seen nor kept nor written is undone", s.undo(), 0);
        on.due("but the dig is", Slopes.counts(s), " 4 2 2 0 0 0 1 0 1 9");
    }
}
