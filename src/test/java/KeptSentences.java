/** Terms 4, and promises 27 to 29: what is kept, and how many there are. */
final class KeptSentences {
    private static final int BAD = EstateSlopes.BAD, NO = EstateSlopes.NO, FULL = EstateSlopes.FULL;

    private final Sentences on;

    KeptSentences(Sentences on) {
        this.on = on;
    }

    void all() {
        allButTextAndSeen();
        keep();
        back();
        countsOfTheSlope();
        slidesSoFar();
        countsOfTheRest();
    }

    private void allButTextAndSeen() {
        on.says("KEPT is all as it stands, but THE TEXT and what is SEEN: 2 at most.");
        EstateSlopes s = Slopes.laid("r01;r23;o0,0;o3,1;");
        s.slide(2, 1, 2, 0);
        s.seen(0, 3, 2);
        s.keep();
        s.dig(0, 3);
        s.frost(1);
        s.give(3, 4);
        s.slide(3, 0, 20, 0);
        s.seen(0, 1, 0);
        s.write('x');
        s.back();
        on.due("what lay is as kept", Slopes.things(s), "0123");
        on.due("what was whose is as kept", Slopes.owners(s), "02.2");
        on.due("slides are as kept; the text and what is seen are as they were", Slopes.counts(s),
                " 4 2 2 3 1 1 2 0 0 19");
        on.due("the text has a fault still", s.fault(), 18);
        on.due("what is seen tells still", s.lies(0), 1);
        s.keep();
        s.forget();
        s.wipe();
        s.back();
        on.due("what is forgotten and wiped does not come back", s.count(6) + s.count(9), 0);
        EstateSlopes t = new EstateSlopes();
        for (int i = 1; i <= 4; i++) {
            on.due("keep " + i, t.keep(), i <= 2 ? i : FULL);
        }
    }

    private void keep() {
        on.says("KEPT: how many. FULL.");
        EstateSlopes s = Slopes.laid("r00;r00;");
        on.due("keep one", s.keep(), 1);
        s.dig(0, 1);
        on.due("keep two", s.keep(), 2);
        s.dig(0, 2);
        on.due("keep three", s.keep(), FULL);
        on.due("keep is no act, and takes none away", s.count(7), 2);
        on.due("undo is as ever", s.undo(), 1);
        s.back();
        on.due("the second is kept, not the third", s.cell(0, 0), 1);
        on.due("keep again", s.keep(), 2);
        s.back();
        s.back();
        on.due("the first is kept", s.cell(0, 0), 0);
        on.due("keep anew", s.keep(), 1);
    }

    private void back() {
        on.says("As KEPT last (it is KEPT no more then): how many are left; nothing is UNDONE then. NO.");
        EstateSlopes s = Slopes.laid("r00;r00;");
        on.due("nothing is kept", s.back(), NO);
        s.dig(0, 1);
        s.keep();
        s.dig(0, 2);
        s.keep();
        s.dig(0, 3);
        on.due("that can be undone ahead", s.count(7), 3);
        on.due("back to the last", s.back(), 1);
        on.due("what lies is as kept last", s.cell(0, 0), 2);
        on.due("that can be undone then", s.count(7), 0);
        on.due("undo then", s.undo(), NO);
        on.due("it is kept no more", s.count(8), 1);
        s.dig(0, 0);
        on.due("an act behind it can be undone", s.undo(), 0);
        on.due("to what it was then", s.cell(0, 0), 2);
        on.due("back to the first", s.back(), 0);
        on.due("what lies is as kept first", s.cell(0, 0), 1);
        on.due("none is left", s.back(), NO);
        on.due("nothing changes by that", s.cell(0, 0), 1);
        s.dig(0, 2);
        on.due("no back, so undo is as it was", s.back(), NO);
        on.due("undo", s.undo(), 0);
        on.due("undo is not undone by keep: what lies", s.cell(0, 0), 1);
        changeWhatIsKept();
    }

    private void changeWhatIsKept() {
        EstateSlopes s = Slopes.laid("r00;r00;");
        s.keep();
        s.back();
        s.dig(0, 1);
        s.give(0, 1);
        s.keep();
        s.keep();
        s.dig(0, 2);
        s.back();
        s.dig(0, 3);
        s.give(0, 2);
        on.due("two that were kept alike are two", s.back(), 0);
        on.due("what was done behind the first back is gone", Slopes.things(s) + Slopes.owners(s), "10001...");
    }

    private void countsOfTheSlope() {
        on.says("How many: 0 CELLS, 1 COLUMNS, 2 rows, 3 CELLS that are a SIDE's, 4 of ICE,");
        String[] texts = {"r00;r00;", "r111111;".repeat(8), "r012;r301;r111;r222;o0,0;o1,1;o2,2;o3,3;"};
        String[] want = {"4 2 2 0 0", "48 6 8 0 48", "12 3 4 4 5"};
        for (int i = 0; i < texts.length; i++) {
            EstateSlopes s = Slopes.laid(texts[i]);
            String got = s.count(0) + " " + s.count(1) + " " + s.count(2) + " " + s.count(3) + " " + s.count(4);
            on.due("counts of " + texts[i], got, want[i]);
        }
        EstateSlopes all = Slopes.laid("r11;r11;");
        all.slide(0, 0, 1, 0);
        all.slide(1, 1, 1, 0);
        on.due("all cells are a side's", all.count(3), 4);
        all.give(0, 4);
        on.due("all but one", all.count(3), 3);
        all.dig(0, 0);
        on.due("all but one are ice", all.count(4), 3);
    }

    private void slidesSoFar() {
        on.says("5 SLIDES so far (one that is UNDONE is none; behind back() as KEPT),");
        EstateSlopes s = Slopes.laid("r00;r00;");
        on.due("none so far", s.count(5), 0);
        for (int i = 1; i <= 10; i++) {
            s.slide(0, 0, 1, 0);
            on.due("slides so far", s.count(5), i);
        }
        s.undo();
        on.due("one is undone", s.count(5), 9);
        s.keep();
        s.dig(0, 1);
        s.undo();
        on.due("a dig that is undone takes none", s.count(5), 9);
        s.slide(0, 0, 21, 0);
        on.due("a slide that is refused is none", s.count(5), 9);
        s.slide(1, 1, 1, 0);
        s.slide(1, 1, 1, 0);
        on.due("two more", s.count(5), 11);
        s.back();
        on.due("as kept", s.count(5), 9);
        s.slide(1, 1, 1, 0);
        on.due("and one more", s.count(5), 10);
    }

    private void countsOfTheRest() {
        on.says("6 SEEN, 7 that can be UNDONE, 8 KEPT, 9 letters of THE TEXT. BAD.");
        EstateSlopes s = Slopes.laid("r00;r00;");
        on.due("count -1", s.count(-1), BAD);
        on.due("count 10", s.count(10), BAD);
        for (int i = 0; i < 3; i++) {
            s.keep();
        }
        for (int i = 0; i < 7; i++) {
            s.seen(0, 1, 0);
        }
        for (int i = 0; i < 9; i++) {
            s.slide(0, 0, 1, 0);
        }
        Slopes.type(s, " ".repeat(193));
        on.due("the most of each", Slopes.counts(s), " 4 2 2 1 0 9 6 8 2 200");
        s.back();
        s.forget();
        s.wipe();
        on.due("fewer then", Slopes.counts(s), " 4 2 2 0 0 0 0 0 1 0");
    }
}
