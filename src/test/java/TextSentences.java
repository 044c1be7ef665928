/** Terms 1, and promises 1 to 5: a text and its fault, and what is laid by it. */
final class TextSentences {
    private static final int BAD = EstateSlopes.BAD, NO = EstateSlopes.NO;
    private static final int FULL = EstateSlopes.FULL, NONE = EstateSlopes.NONE;
    private static final String MOST_CELLS = "r000000;".repeat(8);

    private final Sentences on;

    TextSentences(Sentences on) {
        this.on = on;
    }

    void all() {
        lettersAtMost();
        itemsAndTheirSigns();
        numbers();
        rowsOfSingleFigures();
        cellsOfARow();
        asManyAsInTheFirst();
        rowsAtMost();
        cellsAreNumbered();
        ownersOfOld();
        placeOfTheFault();
        twoRowsAtLeast();
        atFirst();
        callsOfOneObject();
        write();
        wipe();
        fault();
        lay();
    }

    private void fault(String text, int want) {
        on.due("fault of \"" + text + "\"", Slopes.faultOf(text), want);
    }

    private void faults(int want, String... texts) {
        for (String text : texts) {
            fault(text, want);
        }
    }

    private void lettersAtMost() {
        on.says("A TEXT is letters (200 at most)");
        EstateSlopes s = new EstateSlopes();
        for (int i = 1; i <= 200; i++) {
            on.due("write letter " + i, s.write('r'), i);
        }
        on.due("write letter 201", s.write('r'), FULL);
        on.due("how many there are", s.count(9), 200);
        String full = MOST_CELLS + "o0,0;".repeat(26) + "o10,1;";
        EstateSlopes t = Slopes.typed(full);
        on.due("a text of 200 letters", t.count(9), 200);
        on.due("fault of 200 letters", t.fault(), NONE);
        on.due("200 letters laid", t.lay(), 48);
        on.due("what the last of 200 letters ends", t.cell(10, 1), 1);
        fault(MOST_CELLS + "o0,0;".repeat(27) + "o", 199);
        EstateSlopes cut = Slopes.typed(MOST_CELLS + "o0,0;".repeat(26) + "o10,01;");
        on.due("the 201st letter, an end, is not there: fault", cut.fault(), 194);
    }

    private void itemsAndTheirSigns() {
        on.says("ITEMS one behind the other, each a letter, then what it tells, parted by , and a ; behind it");
        faults(NONE, "", "r00;", "r00;r11;", "r00;o0,0;", "r00;o0,0;o1,1;r33;");
        faults(0, ";", "r", "o", "r00", "r00:", "r00,", "r00r00;", "00;", "x00;", "R00;", " r00;", "r 00;", "r00 ;", "~");
        faults(4, "r00;;", "r00; ", "r00; r00;", "r00;r", "r00;r00", "r00;s00;", "r00;q00;", "r00;p00;");
        faults(4, "r00;o", "r00;o0", "r00;o0,", "r00;o0,0", "r00;O0,0;", "r00;n0,0;");
        faults(4, "r00;o0;0;", "r00;o00;", "r00;o0 0;", "r00;o0.0;", "r00;o0,,0;", "r00;o,0,0;", "r00;o0,0,;");
        faults(4, "r00;o0,0,0;", "r00;o0,0:", "r00;o0,0 ;", "r00;o0, 0;", "r00;o 0,0;", "r00;o0 ,0;", "r00;r0;0;");
    }

    private void numbers() {
        on.says("(numbers: one or two figures;");
        faults(NONE, "r00;o1,3;", "r00;o01,3;", "r00;o1,03;", "r00;o00,00;", MOST_CELLS + "o47,3;");
        faults(4, "r00;o,0;", "r00;o0,;", "r00;o,;", "r00;o;", "r00;o001,0;", "r00;o1,000;", "r00;o0000,0;");
        faults(4, "r00;o-1,0;", "r00;o+1,0;", "r00;o1,-0;", "r00;o:,0;", "r00;o/,0;", "r00;o0,/;", "r00;oa,0;");
        faults(4, "r00;o0/,0;", "r00;o0:,0;", "r00;o0,0/;", "r00;o0a,0;");
        on.due("a number that begins with 0", Slopes.laid("r00;r00;o03,02;").cell(3, 1), 2);
        on.due("a number of two figures", Slopes.laid("r000000;r000000;o11,3;").cell(11, 1), 3);
    }

    private void rowsOfSingleFigures() {
        on.says("a row: single figures, one next to the other): rR a row of the SLOPE:");
        faults(0, "r0,0;", "r0 0;", "r,00;", "r00,;", "r0.0;", "r-00;", "r;", "raa;");
        on.due("each figure is a cell", Slopes.laid("r10;r23;").count(0), 4);
    }

    private void cellsOfARow() {
        on.says("CELLS R (2 to 6,");
        faults(0, "r0;", "r0000000;", "r00000000;", "r0123012;");
        faults(NONE, "r01;", "r012;", "r0123;", "r01230;", "r012301;");
        on.says("0 SNOW, 1 ICE, 2 THAW, 3 ROAD);");
        faults(0, "r04;", "r40;", "r09;", "r0/;", "r/0;", "r000004;");
        on.due("what was laid", Slopes.things(Slopes.laid("r0123;r3210;")), "01233210");
        EstateSlopes s = Slopes.laid("r0123;r1111;");
        on.due("speed behind SNOW", s.track(0, 10, 0, 0, 1), 8);
        on.due("speed behind ICE", s.track(1, 10, 0, 0, 1), 11);
        on.due("speed behind THAW", s.track(2, 10, 0, 0, 1), 5);
        on.due("speed behind a ROAD", s.track(3, 10, 0, 0, 1), 4);
    }

    private void asManyAsInTheFirst() {
        on.says("as many as in the first one;");
        faults(NONE, "r00;r00;", "r000000;r000000;");
        faults(4, "r00;r000;", "r00;r0;", "r00;r;", "r00;r000000;");
        faults(5, "r000;r00;", "r000;r0000;");
        faults(8, "r00;r00;r000;", "r000000;r00000;");
        fault("r00;o0,0;r000;", 9);
        fault("r000;o0,0;r00;", 10);
    }

    private void rowsAtMost() {
        on.says("8 at most, the uppermost first;");
        faults(NONE, "r00;".repeat(8), "r00;".repeat(8) + "o15,0;", MOST_CELLS);
        fault("r00;".repeat(9), 32);
        fault("r00;".repeat(10), 32);
        fault("r00;".repeat(8) + "o0,0;r00;", 37);
        fault("r000000;".repeat(9), 64);
        on.due("eight rows laid", Slopes.laid("r00;".repeat(8)).count(2), 8);
        EstateSlopes s = Slopes.laid("r11;r22;r33;");
        on.due("a slide begins in the row told first", s.track(0, 20, 0, 0, 1), 20);
        on.due("and ends in the one told last", s.track(0, 20, 0, 2, 1), 6);
    }

    private void cellsAreNumbered() {
        on.says("CELLS are numbered from 0, along the first, then the second, ..");
        EstateSlopes s = Slopes.laid("r012;r301;r230;");
        int[] things = {0, 1, 2, 3, 0, 1, 2, 3, 0};
        for (int c = 0; c < things.length; c++) {
            on.due("what lies on cell " + c, s.cell(c, 0), things[c]);
        }
        on.due("cell -1", s.cell(-1, 0), BAD);
        on.due("cell 9", s.cell(9, 0), BAD);
        EstateSlopes most = Slopes.laid("r000000;".repeat(7) + "r000003;");
        on.due("cell 47 of 48", most.cell(47, 0), 3);
        on.due("cell 48 of 48", most.cell(48, 0), BAD);
        on.due("where a slide goes in row 1", s.track(2, 20, 0, 1, 0), 5);
        on.due("where a slide goes in row 2", s.track(0, 20, 0, 2, 0), 6);
    }

    private void ownersOfOld() {
        on.says("oC,F CELL C (told ahead) is SIDE F's (0 to 3)");
        faults(NONE, "r00;o0,0;", "r00;o1,0;", "r00;r00;o3,0;", MOST_CELLS + "o47,0;");
        faults(0, "o0,0;", "o0,0;r00;r00;");
        faults(4, "r00;o2,0;", "r00;o2,0;r00;", "r00;o10,0;", "r00;o99,0;");
        fault("r00;r00;o4,0;", 8);
        fault(MOST_CELLS + "o48,0;", 64);
        fault("r00;o1,0;r00;o2,0;", NONE);
        faults(NONE, "r00;o0,1;", "r00;o0,2;", "r00;o0,3;");
        faults(4, "r00;o0,4;", "r00;o0,9;", "r00;o0,10;", "r00;o0,30;", "r00;o0,04;");
        on.due("what is whose", Slopes.owners(Slopes.laid("r00;o1,3;r00;o0,0;o2,1;o3,2;")), "0312");
        on.due("what is nobody's", Slopes.owners(Slopes.laid("r00;r00;o2,0;")), "..0.");
        on.says("(the last one of a CELL)");
        on.due("two of one cell", Slopes.owners(Slopes.laid("r00;r00;o1,3;o1,0;")), ".0..");
        on.due("two of one cell, others between",
                Slopes.owners(Slopes.laid("r00;o1,1;o0,3;r00;o2,2;o1,2;o0,0;")), "022.");
        fault("r00;o1,3;o1,4;", 9);
    }

    private void placeOfTheFault() {
        on.says("FAULT: the place (from 0 on) of the first letter of the first ITEM that is not so.");
        fault("r000009;", 0);
        fault("r00;r01;r02;o5,3;o5,4;o5,0;", 17);
        fault("r00;o9,1;r0;", 4);
        fault("r00;r0;o9,1;", 4);
        fault("r00;r00;x", 8);
        fault("r00;r00;o1,1;o1,1", 13);
        EstateSlopes s = Slopes.typed("r00;r0");
        on.due("fault of an item that is not ended", s.fault(), 4);
        Slopes.type(s, "0;");
        on.due("fault when it is ended", s.fault(), NONE);
        s.write('!');
        on.due("fault of what comes behind it", s.fault(), 8);
    }

    private void twoRowsAtLeast() {
        on.says("LAID is a TEXT without FAULT, of two rows at least (NO else;");
        String[] refused = {"", "r00;", "r000000;", "r00;o0,0;o1,1;", "o0,0;", "r00;r00", "r00;r00;x", "r00;r00;o4,0;",
            "r00;r000;", "r00;".repeat(9)};
        for (String text : refused) {
            EstateSlopes s = Slopes.typed(text);
            on.due("lay \"" + text + "\"", s.lay(), NO);
            on.due("the cells as they were behind \"" + text + "\"", s.count(0), 24);
        }
        on.due("lay two rows", Slopes.typed("r00;r00;").lay(), 4);
        on.due("lay eight rows", Slopes.typed(MOST_CELLS).lay(), 48);
    }

    private void atFirst() {
        String text = "r0010;r0103;r1002;r0310;r2001;r0000;o0,0;o5,0;o13,1;o23,2;o9,1;";
        on.says("at first " + text + ").");
        EstateSlopes s = new EstateSlopes();
        on.due("what lies at first", Slopes.things(s), "001001031002031020010000");
        on.due("what is whose at first", Slopes.owners(s), "0....0...1...1.........2");
        EstateSlopes laid = Slopes.laid(text);
        laid.wipe();
        on.due("it is as if that were laid", Slopes.face(s), Slopes.face(laid));
        on.says("As told; THE TEXT is empty.");
        EstateSlopes other = new EstateSlopes();
        on.due("counts of a new object", Slopes.counts(other), " 24 4 6 5 5 0 0 0 0 0");
        on.due("lay of a new object", other.lay(), NO);
        on.due("fault of a new object", other.fault(), NONE);
        on.due("undo of a new object", other.undo(), NO);
        on.due("back of a new object", other.back(), NO);
        on.due("first letter of a new object", other.write('r'), 1);
    }

    private void callsOfOneObject() {
        on.says("An object is used for at most 512 calls after it has been made; what later calls answer is free.");
        EstateSlopes s = new EstateSlopes();
        for (int i = 1; i < 512; i++) {
            s.slide(i % 4, i % 4, i % 20 + 1, 0);
        }
        on.due("call 512", s.count(5), 511);
    }

    private void write() {
        on.says("A letter (32 to 126, as in ASCII) comes behind THE TEXT: how long it is. BAD; FULL.");
        EstateSlopes s = new EstateSlopes();
        int[] wrong = {31, 127, 0, -1, 128, 255, 'r' + 256, 'r' + 65536, 'r' - 256, 10, 13, 9};
        for (int letter : wrong) {
            on.due("write " + letter, s.write(letter), BAD);
        }
        on.due("none of these was written", s.count(9), 0);
        for (int letter = 32; letter <= 126; letter++) {
            on.due("write " + letter, s.write(letter), letter - 31);
        }
        for (int i = 96; i <= 200; i++) {
            s.write(' ');
        }
        on.due("write 32 to a full text", s.write(32), FULL);
        on.due("write 126 to a full text", s.write(126), FULL);
        on.due("write 127 to a full text: BAD is ahead of FULL", s.write(127), BAD);
        on.due("write 31 to a full text: BAD is ahead of FULL", s.write(31), BAD);
        EstateSlopes full = Slopes.typed(MOST_CELLS + "o0,0;".repeat(26) + "o10,1;");
        full.write('x');
        on.due("a letter that is refused is not in the text", full.fault(), NONE);
        on.due("letters as in ASCII", Slopes.typed("" + (char) 114 + (char) 48 + (char) 51 + (char) 59).fault(), NONE);
    }

    private void wipe() {
        on.says("THE TEXT is empty: how long it was.");
        EstateSlopes s = new EstateSlopes();
        on.due("wipe an empty text", s.wipe(), 0);
        s.write('x');
        on.due("wipe one letter", s.wipe(), 1);
        on.due("wipe again", s.wipe(), 0);
        Slopes.type(s, " ".repeat(201));
        on.due("wipe a full text", s.wipe(), 200);
        on.due("letters then", s.count(9), 0);
        on.due("fault then", s.fault(), NONE);
        on.due("write then", s.write('r'), 1);
        on.due("what was wiped is not read", s.fault(), 0);
    }

    private void fault() {
        on.says("FAULT. NONE.");
        EstateSlopes s = new EstateSlopes();
        on.due("fault of an empty text", s.fault(), NONE);
        Slopes.type(s, "r0");
        on.due("fault at the first place is 0, not NONE", s.fault(), 0);
        Slopes.type(s, "0;");
        on.due("one row is no fault", s.fault(), NONE);
        on.due("fault asked again", s.fault(), NONE);
        on.due("the text stays", s.count(9), 4);
        on.due("the slope stays", s.count(0), 24);
    }

    private void lay() {
        on.says("LAID: how many CELLS; nothing SEEN, UNDONE, KEPT (THE TEXT stays). NO.");
        EstateSlopes s = new EstateSlopes();
        s.keep();
        s.slide(3, 0, 13, 0);
        s.keep();
        s.seen(0, 5, 12);
        Slopes.type(s, "r13;o0,2;r02;");
        on.due("lay", s.lay(), 4);
        on.due("seen then", s.count(6), 0);
        on.due("forget then", s.forget(), 0);
        on.due("what may lie then", s.lies(0), 15);
        on.due("that can be undone then", s.count(7), 0);
        on.due("undo then", s.undo(), NO);
        on.due("kept then", s.count(8), 0);
        on.due("back then", s.back(), NO);
        on.due("letters then", s.count(9), 13);
        on.due("what lies then", Slopes.things(s), "1302");
        on.due("what is whose then", Slopes.owners(s), "2...");
        on.due("slides so far: only undo and back take from them", s.count(5), 1);
        s.dig(0, 2);
        s.give(3, 3);
        on.due("the same text laid again", s.lay(), 4);
        on.due("what lies is as told again", Slopes.things(s), "1302");
        on.due("what is whose is as told again", Slopes.owners(s), "2...");
        on.due("keep one then", s.keep(), 1);
        on.due("keep two then", s.keep(), 2);
        s.write('x');
        s.seen(0, 1, 0);
        s.give(3, 3);
        on.due("lay with a fault", s.lay(), NO);
        on.due("nothing changes by it", Slopes.counts(s), " 4 2 2 2 1 1 1 1 2 14");
        on.due("a larger slope behind a smaller one", layAnew(s, MOST_CELLS), 48);
        on.due("nobody's, all of it", s.count(3), 0);
        on.due("a smaller one behind a larger one", layAnew(s, "r00;r00;"), 4);
        on.due("cell 4 is none", s.cell(4, 0), BAD);
        on.due("column 2 is none", s.stops(2, 1, 0), BAD);
        on.due("row 2 is none", s.frost(2), BAD);
    }

    private static int layAnew(EstateSlopes s, String text) {
        s.wipe();
        Slopes.type(s, text);
        return s.lay();
    }
}
