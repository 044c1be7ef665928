/** What the tests share: texts typed and laid, and all that can be seen of an object. */
final class Slopes {
    private Slopes() { }

    static void type(EstateSlopes s, String text) {
        for (int i = 0; i < text.length(); i++) {
            s.write(text.charAt(i));
        }
    }

    static EstateSlopes typed(String text) {
        EstateSlopes s = new EstateSlopes();
        type(s, text);
        return s;
    }

    static EstateSlopes laid(String text) {
        EstateSlopes s = typed(text);
        if (s.lay() < 0) {
            throw new IllegalStateException("not laid: " + text);
        }
        return s;
    }

    static int faultOf(String text) {
        return typed(text).fault();
    }

    /** A figure a cell: what lies on it. */
    static String things(EstateSlopes s) {
        StringBuilder row = new StringBuilder();
        for (int c = 0; c < s.count(0); c++) {
            row.append(s.cell(c, 0));
        }
        return row.toString();
    }

    /** A sign a cell: its side, or a point for nobody's. */
    static String owners(EstateSlopes s) {
        StringBuilder row = new StringBuilder();
        for (int c = 0; c < s.count(0); c++) {
            int f = s.cell(c, 1);
            row.append(f == EstateSlopes.NONE ? "." : "" + f);
        }
        return row.toString();
    }

    static String counts(EstateSlopes s) {
        StringBuilder row = new StringBuilder();
        for (int what = 0; what <= 9; what++) {
            row.append(' ').append(s.count(what));
        }
        return row.toString();
    }

    /** All that questions tell of an object as it stands. */
    static String face(EstateSlopes s) {
        StringBuilder row = new StringBuilder();
        row.append(things(s)).append(' ').append(owners(s)).append(counts(s)).append(" fault ").append(s.fault());
        for (int c = 0; c < s.count(0); c++) {
            row.append(" lies ").append(s.lies(c));
        }
        return row.toString();
    }

    /** All that there is to an object, its past, what is kept and its text, too; it is used up by this. */
    static String whole(EstateSlopes s) {
        StringBuilder all = new StringBuilder(face(s));
        for (int more = s.count(7); more > 0; more--) {
            all.append("\nundo ").append(s.undo()).append(' ').append(things(s)).append(' ').append(owners(s));
            all.append(' ').append(s.count(5));
        }
        for (int more = s.count(8); more > 0; more--) {
            all.append("\nback ").append(s.back()).append(' ').append(things(s)).append(' ').append(owners(s));
            all.append(' ').append(s.count(5));
        }
        return all.append("\nlay ").append(s.lay()).append(' ').append(face(s)).toString();
    }
}
