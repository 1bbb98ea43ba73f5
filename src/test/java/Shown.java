/** All that can be asked of an object, as one text; asked of copies, so that it uses up no calls. */
final class Shown {
    private static final int MANY = 1000;

    private Shown() {
    }

    static String of(TapedShears x) {
        StringBuilder text = new StringBuilder();
        plan(x, text);
        rows(x, text, " bed", TapedShears.AT, 1);
        rows(x, text, " cuts", TapedShears.CUT_AT, 4);
        rows(x, text, " sums", TapedShears.SUM, 1);
        side(x, text);
        return text.toString();
    }

    private static void plan(TapedShears x, StringBuilder text) {
        text.append("pieces ").append(x.look(TapedShears.PIECES));
        text.append(" loss ").append(x.look(TapedShears.LOSS));
        rows(x, text, " plan", TapedShears.PIECE, 4);
        int last = x.look(TapedShears.PIECES) - 1;
        if (last >= 0) {
            text.append(" blade ").append(x.look(TapedShears.BLADE, last, 7, 0));
            text.append('.').append(x.look(TapedShears.BLADE, last, 7, 1));
        }
    }

    /** What a call tells of 0, 1, .. until there is no such number. */
    private static void rows(TapedShears x, StringBuilder text, String name, int method, int whats) {
        text.append(name);
        try {
            for (int number = 0; number < MANY; number++) {
                for (int what = 0; what < whats; what++) {
                    int told = x.look(method, number, what);
                    text.append(' ').append(told);
                }
            }
        } catch (IndexOutOfBoundsException noSuchNumber) {
            text.append(" end");
        }
    }

    private static void side(TapedShears x, StringBuilder text) {
        text.append(" side");
        for (int k = 0; k < MANY; k++) {
            int c = x.look(TapedShears.SIDE, k);
            text.append(' ').append(c);
            if (c < 0) {
                return;
            }
        }
    }
}
