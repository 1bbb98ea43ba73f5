/** All that can be asked of an object, as one text. */
final class Shown {
    private static final int[] WHATS = {0, 1, 2, 3};

    private Shown() {
    }

    static String of(CutShears x) {
        StringBuilder text = new StringBuilder();
        text.append("pieces ").append(x.pieces()).append(" loss ").append(x.loss());
        for (int k = 0; k < x.pieces(); k++) {
            for (int what : WHATS) {
                text.append(' ').append(x.piece(k, what));
            }
            text.append(' ').append(x.blade(k, 7, 0)).append('.').append(x.blade(k, 7, 1));
        }
        bed(x, text);
        cuts(x, text);
        sums(x, text);
        side(x, text);
        return text.toString();
    }

    private static void bed(CutShears x, StringBuilder text) {
        text.append(" bed ");
        try {
            for (int place = 0; place < 1000; place++) {
                text.append(x.at(place)).append(' ');
            }
        } catch (IndexOutOfBoundsException noSuchPlace) {
            text.append("end");
        }
    }

    private static void cuts(CutShears x, StringBuilder text) {
        text.append(" cuts ");
        try {
            for (int c = 0; c < 1000; c++) {
                for (int what : WHATS) {
                    text.append(x.cutAt(c, what)).append(' ');
                }
            }
        } catch (IndexOutOfBoundsException noSuchCut) {
            text.append("end");
        }
    }

    private static void sums(CutShears x, StringBuilder text) {
        text.append(" sums ");
        try {
            for (int wanted = 0; wanted < 1000; wanted++) {
                text.append(x.sum(wanted)).append(' ');
            }
        } catch (IndexOutOfBoundsException noSuchLength) {
            text.append("end");
        }
    }

    private static void side(CutShears x, StringBuilder text) {
        text.append(" side");
        for (int k = 0; k < 1000; k++) {
            int c = x.side(k);
            text.append(' ').append(c);
            if (c < 0) {
                return;
            }
        }
    }
}
