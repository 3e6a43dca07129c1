/** All that can be asked of an object without a change, as a text. A view takes some 100 calls of the 512. */
final class View {
    private View() {
    }

    /** What an act undone, or going back, brings again: all but the tape, fault(), the image and the acts remembered. */
    static String ofCourt(GhostAssize x) {
        StringBuilder s = new StringBuilder("counts");
        for (int what = 0; what < 14; what++) {
            s.append(' ').append(x.count(what));
        }
        s.append(" props");
        for (int i = 0; i < 4 * x.count(0); i++) {
            s.append(' ').append(x.prop(i / 4, i % 4));
        }
        s.append(" accused");
        for (int i = 0; i < 4 * x.count(1); i++) {
            s.append(' ').append(x.accused(i / 4, i % 4));
        }
        s.append(" log");
        for (int i = 0; i < 4 * Math.min(6, x.count(13)); i++) {
            s.append(' ').append(x.log(i / 4, i % 4));
        }
        s.append(" slots");
        for (int slot = 0; slot < 10; slot++) {
            s.append(' ').append(x.slot(slot));
        }
        int seed = x.seed(0);
        x.seed(seed);
        return s.append(" seed ").append(seed).append(frights(x)).toString();
    }

    private static String frights(GhostAssize x) {
        StringBuilder s = new StringBuilder(" frights");
        for (int slot = 0; slot < 10 && x.count(1) > 0; slot++) {
            if (x.slot(slot) >= 0) {
                s.append(' ').append(x.fright(0, slot, 50, false)).append(' ').append(x.fright(0, slot, 50, true));
            }
        }
        return s.toString();
    }

    /** All but the tape. */
    static String ofAll(GhostAssize x) {
        return ofCourt(x) + " acts " + x.count(14) + " fault " + x.fault();
    }
}
