/** All that can be asked of an object without a change, as a text. A view takes some 70 to 110 calls of the 512. */
final class View {
    private View() {
    }

    /** What an act undone, or going back, brings again: all but the tape, fault(), the image and the acts remembered. */
    static String ofCourt(GhostAssize x) {
        StringBuilder s = new StringBuilder("counts");
        int[] counts = new int[14];
        for (int what = 0; what < 14; what++) {
            counts[what] = x.count(what);
            s.append(' ').append(counts[what]);
        }
        s.append(" props");
        for (int i = 0; i < 4 * counts[0]; i++) {
            s.append(' ').append(x.prop(i / 4, i % 4));
        }
        s.append(" accused");
        for (int i = 0; i < 4 * counts[1]; i++) {
            s.append(' ').append(x.accused(i / 4, i % 4));
        }
        s.append(" log");
        for (int i = 0; i < 4 * Math.min(6, counts[13]); i++) {
            s.append(' ').append(x.log(i / 4, i % 4));
        }
        s.append(" slots and frights");
        for (int slot = 0; slot < 10; slot++) {
            int prop = x.slot(slot);
            s.append(' ').append(prop);
            if (prop >= 0 && counts[1] > 0) {
                s.append(' ').append(x.fright(0, slot, 50, false)).append(' ').append(x.fright(0, slot, 50, true));
            }
        }
        int seed = x.seed(0);
        x.seed(seed);
        return s.append(" seed ").append(seed).toString();
    }

    /** What the questions answer that use no tape up; some 30 calls, and 7 more for each accused. */
    static String ofAnswers(GhostAssize x) {
        StringBuilder s = new StringBuilder("answers ").append(x.gap());
        s.append(' ').append(x.errors(false)).append(' ').append(x.errors(true)).append(' ').append(x.swap());
        s.append(' ').append(x.next()).append(' ').append(x.cover()).append(' ').append(x.leave());
        s.append(' ').append(x.bravest()).append(' ').append(x.alike()).append(' ').append(x.all(false));
        s.append(' ').append(x.all(true)).append(' ').append(x.loudest()).append(' ').append(x.trial(3));
        s.append(' ').append(x.span(3, false)).append(' ').append(x.span(3, true));
        int people = x.count(1);
        for (int one = 0; one < people; one++) {
            s.append(", of ").append(one).append(' ').append(x.straight(one)).append(' ').append(x.tense(one, 3));
            s.append(' ').append(x.ways(one)).append(' ').append(x.odds(one)).append(' ').append(x.corners(one));
            s.append(' ').append(x.usher(one)).append(' ').append(x.car(one, one == 0 ? people - 1 : 0));
        }
        int props = people > 0 ? x.count(0) : 0;
        for (int prop = 0; prop < props; prop++) {
            s.append(", prop ").append(x.lasts(prop, 0)).append(' ').append(x.share(prop, 0));
        }
        return s.toString();
    }

    /** What the questions answer that use the tape up. */
    static String ofRiddles(GhostAssize x) {
        x.end(0);
        return "riddles " + x.found(30, false) + " " + x.found(30, true) + " " + x.ask(30);
    }

    /** All but the tape. */
    static String ofAll(GhostAssize x) {
        return ofCourt(x) + " acts " + x.count(14) + " fault " + x.fault();
    }
}
