/** Promises 46 to 49: acts undone, the image, going back, counts. */
final class MemoryTest {
    private static final int NONE = GhostAssize.NONE;
    private static final String COURT = "prop a jerk 5 at 0 worn 30;prop b jerk 7 worn 3;prop c jerk 9 at 4;accused nerve 60"
            + ";accused nerve 3 did a;accused nerve 9 did bc knows 1;day 5;calm 3;echo 4";

    public static void main(String[] args) {
        promise46UndoEachAct();
        promise46UndoOfTwelve();
        promise46UndoAndSeed();
        promise46Forgotten();
        promise47And48Image();
        promise48BackWithout();
        promise49Count();
        Check.close();
    }

    private static void act(GhostAssize x, int which) {
        switch (which) {
            case 0 -> x.send(0);
            case 1 -> x.recall(0);
            case 2 -> x.send(1);
            case 3 -> x.inside(2);
            case 4 -> x.nail(1, 9);
            case 5 -> x.down(4);
            case 6 -> x.mend(0);
            case 7 -> x.calm(7);
            default -> x.mornings(33);
        }
    }

    private static GhostAssize done(int acts) {
        GhostAssize x = Check.court(COURT);
        for (int i = 0; i < acts; i++) {
            act(x, i);
            Check.same("acts", x.count(14), i + 1);
        }
        return x;
    }

    private static void promise46UndoEachAct() {
        for (int left = 8; left >= 0; left--) {
            String ahead = View.ofCourt(done(left));
            Check.same("act " + left + " changes something", ahead.equals(View.ofCourt(done(left + 1))), false);
            GhostAssize x = done(9);
            for (int i = 8; i >= left; i--) {
                Check.same("undo", x.undo(), true);
                Check.same("acts", x.count(14), i);
            }
            Check.same("all is as ahead of act " + left, View.ofCourt(x), ahead);
            Check.same("none left", left == 0 && x.undo(), false);
        }
    }

    private static void promise46UndoOfTwelve() {
        GhostAssize x = Check.court("day 1");
        for (int i = 1; i <= 20; i++) {
            x.calm(i % 10);
            Check.same("acts", x.count(14), Math.min(12, i));
        }
        x.undo();
        x.undo();
        Check.same("calm", x.count(5), 8);
        x.calm(1);
        Check.same("acts", x.count(14), 11);
        for (int i = 0; i < 11; i++) {
            Check.same("undo", x.undo(), true);
        }
        Check.same("the 13th is not remembered", x.undo(), false);
        Check.same("calm", x.count(5), 8);
        x.mornings(60);
        Check.same("mornings of one call are one", x.count(14), 1);
        x.undo();
        Check.same("day", x.count(4), 1);
    }

    private static void promise46UndoAndSeed() {
        GhostAssize x = Check.court(COURT);
        x.seed(41);
        x.send(0);
        x.seed(77);
        Check.courtFault(x, "bat", 0);
        x.feed(0, 0, 0, 0, 0);
        Check.same("undo", x.undo(), true);
        Check.same("the seed is as ahead of it", x.seed(1), 41);
        Check.same("fault stays", x.fault(), 0);
        Check.same("the tape stays", x.end(20), true);
        Check.same("nothing throws", x.count(14), 0);
        x.calm(4);
        Check.cannotBe("it throws", () -> x.recall(0));
        Check.notThat("it throws", () -> x.calm(44));
        Check.same("what throws is no act", x.count(14), 1);
    }

    private static void promise46Forgotten() {
        GhostAssize x = Check.court(COURT);
        x.calm(5);
        Check.courtFault(x, "bat", 0);
        Check.lawFault(x, "bat", 0);
        Check.same("a wrong text changes nothing", x.count(14), 1);
        Check.more(x, "");
        Check.same("a text of the court", x.count(14), 0);
        Check.same("undo", x.undo(), false);
        Check.same("calm", x.count(5), 5);
        x.calm(6);
        Check.law(x, "");
        Check.same("a text of the law", x.undo(), false);
        x.calm(7);
        x.image();
        Check.same("an image forgets nothing", x.count(14), 1);
        x.back();
        Check.same("going back", x.undo(), false);
        for (int i = 3; i <= 12; i++) {
            Check.more(x, "");
        }
        x.calm(8);
        Check.fails("a 13th text", UnsupportedOperationException.class, () -> x.court());
        Check.same("one that throws changes nothing", x.undo(), true);
        Check.same("calm", x.count(5), 7);
    }

    private static void promise47And48Image() {
        GhostAssize x = Check.court(COURT);
        Check.law(x, "fright 2 if tense > 9");
        x.send(1);
        x.seed(12);
        String kept = View.ofCourt(x);
        x.image();
        for (int i = 0; i < 2; i++) {
            x.send(0);
            x.recall(0);
            x.nail(1, 9);
            x.down(0);
            x.mornings(9);
            x.calm(9);
            Check.law(x, "wear 3;ease 5");
            Check.more(x, "prop d jerk 20 at 7;accused nerve 8;echo 1;day 77");
            Check.courtFault(x, "bat", 0);
            x.feed(0, 0, 0, 0, 0);
            Check.same("changed", kept.equals(View.ofCourt(x)), false);
            Check.same("back", x.back(), true);
            Check.same("all is as it was kept", kept.equals(View.ofCourt(x)), true);
            Check.same("fault stays", x.fault(), 0);
            Check.same("the tape stays", x.end(20), true);
            Check.same("none are remembered", x.count(14), 0);
        }
        // What came later left nothing behind: the prop and the one are told anew.
        Check.more(x, "prop e jerk 1;accused nerve 4");
        Check.same("prop", x.prop(3, 3), NONE);
        Check.same("worn", x.prop(3, 2), 0);
        Check.same("slot", x.slot(7), NONE);
        Check.same("state", x.accused(3, 3), 0);
        x.image();
        x.calm(0);
        x.back();
        Check.same("the later image alone", x.count(0), 4);
    }

    private static void promise48BackWithout() {
        GhostAssize x = Check.court(COURT);
        x.calm(5);
        String now = View.ofCourt(x);
        Check.same("back", x.back(), false);
        Check.same("nothing happens", now.equals(View.ofCourt(x)), true);
        Check.same("acts", x.count(14), 1);
        GhostAssize y = new GhostAssize();
        y.image();
        Check.more(y, COURT);
        Check.same("back to nothing", y.back(), true);
        Check.same("props", y.count(0), 0);
        Check.same("texts", y.count(2), 0);
        Check.same("law", y.count(3), NONE);
        Check.noOne("nobody", () -> y.straight(0));
    }

    private static void promise49Count() {
        GhostAssize x = Check.court(COURT);
        Check.law(x, "fright 1;ease 1;wear 1");
        Check.more(x, "accused nerve 60;accused nerve 60");
        x.send(0);
        x.send(1);
        x.send(4);
        x.inside(3);
        int[] due = {3, 5, 2, 3, 5, 3, 4, 17, 4, 2, 17, 8, 30 + 3 + 3 * 2 * 2, 3, 4};
        for (int what = 0; what < due.length; what++) {
            Check.same("count " + what, x.count(what), due[what]);
        }
        Check.same("15", x.count(15), NONE);
        Check.same("-1", x.count(-1), NONE);
        Check.same("least", x.count(Integer.MIN_VALUE), NONE);
    }
}
