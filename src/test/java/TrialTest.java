/** Promises 41 to 45: trials, spans, the log and the seed. Jolts from seed 1: 2 1 0 1 1 2 0 0 0 0 1 2. */
final class TrialTest {
    private static final int NONE = GhostAssize.NONE;

    public static void main(String[] args) {
        promise41Trial();
        promise41TrialLeavesAll();
        promise42Span();
        promise43Led();
        promise44Log();
        promise44LogOfSixty();
        promise45Seed();
        Check.close();
    }

    private static void promise41Trial() {
        // It screams by a jolt of 2 alone.
        GhostAssize x = Check.court("prop a jerk 5 at 0;accused nerve 6");
        int[] due = {0, 1, 1, 1, 1, 1, 2, 2, 2, 2, 2, 2, 3};
        for (int n = 0; n < due.length; n++) {
            Check.same("trial " + n, x.trial(n), due[n]);
        }
        // The other one by 1 and by 2; both ride in turn, as often as told.
        Check.more(x, "accused nerve 5;accused nerve 1");
        x.inside(2);
        int[] both = {0, 2, 3, 4, 4};
        for (int n = 0; n < both.length; n++) {
            Check.same("trial of two " + n, x.trial(n), both[n]);
        }
        x.seed(5);
        Check.same("from the seed as it is: 1 0 2 2", x.trial(2), 2);
        Check.notThat("-1", () -> x.trial(-1));
        Check.notThat("21", () -> x.trial(21));
        Check.same("nobody", new GhostAssize().trial(20), 0);
    }

    private static void promise41TrialLeavesAll() {
        GhostAssize x = Check.court("prop a jerk 5 at 0;accused nerve 4;accused nerve 4");
        Check.law(x, "wear 30;ease 5 if knows");
        Check.same("worn and known as now in each", x.trial(20), 40);
        Check.same("worn", x.prop(0, 2), 0);
        Check.same("knows", x.accused(0, 2), 0);
        Check.same("wait", x.count(8), 3);
        Check.same("log", x.count(13), 0);
        Check.same("no act", x.count(14), 0);
        Check.same("seed", x.seed(1), 1);
    }

    private static void promise42Span() {
        GhostAssize x = Check.court("prop a jerk 5 at 0;accused nerve 6");
        int[][] due = {{0, 0, 0}, {1, 0, 1}, {3, 1, 2}, {6, 2, 4}, {12, 3, 6}};
        x.seed(99);
        for (int[] row : due) {
            Check.same("the fewest of " + row[0], x.span(row[0], false), row[1]);
            Check.same("the most of " + row[0], x.span(row[0], true), row[2]);
        }
        Check.same("the seed stays", x.seed(1), 99);
        // It screams by a first jolt of 2 and a next of 2: from seed 2 alone. By 2 and 0 from 3 and from 6.
        GhostAssize y = Check.court("prop a jerk 9 at 0;prop b jerk 9 at 1;accused nerve 21");
        Check.same("seed 2 is one of them", y.span(1, true), 1);
        Check.same("not in all", y.span(1, false), 0);
        // Three jolts: 2 0 2 is of seed 6 alone; by the law each 2 in slots 0 and 2 and a 0 in slot 1 is needed.
        GhostAssize z = Check.court("prop a jerk 0 at 0;prop a jerk 0 at 1;prop a jerk 0 at 2;accused nerve 33");
        Check.law(z, "fright 10 if slot>0 and slot<2 and tense>1;fright 20 if slot>1 and tense<13 and tense>11");
        Check.same("seed 6 is one of them", z.span(1, true), 1);
        Check.notThat("-1", () -> x.span(-1, true));
        Check.notThat("21", () -> x.span(21, false));
        Check.same("20 at most", x.span(20, true) <= 20, true);
    }

    private static void promise43Led() {
        GhostAssize x = Check.court("prop a jerk 5 at 0;accused nerve 60;accused nerve 1;accused nerve 6");
        x.send(0);
        x.recall(0);
        x.send(1);
        x.send(0);
        Check.same("rows of 0", x.led(0, false), 2);
        Check.same("none with a scream", x.led(0, true), 0);
        Check.same("rows of 1", x.led(1, false), 1);
        Check.same("with a scream in slot 0", x.led(1, true), 1);
        Check.same("rows of 2", x.led(2, false), 0);
        Check.noOne("nobody", () -> x.led(3, false));
        Check.noOne("nobody", () -> x.led(-1, true));
    }

    private static void promise44Log() {
        GhostAssize x = Check.court("prop a jerk 5 at 9;accused nerve 60;accused nerve 5;day 7");
        Check.same("none yet", x.log(0, 0), NONE);
        x.send(0);
        x.mornings(3);
        x.send(1);
        int[][] due = {{10, 1, 9, 6}, {7, 0, 10, 7}};
        for (int i = 0; i < 8; i++) {
            Check.same("log " + i / 4 + " what " + i % 4, x.log(i / 4, i % 4), due[i / 4][i % 4]);
        }
        Check.same("without", x.log(2, 0), NONE);
        Check.same("without", x.log(-1, 3), NONE);
        Check.same("without", x.log(Integer.MIN_VALUE, 3), NONE);
        Check.same("without", x.log(Integer.MAX_VALUE, 3), NONE);
        Check.noSuch("what 4", () -> x.log(0, 4));
        Check.noSuch("what -1", () -> x.log(0, -1));
        Check.noSuch("what 4 without a row", () -> x.log(9, 4));
    }

    private static void promise44LogOfSixty() {
        GhostAssize x = Check.court("accused nerve 60;accused nerve 60");
        for (int i = 0; i < 70; i++) {
            x.send(i % 2);
            x.recall(i % 2);
            x.mornings(1);
            Check.same("rows", x.count(13), Math.min(60, i + 1));
        }
        Check.same("the latest", x.log(0, 0), 69);
        Check.same("the oldest of 60", x.log(59, 0), 10);
        Check.same("older ones are gone", x.log(60, 0), NONE);
        Check.same("rows of 1", x.led(1, false), 30);
        Check.same("undo", x.undo() && x.undo() && x.undo(), true);
        Check.same("the row that gave way is there again", x.log(59, 0), 9);
        Check.same("the latest", x.log(0, 0), 68);
    }

    private static GhostAssize reads(GhostAssize x) {
        Check.more(x, "day 1");
        return Check.law(x, "");
    }

    private static void promise45Seed() {
        GhostAssize x = Check.court("prop a jerk 5 at 0;accused nerve 60");
        Check.same("at first", x.seed(-7), 1);
        Check.same("any number", x.seed(Integer.MIN_VALUE), -7);
        Check.same("any number", x.seed(1), Integer.MIN_VALUE);
        x.send(0);
        Check.same("behind a draw", x.seed(3), 1103527590);
        Check.same("no act", x.count(14), 1);
        Check.same("a text leaves it", reads(x).seed(1), 3);
    }
}
