import java.util.NoSuchElementException;
import java.util.function.IntPredicate;

/**
 * Which exception each call throws, for every argument beside and at its bounds, in a new court, in one half full and in
 * a full one; that of several the one told first is thrown; and that a refused call leaves all as it was.
 */
final class RefusedTest {
    private static final int[] EDGES = {Integer.MIN_VALUE, Integer.MIN_VALUE + 1, -2, -1, 0, 1, 2, 3, 4, 5, 6, 7, 8, 9, 10, 11, 19,
        20, 21, 59, 60, 61, 99, 100, Integer.MAX_VALUE - 1, Integer.MAX_VALUE};
    private static final Class<? extends RuntimeException> NO_ONE = IndexOutOfBoundsException.class;
    private static final Class<? extends RuntimeException> NOT_THAT = IllegalArgumentException.class;
    private static final Class<? extends RuntimeException> CANNOT_BE = IllegalStateException.class;
    private static final Class<? extends RuntimeException> NO_SUCH = NoSuchElementException.class;
    private static final Class<? extends RuntimeException> TOO_MANY = UnsupportedOperationException.class;

    private interface Call {
        void on(GhostAssize x);
    }

    public static void main(String[] args) {
        for (int kind = 0; kind < 3; kind++) {
            ofOneNumber(kind);
            ofOneWhoRides(kind);
            ofTwoNumbers(kind);
            ofTape(kind);
        }
        toldFirst();
        refusedCallsLeaveAll();
        refusedTexts();
        refusedThirteenth();
        nothingHappens();
        Check.close();
    }

    /** A new court; one of two props and three accused; one of eight and six, who wait, are let go, held, inside. */
    private static GhostAssize made(int kind) {
        if (kind == 0) {
            return new GhostAssize();
        }
        if (kind == 1) {
            return Check.court("prop a jerk 5 at 0;prop b jerk 9;accused nerve 60;accused nerve 3 did a;accused nerve 9 did bc");
        }
        GhostAssize x = Check.court("prop a jerk 5 at 0;prop b jerk 9 at 9;prop c jerk 3;prop d jerk 1 at 4;prop e jerk 0 worn 99"
                + ";prop f jerk 20 at 5 worn 50;prop a jerk 2;prop a jerk 2;accused nerve 60;accused nerve 3 did a;accused nerve 9"
                + ";accused nerve 60;accused nerve 7 did f;accused nerve 50");
        x.send(0);
        x.send(1);
        x.inside(2);
        return x;
    }

    private static int props(int kind) {
        return kind == 0 ? 0 : kind == 1 ? 2 : 8;
    }

    private static int people(int kind) {
        return kind == 0 ? 0 : kind == 1 ? 3 : 6;
    }

    private static void due(String what, GhostAssize x, Class<? extends RuntimeException> due, Call call) {
        if (due == null) {
            call.on(x);
        } else {
            Check.fails(what, due, () -> call.on(x));
        }
    }

    private static boolean in(int n, int low, int high) {
        return n >= low && n <= high;
    }

    /** For each edge: a new court, and the exception where the number is none of those that are right. */
    private static void each(String what, int kind, IntPredicate right, Class<? extends RuntimeException> due,
            java.util.function.IntFunction<Call> call) {
        for (int n : EDGES) {
            due(what + "(" + n + ") of court " + kind, made(kind), right.test(n) ? null : due, call.apply(n));
        }
    }

    private static void ofOneNumber(int kind) {
        Check.sentence("IndexOutOfBoundsException: there is no such PROP, SLOT, nobody of that number."
                + " IllegalArgumentException: a number is none, or two are one.");
        each("slot", kind, n -> in(n, 0, 9), NO_ONE, n -> x -> x.slot(n));
        each("mend", kind, n -> in(n, 0, props(kind) - 1), NO_ONE, n -> x -> x.mend(n));
        each("calm", kind, n -> in(n, 0, 9), NOT_THAT, n -> x -> x.calm(n));
        each("mornings", kind, n -> in(n, 1, 60), NOT_THAT, n -> x -> x.mornings(n));
        each("trial", kind, n -> in(n, 0, 20), NOT_THAT, n -> x -> x.trial(n));
        each("span", kind, n -> in(n, 0, 20), NOT_THAT, n -> x -> x.span(n, true));
        each("span", kind, n -> in(n, 0, 20), NOT_THAT, n -> x -> x.span(n, false));
        each("seed", kind, n -> true, null, n -> x -> x.seed(n));
        each("count", kind, n -> true, null, n -> x -> x.count(n));
        each("end", kind, n -> true, null, n -> x -> x.end(n));
        for (int n : EDGES) {
            GhostAssize x = made(kind);
            int prop = in(n, 0, 9) ? x.slot(n) : -1;
            due("down(" + n + ")", x, !in(n, 0, 9) ? NO_ONE : prop < 0 ? CANNOT_BE : null, y -> y.down(n));
        }
    }

    private static void ofOneWhoRides(int kind) {
        IntPredicate is = n -> in(n, 0, people(kind) - 1);
        each("straight", kind, is, NO_ONE, n -> x -> x.straight(n));
        each("ways", kind, is, NO_ONE, n -> x -> x.ways(n));
        each("odds", kind, is, NO_ONE, n -> x -> x.odds(n));
        each("corners", kind, is, NO_ONE, n -> x -> x.corners(n));
        each("usher", kind, is, NO_ONE, n -> x -> x.usher(n));
        each("led", kind, is, NO_ONE, n -> x -> x.led(n, true));
        each("led", kind, is, NO_ONE, n -> x -> x.led(n, false));
        Check.sentence("IllegalStateException: it cannot be.");
        for (int n : EDGES) {
            int state = is.test(n) ? made(kind).accused(n, 3) : -1;
            Class<? extends RuntimeException> waits = state < 0 ? NO_ONE : state != 0 ? CANNOT_BE : null;
            Class<? extends RuntimeException> held = state < 0 ? NO_ONE : state != 2 ? CANNOT_BE : null;
            due("send(" + n + ")", made(kind), waits, x -> x.send(n));
            due("inside(" + n + ")", made(kind), waits, x -> x.inside(n));
            due("recall(" + n + ")", made(kind), held, x -> x.recall(n));
        }
    }

    private static void ofTwoNumbers(int kind) {
        Check.sentence("IndexOutOfBoundsException: there is no such PROP, SLOT, nobody of that number.");
        for (int a : EDGES) {
            boolean isProp = in(a, 0, props(kind) - 1);
            boolean isOne = in(a, 0, people(kind) - 1);
            for (int b : EDGES) {
                GhostAssize x = made(kind);
                String told = "(" + a + ", " + b + ") of court " + kind;
                boolean isSlot = in(b, 0, 9);
                boolean isOther = in(b, 0, people(kind) - 1);
                Class<? extends RuntimeException> noWhat = in(b, 0, 3) ? null : NO_SUCH;
                due("prop" + told, x, isProp ? noWhat : NO_ONE, y -> y.prop(a, b));
                due("accused" + told, x, isOne ? noWhat : NO_ONE, y -> y.accused(a, b));
                due("log" + told, x, noWhat, y -> y.log(a, b));
                due("tense" + told, x, isOne && isSlot ? null : NO_ONE, y -> y.tense(a, b));
                due("at" + told, x, isOne && isSlot ? null : NO_ONE, y -> y.at(a, b));
                due("car" + told, x, !isOne || !isOther ? NO_ONE : a == b ? NOT_THAT : null, y -> y.car(a, b));
                due("lasts" + told, x, isProp && isOther ? null : NO_ONE, y -> y.lasts(a, b));
                due("share" + told, x, isProp && isOther ? null : NO_ONE, y -> y.share(a, b));
                due("nail" + told, x, nailDue(x, isProp, isSlot, a, b), y -> {
                    y.nail(a, b);
                    y.undo();
                });
                for (int c : new int[] {Integer.MIN_VALUE, -1, 0, 99, 100, Integer.MAX_VALUE}) {
                    Class<? extends RuntimeException> soTense = in(c, 0, 99) ? null : NOT_THAT;
                    due("fright" + told, x, isOne && isSlot ? soTense : NO_ONE, y -> y.fright(a, b, c, c > 0));
                }
            }
        }
    }

    private static Class<? extends RuntimeException> nailDue(GhostAssize x, boolean isProp, boolean isSlot, int prop, int slot) {
        if (!isProp || !isSlot) {
            return NO_ONE;
        }
        return x.prop(prop, 3) >= 0 || x.slot(slot) >= 0 ? CANNOT_BE : null;
    }

    private static void ofTape(int kind) {
        Check.sentence("IllegalArgumentException: the TAPE is not that (none may be told), or NERVE is none.");
        for (int bytes : new int[] {0, 1, 2, 39, 40, 41, 42, 400}) {
            boolean isTape = bytes % 2 == 0 && bytes <= 40;
            for (int nerve : EDGES) {
                Class<? extends RuntimeException> due = isTape && in(nerve, 1, 60) ? null : NOT_THAT;
                GhostAssize x = made(kind);
                Check.tape(x, Check.times(bytes, "\0", ""));
                due("found of " + nerve + " by " + bytes, x, due, y -> y.found(nerve, nerve > 5));
                Check.same("the tape is used up", x.end(1), false);
                Check.tape(x, Check.times(bytes, "\0", ""));
                due("ask of " + nerve + " by " + bytes, x, due, y -> y.ask(nerve));
                Check.same("the tape is used up", x.end(1), false);
            }
        }
    }

    private static void toldFirst() {
        Check.sentence("Of several exceptions the one told first is thrown;");
        GhostAssize x = made(2);
        Check.noOne("no prop, no what", () -> x.prop(8, 4));
        Check.noOne("nobody, no what", () -> x.accused(6, 4));
        Check.noOne("nobody, no tense", () -> x.fright(6, 0, 100, false));
        Check.noOne("no slot, no tense", () -> x.fright(0, 10, 100, false));
        Check.noOne("no prop, a slot with one", () -> x.nail(8, 0));
        Check.noOne("nailed already, no slot", () -> x.nail(0, 10));
        Check.noOne("nobody twice", () -> x.car(6, 6));
        for (int i = 2; i <= 12; i++) {
            Check.more(x, "");
        }
        Check.tape(x, "day");
        Check.notThat("a wrong text, and there are 12", () -> x.court());
        Check.same("its first wrong byte", x.fault(), 3);
        Check.tape(x, "day 5");
        Check.fails("a right text, and there are 12", TOO_MANY, () -> x.court());
    }

    /** Acts behind it, an image, a fault, twenty bytes on the tape. */
    private static GhostAssize rich() {
        GhostAssize x = Check.court("prop a jerk 5 at 0 worn 30;prop b jerk 7 worn 3;prop c jerk 9 at 4;accused nerve 60"
                + ";accused nerve 1 did a;accused nerve 9 did bc knows 1;accused nerve 5;day 5;calm 3;echo 4");
        Check.law(x, "fright 2 if tense>9;wear 3");
        x.seed(77);
        x.image();
        x.send(0);
        x.send(1);
        x.inside(3);
        Check.lawFault(x, "fright x", 7);
        x.feed(0x64617920, 0x37202020, 0x20202020, 0x20202020, 0x20202020);
        return x;
    }

    private static void leaves(String what, Class<? extends RuntimeException> due, boolean usesTape, Call call) {
        GhostAssize x = rich();
        String ahead = View.ofAll(x) + View.ofAnswers(x);
        Check.fails(what, due, () -> call.on(x));
        Check.same(what + " leaves all", View.ofAll(x) + View.ofAnswers(x), ahead);
        Check.tapeHas(what, x, usesTape ? 0 : 20);
        leavesPast(what, x);
        if (!usesTape) {
            Check.same(what + ": the tape is a text still", x.court(), 2);
            Check.same(what + ": its day", x.count(4), 7);
        }
    }

    /** The acts and the image are as they were ahead of the call, too. */
    private static void leavesPast(String what, GhostAssize x) {
        GhostAssize other = rich();
        for (int i = 0; i < 3; i++) {
            Check.same(what + ": undo", x.undo(), other.undo());
            Check.same(what + ": acts", x.count(14), other.count(14));
        }
        Check.same(what + ": no more acts", x.undo(), false);
        Check.same(what + ": ahead of all acts", View.ofCourt(x), View.ofCourt(other));
        x.calm(9);
        Check.same(what + ": back", x.back(), true);
        Check.same(what + ": as it was kept", x.count(5), 3);
    }

    private static void refusedCallsLeaveAll() {
        Check.sentence("a call that throws changes nothing but the TAPE, where it is used up.");
        leaves("prop", NO_ONE, false, x -> x.prop(3, 0));
        leaves("prop what", NO_SUCH, false, x -> x.prop(0, 4));
        leaves("slot", NO_ONE, false, x -> x.slot(10));
        leaves("accused", NO_ONE, false, x -> x.accused(4, 0));
        leaves("accused what", NO_SUCH, false, x -> x.accused(0, -1));
        leaves("fright one", NO_ONE, false, x -> x.fright(4, 0, 0, true));
        leaves("fright slot", NO_ONE, false, x -> x.fright(0, 10, 0, true));
        leaves("fright tense", NOT_THAT, false, x -> x.fright(0, 0, 100, true));
        leaves("send nobody", NO_ONE, false, x -> x.send(4));
        leaves("send held", CANNOT_BE, false, x -> x.send(0));
        leaves("send let go", CANNOT_BE, false, x -> x.send(1));
        leaves("send inside", CANNOT_BE, false, x -> x.send(3));
        leaves("nail no prop", NO_ONE, false, x -> x.nail(3, 9));
        leaves("nail no slot", NO_ONE, false, x -> x.nail(1, 10));
        leaves("nail nailed", CANNOT_BE, false, x -> x.nail(0, 9));
        leaves("nail upon one", CANNOT_BE, false, x -> x.nail(1, 4));
        leaves("down no slot", NO_ONE, false, x -> x.down(-1));
        leaves("down none", CANNOT_BE, false, x -> x.down(9));
        leaves("mend", NO_ONE, false, x -> x.mend(3));
        leaves("recall nobody", NO_ONE, false, x -> x.recall(4));
        leaves("recall waits", CANNOT_BE, false, x -> x.recall(2));
        leaves("recall let go", CANNOT_BE, false, x -> x.recall(1));
        leaves("recall inside", CANNOT_BE, false, x -> x.recall(3));
        leaves("inside nobody", NO_ONE, false, x -> x.inside(-1));
        leaves("inside held", CANNOT_BE, false, x -> x.inside(0));
        leaves("inside let go", CANNOT_BE, false, x -> x.inside(1));
        leaves("inside inside", CANNOT_BE, false, x -> x.inside(3));
        leaves("calm", NOT_THAT, false, x -> x.calm(10));
        leaves("mornings none", NOT_THAT, false, x -> x.mornings(0));
        leaves("mornings", NOT_THAT, false, x -> x.mornings(61));
        refusedQuestionsLeaveAll();
    }

    private static void refusedQuestionsLeaveAll() {
        leaves("straight", NO_ONE, false, x -> x.straight(4));
        leaves("tense one", NO_ONE, false, x -> x.tense(4, 0));
        leaves("tense slot", NO_ONE, false, x -> x.tense(0, 10));
        leaves("ways", NO_ONE, false, x -> x.ways(-1));
        leaves("at one", NO_ONE, false, x -> x.at(4, 0));
        leaves("at slot", NO_ONE, false, x -> x.at(0, -1));
        leaves("odds", NO_ONE, false, x -> x.odds(4));
        leaves("car nobody", NO_ONE, false, x -> x.car(0, 4));
        leaves("car one", NOT_THAT, false, x -> x.car(2, 2));
        leaves("corners", NO_ONE, false, x -> x.corners(4));
        leaves("usher", NO_ONE, false, x -> x.usher(4));
        leaves("lasts prop", NO_ONE, false, x -> x.lasts(3, 0));
        leaves("lasts one", NO_ONE, false, x -> x.lasts(0, 4));
        leaves("share prop", NO_ONE, false, x -> x.share(3, 0));
        leaves("share one", NO_ONE, false, x -> x.share(0, 4));
        leaves("trial", NOT_THAT, false, x -> x.trial(21));
        leaves("span", NOT_THAT, false, x -> x.span(-1, true));
        leaves("led", NO_ONE, false, x -> x.led(4, true));
        leaves("log", NO_SUCH, false, x -> x.log(0, 4));
        // «day 7» is twenty bytes whose first is no slot.
        leaves("found tape", NOT_THAT, true, x -> x.found(9, true));
        leaves("found nerve", NOT_THAT, true, x -> {
            x.end(0);
            x.found(0, true);
        });
        leaves("ask tape", NOT_THAT, true, x -> x.ask(9));
        leaves("ask nerve", NOT_THAT, true, x -> {
            x.end(0);
            x.ask(61);
        });
    }

    private static void refusedText(String what, int fault, Call call) {
        GhostAssize x = rich();
        String ahead = View.ofCourt(x) + x.count(14) + View.ofAnswers(x);
        Check.fails(what, NOT_THAT, () -> call.on(x));
        Check.same(what + ": its first wrong byte", x.fault(), fault);
        Check.same(what + " leaves all", View.ofCourt(x) + x.count(14) + View.ofAnswers(x), ahead);
        Check.tapeHas(what, x, 0);
        leavesPast(what, x);
    }

    private static void refusedTexts() {
        Check.sentence("a call that throws changes nothing but the TAPE, where it is used up.");
        refusedText("a text of the court that is one of the law", 0, x -> {
            Check.tape(x, "fright 5");
            x.court();
        });
        refusedText("a text of the court, wrong at its end", 53, x -> {
            Check.tape(x, "prop a jerk 1 at 1;accused nerve 5;calm 1;echo 1;day x");
            x.court();
        });
        refusedText("a text of the law that is one of the court", 0, x -> x.law());
        refusedText("a text of the law, wrong at its end", 19, x -> {
            Check.tape(x, "wear 30;ease 5 if 1");
            x.law();
        });
    }

    private static void refusedThirteenth() {
        Check.sentence("UnsupportedOperationException: there are 12.");
        GhostAssize x = Check.court("prop a jerk 1 at 0;accused nerve 60;accused nerve 2 did a");
        for (int i = 2; i <= 12; i++) {
            Check.more(x, "");
        }
        x.image();
        x.calm(7);
        x.send(0);
        String ahead = View.ofAll(x) + View.ofAnswers(x);
        Check.tape(x, "prop b jerk 1 at 1;accused nerve 1;accused nerve 2 did a;calm 1;echo 20;day 1");
        Check.fails("a 13th", TOO_MANY, () -> x.court());
        Check.same("it leaves all", View.ofAll(x) + View.ofAnswers(x), ahead);
        Check.tapeHas("it is used up", x, 0);
        Check.same("undo", x.undo() && x.undo(), true);
        Check.same("no more", x.undo(), false);
        Check.same("calm", x.count(5), 2);
        x.calm(9);
        Check.same("back", x.back(), true);
        Check.same("twelve", x.count(2), 12);
    }

    private static void nothingHappens() {
        Check.sentence("false, and nothing happens, if it has fewer, or n is below 0.");
        GhostAssize x = rich();
        String ahead = View.ofAll(x);
        Check.same("end(21)", x.end(21), false);
        Check.same("end(-1)", x.end(-1), false);
        for (int i = 1; i < 20; i++) {
            x.feed(0x20202020, 0x20202020, 0x20202020, 0x20202020, 0x20202020);
        }
        Check.sentence("NONE, and none come, if it would have more than 400.");
        Check.same("feed", x.feed(1, 2, 3, 4, 5), GhostAssize.NONE);
        Check.same("all is as it was", View.ofAll(x), ahead);
        Check.tapeHas("full", x, 400);
        leavesPast("feed", x);
        Check.same("the tape is a text", x.court(), 2);
        Check.same("day", x.count(4), 7);
    }
}
