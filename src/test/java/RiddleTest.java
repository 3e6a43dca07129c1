/** Promises 28 to 31: somebody unknown, what to ask next, two in a car, quiet corners. */
final class RiddleTest {
    private static final int NONE = GhostAssize.NONE;

    public static void main(String[] args) {
        promise28Found();
        promise28FoundByTense();
        promise29Ask();
        promise28And29Wrong();
        promise30Car();
        promise31Corners();
        Check.close();
    }

    private static void found(GhostAssize x, int nerve, String told, int many, int sure) {
        Check.tape(x, told);
        Check.same("found by " + told.length() + " bytes", x.found(nerve, false), many);
        Check.same("the tape is used up", x.end(1), false);
        Check.tape(x, told);
        Check.same("sure by " + told.length() + " bytes", x.found(nerve, true), sure);
        Check.same("the tape is used up", x.end(1), false);
    }

    private static void promise28Found() {
        GhostAssize x = Check.court("prop a jerk 5 at 0;prop b jerk 5 at 1;prop a jerk 1 at 2;accused nerve 3 did f knows 0");
        found(x, 10, "", 64, 0);
        found(x, 10, "\0\5", 64, 0);
        found(x, 10, "\0\7", 0, 0);
        Check.law(x, "fright 2 if guilty;ease 9 if knows");
        found(x, 10, "\0\7", 32, 1);
        found(x, 10, "\0\7\1\5", 16, 1);
        found(x, 10, "\0\7\1\7", 16, 3);
        found(x, 10, "\0\5\1\5", 16, 0);
        found(x, 10, "\0\7\2\1", 0, 0);
        found(x, 10, "\0\7\0\5", 0, 0);
        found(x, 10, "\0\7\0\7\0\7\0\7\0\7\0\7\0\7\0\7\0\7\0\7\0\7\0\7\0\7\0\7\0\7\0\7\0\7\0\7\0\7\2\3", 32, 1);
        found(x, 10, "\5\0", 64, 0);
        found(x, 10, "\5\1", 0, 0);
        found(x, 1, "\0\7\2\3", 32, 1);
        Check.law(x, "fright 2 if nerve > 30");
        found(x, 30, "\0\5", 64, 0);
        found(x, 31, "\0\5", 0, 0);
        found(x, 60, "\0\7", 64, 0);
        GhostAssize y = Check.court("prop f jerk 0 at 9;prop e jerk 0 at 8;prop d jerk 0 at 7;prop c jerk 0 at 6"
                + ";prop b jerk 0 at 5;prop a jerk 0 at 4");
        Check.law(y, "fright 1 if guilty");
        found(y, 1, "\4\1\5\1\6\1\7\1\10\1\11\1", 1, 63);
        found(y, 1, "\4\0\5\0\6\0\7\0\10\0\11\0", 1, 0);
        found(y, 1, "\4\1\11\1", 16, 33);
        found(y, 1, "\5\0\6\0\7\0\10\0\11\0", 2, 0);
    }

    private static void promise28FoundByTense() {
        // The ride goes on with jolts of 1, whatever tense is: 8 behind slot 0 for those who did a, else 6.
        GhostAssize x = Check.court("prop a jerk 5 at 0;prop b jerk 5 at 1;prop c jerk 0 at 9;calm 0");
        Check.law(x, "fright 2 if guilty and slot < 1;fright 3 if tense > 6 and slot < 2;fright 7 if tense > 16 and slot > 8");
        found(x, 1, "\1\10", 32, 1);
        found(x, 1, "\1\5", 32, 0);
        found(x, 1, "\11\7", 32, 1);
        found(x, 1, "\11\0", 32, 0);
        // A fright above 255 is told by no byte.
        Check.law(x, "fright 30;fright 30;fright 30;fright 30;fright 30;fright 30;fright 30;fright 30;fright 30;fright 30");
        found(x, 9, "\0" + (char) (305 & 255), 0, 0);
        found(x, 9, "", 64, 0);
    }

    private static void ask(GhostAssize x, int nerve, String told, int want) {
        Check.tape(x, told);
        Check.same("ask by " + told.length() + " bytes", x.ask(nerve), want);
        Check.same("the tape is used up", x.end(1), false);
    }

    private static void promise29Ask() {
        GhostAssize x = Check.court("prop a jerk 5 at 0;prop b jerk 5 at 1;prop a jerk 1 at 2");
        ask(x, 10, "", 0);
        Check.law(x, "fright 2 if guilty");
        ask(x, 10, "", 0);
        ask(x, 10, "\0\7", 1);
        ask(x, 10, "\1\7", 0);
        ask(x, 10, "\0\7\1\5", 0);
        ask(x, 10, "\0\6", NONE);
        // Slot 3 parts by a and b together: 14, 16, 18 or 20 is how tense one comes there.
        Check.more(x, "prop c jerk 0 at 3;calm 0");
        Check.law(x, "fright 2 if guilty and prop < 1;fright 4 if guilty and prop > 0 and prop < 2"
                + ";fright 1 if prop > 2 and tense > 14;fright 1 if prop > 2 and tense > 16;fright 1 if prop > 2 and tense > 18");
        ask(x, 10, "", 3);
        GhostAssize y = Check.court("prop a jerk 0 at 0;prop b jerk 0 at 1;prop c jerk 0 at 2;prop d jerk 0 at 3"
                + ";prop e jerk 0 at 4;prop f jerk 0 at 5");
        Check.law(y, "fright 1 if guilty");
        ask(y, 1, "\0\1\1\1\2\1\3\1\4\1\5\1", NONE);
        ask(y, 1, "\0\1\1\1\2\1\3\1\5\1", 4);
        ask(y, 1, "\1\0\2\0\3\0\4\0\5\0", 0);
        ask(Check.court("prop a jerk 5"), 1, "", NONE);
        // The set without deeds counts in its part: it and that of a alone are parted by the last slot only.
        GhostAssize w = Check.court("prop a jerk 0 at 9;prop b jerk 0 at 0;prop c jerk 0 at 1;prop d jerk 0 at 2"
                + ";prop e jerk 0 at 3;prop f jerk 0 at 4");
        Check.law(w, "fright 1 if guilty");
        ask(w, 1, "\0\0\1\0\2\0\3\0\4\0", 9);
        // The greatest fright that can be: 380 for all in slot 0, 350 or 380 in slot 1.
        GhostAssize z = Check.court("prop a jerk 20 at 0;prop b jerk 20 at 1");
        Check.law(z, "fright 30;fright 30;fright 30;fright 30;fright 30;fright 30;fright 30;fright 30;fright 30;fright 30"
                + ";fright 30;fright 30 if guilty or slot<1");
        ask(z, 1, "", 1);
    }

    private static void promise28And29Wrong() {
        GhostAssize x = Check.court("prop a jerk 5 at 0");
        String[] tapes = {"\0", "\12\0", "\377\0", "\0\0\0", "\0\0\12\1",
            "\0\0\0\0\0\0\0\0\0\0\0\0\0\0\0\0\0\0\0\0\0\0\0\0\0\0\0\0\0\0\0\0\0\0\0\0\0\0\0\0\0\0"};
        for (String told : tapes) {
            Check.tape(x, told);
            Check.notThat("found by " + told.length(), () -> x.found(9, false));
            Check.same("the tape is used up", x.end(1), false);
            Check.tape(x, told);
            Check.notThat("ask by " + told.length(), () -> x.ask(9));
            Check.same("the tape is used up", x.end(1), false);
        }
        for (int nerve : new int[] {0, 61, -1, Integer.MIN_VALUE}) {
            Check.tape(x, "\0\5");
            Check.notThat("found of nerve " + nerve, () -> x.found(nerve, true));
            Check.same("the tape is used up", x.end(1), false);
            Check.tape(x, "\0\5");
            Check.notThat("ask of nerve " + nerve, () -> x.ask(nerve));
            Check.same("the tape is used up", x.end(1), false);
        }
        Check.same("nerve 60", x.found(60, false), 64);
        Check.same("nerve 1", x.found(1, false), 64);
    }

    private static void promise30Car() {
        GhostAssize x = Check.court("prop a jerk 10 at 0;prop b jerk 10 at 1;accused nerve 5;accused nerve 20;accused nerve 60"
                + ";accused nerve 31;accused nerve 10;accused nerve 32");
        Check.same("an echo above its nerve", x.car(0, 1), 3);
        Check.same("an echo that is not", x.car(0, 2), 1);
        Check.same("the bits are of places", x.car(2, 0), 2);
        Check.same("an echo that stays", x.car(0, 3), 3);
        Check.same("an echo that stays, just its nerve", x.car(0, 5), 1);
        Check.same("both at once", x.car(0, 4), 3);
        Check.same("a scream behind", x.car(1, 5), 1);
        Check.same("none", x.car(2, 3), 0);
        // Both at once give no echo; one who screamed hears none.
        Check.more(x, "echo 0");
        Check.same("no echo", x.car(0, 1), 3);
        Check.same("no echo", x.car(0, 3), 1);
        Check.same("no echo", x.car(4, 5), 1);
        Check.notThat("both are one", () -> x.car(2, 2));
        Check.noOne("nobody", () -> x.car(6, 6));
        Check.noOne("nobody", () -> x.car(0, 6));
        Check.noOne("nobody", () -> x.car(-1, 0));
        Check.same("nothing wears", x.count(12), 0);
        GhostAssize y = Check.court("prop a jerk 5 at 0;accused nerve 6;accused nerve 6;accused nerve 60;accused nerve 5;echo 1");
        Check.same("the first one hears the other one", y.car(0, 3), 3);
        Check.same("the other one hears the first one", y.car(3, 0), 3);
        // Jolts from seed 2 are 2, 2: a car has none of them behind a ride by draws.
        y.seed(2);
        y.send(2);
        Check.same("straight", y.car(0, 1), 0);
        y.end(0);
        y.found(9, false);
        Check.same("not on behind a scream", y.car(3, 2), 1);
    }

    private static void promise31Corners() {
        GhostAssize x = Check.court("prop a jerk 6 at 1;prop b jerk 9 at 4;accused nerve 14;accused nerve 1;accused nerve 9"
                + ";accused nerve 15;calm 2");
        // Tense behind the slots: 0, 7, 5, 3, 13, 11, 9, 7, 5, 3. The half of 14 and of 15 is 7.
        Check.same("half at least", x.corners(0), 32 | 64 | 128);
        Check.same("half of it, rounded down", x.corners(3), 32 | 64 | 128);
        Check.same("half of 1 is 0", x.corners(1), 1);
        Check.same("not behind the scream", x.corners(2), 4);
        Check.noOne("nobody", () -> x.corners(4));
        Check.noOne("nobody", () -> x.corners(-1));
    }
}
