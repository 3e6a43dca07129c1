/** Promises 11 to 18: acts. Draws from seed 1 are 16838, 5758, 10113, 17515, 31051, 5627: jolts 2, 1, 0, 1, 1, 2. */
final class ActTest {
    private static final int NONE = GhostAssize.NONE;

    public static void main(String[] args) {
        promise11Send();
        promise11SendWearsAndKnows();
        promise11SendWrong();
        promise12Nail();
        promise13Down();
        promise14Mend();
        promise15Recall();
        promise16Inside();
        promise17Calm();
        promise18Mornings();
        Check.close();
    }

    private static void row(GhostAssize x, int day, int one, int slot, int tense) {
        Check.same("day", x.log(0, 0), day);
        Check.same("one", x.log(0, 1), one);
        Check.same("slot", x.log(0, 2), slot);
        Check.same("tense", x.log(0, 3), tense);
    }

    private static void promise11Send() {
        GhostAssize x = Check.court("prop a jerk 5 at 0;prop b jerk 5 at 9;prop c jerk 5;accused nerve 60;accused nerve 5"
                + ";accused nerve 6;day 31");
        Check.same("send 0", x.send(0), NONE);
        row(x, 31, 0, 10, 6);
        Check.same("held", x.accused(0, 3), 2);
        Check.same("knows", x.accused(0, 2), 3);
        Check.same("send 1: not above its nerve in slot 0", x.send(1), 9);
        row(x, 31, 1, 9, 6);
        Check.same("let go", x.accused(1, 3), 1);
        Check.same("send 2", x.send(2), 9);
        row(x, 31, 2, 9, 7);
        Check.same("worn", x.prop(0, 2), 3);
        Check.same("worn", x.prop(1, 2), 3);
        Check.same("worn, not nailed", x.prop(2, 2), 0);
        Check.same("rows", x.count(13), 3);
        // A scream ends the ride: what is behind it is not come to, and nothing is drawn for it.
        GhostAssize y = Check.court("prop a jerk 5 at 0;prop b jerk 5 at 1;accused nerve 1");
        Check.same("send", y.send(0), 0);
        row(y, 0, 0, 0, 7);
        Check.same("knows the one of the scream", y.accused(0, 2), 1);
        Check.same("worn", y.prop(0, 2), 1);
        Check.same("not come to", y.prop(1, 2), 0);
        Check.same("one draw", y.seed(1), 1103527590);
        // Without props there is nothing to draw.
        GhostAssize z = Check.court("accused nerve 1");
        Check.same("send", z.send(0), NONE);
        row(z, 0, 0, 10, 0);
        Check.same("no draw", z.seed(1), 1);
        // A seed below 0 goes round: -1 times 1103515245 and 12345 has bits 16 to 30 of 15928, modulo 3 is 1.
        GhostAssize v = Check.court("prop a jerk 0 at 4;accused nerve 60");
        v.calm(0);
        v.seed(-1);
        v.send(0);
        int drawn = -1 * 1103515245 + 12345;
        Check.same("tense", v.log(0, 3), (drawn >>> 16 & 0x7fff) % 3);
        Check.same("seed", v.seed(1), drawn);
    }

    private static void promise11SendWearsAndKnows() {
        GhostAssize x = Check.court("prop a jerk 5 at 0 worn 80;prop b jerk 5 at 1;accused nerve 60 knows 1");
        Check.law(x, "wear 30 if slot < 1;wear 9 if tense > 0;ease 5 if knows");
        x.send(0);
        // At slot 0: 5 less 8 is 0, and a jolt of 2. At slot 1 tense 2, known: 5 less 5, and a jolt of 1.
        Check.same("tense behind slot 1 calmed 8 times", x.log(0, 3), 0);
        Check.same("worn 99 at most", x.prop(0, 2), 99);
        Check.same("worn by tense ahead of it", x.prop(1, 2), 10);
        Check.same("knows, too", x.accused(0, 2), 3);
        GhostAssize z = Check.court("prop a jerk 5 at 0;prop b jerk 0 at 1;accused nerve 60");
        Check.law(z, "wear 5 if tense < 1");
        z.send(0);
        Check.same("tense 0 ahead of the first", z.prop(0, 2), 6);
        Check.same("not ahead of the next", z.prop(1, 2), 1);
        GhostAssize y = Check.court("prop a jerk 20 at 9;accused nerve 60");
        Check.law(y, "ease 20 if knows;wear 10");
        y.send(0);
        Check.same("the first time", y.log(0, 3), 22);
        y.recall(0);
        y.send(0);
        Check.same("known now, and worn 11", y.log(0, 3), 1);
        Check.same("worn", y.prop(0, 2), 22);
    }

    private static void promise11SendWrong() {
        GhostAssize x = Check.court("prop a jerk 20 at 0;accused nerve 1;accused nerve 60;accused nerve 3");
        Check.noOne("send -1", () -> x.send(-1));
        Check.noOne("send 3", () -> x.send(3));
        x.send(0);
        x.send(1);
        x.inside(2);
        Check.cannotBe("let go", () -> x.send(0));
        Check.cannotBe("held", () -> x.send(1));
        Check.cannotBe("inside", () -> x.send(2));
        Check.same("nothing is logged", x.count(13), 2);
        Check.same("nothing is remembered", x.count(14), 3);
    }

    private static void promise12Nail() {
        GhostAssize x = Check.court("prop a jerk 1 at 0;prop b jerk 1;prop c jerk 1");
        x.nail(2, 9);
        Check.same("slot", x.slot(9), 2);
        Check.same("prop", x.prop(2, 3), 9);
        Check.noOne("no prop", () -> x.nail(3, 0));
        Check.noOne("no prop", () -> x.nail(-1, 5));
        Check.noOne("no slot", () -> x.nail(1, 10));
        Check.noOne("no slot, and nailed", () -> x.nail(0, -1));
        Check.cannotBe("nailed", () -> x.nail(0, 5));
        Check.cannotBe("nailed there", () -> x.nail(0, 0));
        Check.cannotBe("there is a prop", () -> x.nail(1, 9));
        Check.cannotBe("there is the prop 0", () -> x.nail(1, 0));
        Check.same("one act", x.count(14), 1);
        Check.same("it stays", x.prop(1, 3), NONE);
        x.nail(1, 1);
        Check.same("slots", x.count(7), 515);
    }

    private static void promise13Down() {
        GhostAssize x = Check.court("prop a jerk 1 at 0 worn 7;prop b jerk 1 at 3");
        Check.same("down", x.down(3), 1);
        Check.same("slot", x.slot(3), NONE);
        Check.same("prop", x.prop(1, 3), NONE);
        Check.same("down", x.down(0), 0);
        Check.same("worn stays", x.prop(0, 2), 7);
        Check.cannotBe("none", () -> x.down(0));
        Check.cannotBe("none", () -> x.down(9));
        Check.noOne("no slot", () -> x.down(10));
        Check.noOne("no slot", () -> x.down(-1));
        x.nail(0, 3);
        Check.same("nailed again", x.slot(3), 0);
        Check.same("acts", x.count(14), 3);
    }

    private static void promise14Mend() {
        GhostAssize x = Check.court("prop a jerk 1 at 0 worn 7;prop b jerk 1 worn 99");
        Check.same("mend", x.mend(0), 7);
        Check.same("mend one not nailed", x.mend(1), 99);
        Check.same("worn", x.prop(0, 2), 0);
        Check.same("worn", x.prop(1, 2), 0);
        Check.same("mend again", x.mend(1), 0);
        Check.same("acts", x.count(14), 3);
        Check.noOne("no prop", () -> x.mend(2));
        Check.noOne("no prop", () -> x.mend(-1));
    }

    private static void promise15Recall() {
        GhostAssize x = Check.court("prop a jerk 20 at 0;accused nerve 1;accused nerve 60;accused nerve 3");
        Check.cannotBe("waits", () -> x.recall(1));
        x.send(0);
        x.send(1);
        x.inside(2);
        x.recall(1);
        Check.same("waits again", x.accused(1, 3), 0);
        Check.same("knows still", x.accused(1, 2), 1);
        Check.cannotBe("let go", () -> x.recall(0));
        Check.cannotBe("inside", () -> x.recall(2));
        Check.cannotBe("waits", () -> x.recall(1));
        Check.noOne("nobody", () -> x.recall(3));
        Check.noOne("nobody", () -> x.recall(-1));
        Check.same("acts", x.count(14), 4);
    }

    private static void promise16Inside() {
        GhostAssize x = Check.court("accused nerve 1;accused nerve 60;accused nerve 3");
        Check.same("inside", x.inside(2), 1);
        Check.same("inside", x.inside(0), 2);
        Check.same("state", x.accused(0, 3), 3);
        Check.cannotBe("is there", () -> x.inside(0));
        x.send(1);
        Check.cannotBe("held", () -> x.inside(1));
        Check.noOne("nobody", () -> x.inside(3));
        Check.noOne("nobody", () -> x.inside(Integer.MIN_VALUE));
        Check.same("states", x.count(11), 5);
    }

    private static void promise17Calm() {
        GhostAssize x = new GhostAssize();
        Check.same("calm", x.calm(0), 2);
        Check.same("calm", x.calm(9), 0);
        Check.same("the same is an act, too", x.calm(9), 9);
        Check.notThat("calm 10", () -> x.calm(10));
        Check.notThat("calm -1", () -> x.calm(-1));
        Check.same("calm stays", x.count(5), 9);
        Check.same("acts", x.count(14), 3);
    }

    private static void promise18Mornings() {
        GhostAssize x = Check.court("prop a jerk 1 at 0 worn 5;prop b jerk 1 at 3 worn 50;prop c jerk 1 worn 40");
        Check.same("mornings", x.mornings(10), 40);
        Check.same("0 at least", x.prop(0, 2), 0);
        Check.same("each is 1 less", x.prop(1, 2), 40);
        Check.same("not nailed", x.prop(2, 2), 40);
        Check.same("day", x.count(4), 10);
        Check.same("one morning", x.mornings(1), 39);
        Check.same("mornings", x.mornings(60), 0);
        Check.same("day", x.count(4), 71);
        Check.same("acts", x.count(14), 3);
        Check.notThat("none", () -> x.mornings(0));
        Check.notThat("61", () -> x.mornings(61));
        Check.notThat("-1", () -> x.mornings(-1));
        Check.more(x, "day 999");
        for (int i = 0; i < 150; i++) {
            x.mornings(60);
        }
        Check.same("day", x.count(4), 9999);
        x.mornings(60);
        Check.same("9999 at most", x.count(4), 9999);
    }
}
