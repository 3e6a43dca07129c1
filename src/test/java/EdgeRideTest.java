import java.util.function.IntConsumer;

/** Each sentence about FRIGHTS and WEARS, of "==== 2." and of promises 7 to 18 that names an edge. */
final class EdgeRideTest {
    private static final int NONE = GhostAssize.NONE;
    private static final String EIGHT = "prop a jerk 0 at 0;prop a jerk 0 at 1;prop a jerk 0 at 2;prop a jerk 0 at 3"
            + ";prop a jerk 0 at 4;prop a jerk 0 at 5;prop a jerk 0 at 6;prop a jerk 0 at 7";

    public static void main(String[] args) {
        tenthOfWorn();
        frightsNoLess();
        frightsMost();
        wears();
        frightSoTense();
        compared();
        knowsAndGuilty();
        asks();
        begins();
        calmed();
        aboveNerve();
        jolts();
        draws();
        comeTo();
        wornEach();
        wornMost();
        wornBehind();
        morningWorn();
        morningDay();
        morningsMany();
        logFull();
        logRow();
        nailed();
        takenDown();
        mended();
        recalled();
        gotInside();
        calmTold();
        Check.close();
    }

    private static void tenthOfWorn() {
        Check.sentence("FRIGHTS by: JERK less a tenth of WORN, rounded down,");
        int[] worn = {0, 1, 9, 10, 11, 19, 20, 21, 49, 50, 89, 90, 98, 99};
        int[] less = {0, 0, 0, 1, 1, 1, 2, 2, 4, 5, 8, 9, 9, 9};
        for (int i = 0; i < worn.length; i++) {
            GhostAssize x = Check.court("prop a jerk 20 at 0 worn " + worn[i] + ";accused nerve 1");
            Check.same("worn " + worn[i], x.fright(0, 0, 0, false), 20 - less[i]);
        }
    }

    private static void frightsNoLess() {
        Check.sentence("less that of all ease LINES (0 at least).");
        for (int jerk = 0; jerk <= 2; jerk++) {
            GhostAssize x = Check.court("prop a jerk " + jerk + " at 0 worn 10;accused nerve 1");
            Check.same("jerk " + jerk + " less 1", x.fright(0, 0, 0, false), Math.max(0, jerk - 1));
        }
        int[] ease = {4, 5, 6, 30};
        int[] due = {1, 0, 0, 0};
        for (int i = 0; i < ease.length; i++) {
            GhostAssize x = Check.law(Check.court("prop a jerk 5 at 0;accused nerve 1"), "ease " + ease[i]);
            Check.same("5 less " + ease[i], x.fright(0, 0, 0, false), due[i]);
            Check.same("the jolt alone is left", x.tense(0, 0), due[i] + 1);
            Check.law(x, "ease " + ease[i] + ";fright 1");
            Check.same("whichever line is told first", x.fright(0, 0, 0, false), Math.max(0, 6 - ease[i]));
        }
        GhostAssize y = Check.court("prop a jerk 0 at 0 worn 99;accused nerve 1");
        Check.law(y, Check.times(12, "ease 30", ";"));
        Check.same("the least of all", y.fright(0, 0, 0, false), 0);
    }

    private static void frightsMost() {
        Check.sentence("the sum of N of all fright LINES that hold,");
        GhostAssize x = Check.court("prop a jerk 20 at 0;accused nerve 60");
        Check.law(x, "fright 30 if 1<1");
        Check.same("none holds", x.fright(0, 0, 0, false), 20);
        Check.law(x, "fright 30 if 1<1;fright 29 if 0<1;fright 28 if 1>1;fright 1");
        Check.same("two hold", x.fright(0, 0, 0, false), 50);
        Check.law(x, Check.times(12, "fright 30", ";"));
        Check.same("twelve hold", x.fright(0, 0, 0, false), 380);
        Check.same("one is so tense", x.tense(0, 0), 381);
        x.send(0);
        Check.same("the log has it", x.log(0, 3), 382);
    }

    private static void wears() {
        Check.sentence("WEARS by: 1 and the sum of N of all wear LINES that hold (TENSE as it is ahead of the PROP).");
        GhostAssize x = Check.court("prop a jerk 20 at 0;accused nerve 60");
        Check.same("without a law", x.fright(0, 0, 0, true), 1);
        Check.law(x, "wear 0;fright 30;ease 30");
        Check.same("0", x.fright(0, 0, 0, true), 1);
        Check.law(x, "wear 1;wear 30 if 1<1");
        Check.same("1", x.fright(0, 0, 0, true), 2);
        Check.law(x, Check.times(12, "wear 30", ";"));
        Check.same("the most", x.fright(0, 0, 0, true), 361);
        // Tense 0 comes to slot 0; 21 comes to slot 1, and less by what the first is worn.
        GhostAssize y = Check.court("prop a jerk 20 at 0;prop b jerk 1 at 1;accused nerve 60");
        y.calm(0);
        Check.law(y, "wear 2 if tense<1;wear 4 if tense>10;wear 8 if tense>21");
        Check.same("17 rides of 3", y.lasts(0, 0), 17);
        Check.same("10 rides of 5", y.lasts(1, 0), 10);
        // At slot 0 it is just 0: neither below nor above.
        GhostAssize first = Check.court("prop a jerk 20 at 0;accused nerve 60");
        Check.law(first, "wear 2 if tense<0;wear 4 if 0<tense+1;wear 8 if tense>0");
        first.send(0);
        Check.same("tense 0 at slot 0", first.prop(0, 2), 5);
    }

    private static void frightSoTense() {
        Check.sentence("if one comes to it so TENSE (0 to 99); 0 without a PROP. IllegalArgumentException: so TENSE is none.");
        GhostAssize x = Check.court("prop a jerk 5 at 9;accused nerve 1");
        Check.law(x, "fright 1 if tense<1;fright 2 if tense>0;fright 4 if tense>98;fright 8 if tense<99;wear 3 if tense>98");
        Check.same("0", x.fright(0, 9, 0, false), 14);
        Check.same("1", x.fright(0, 9, 1, false), 15);
        Check.same("98", x.fright(0, 9, 98, false), 15);
        Check.same("99", x.fright(0, 9, 99, false), 11);
        Check.same("98 wears", x.fright(0, 9, 98, true), 1);
        Check.same("99 wears", x.fright(0, 9, 99, true), 4);
        Check.same("without a prop", x.fright(0, 8, 99, false), 0);
        Check.same("without a prop none wears", x.fright(0, 0, 0, true), 0);
        for (int tense : new int[] {-1, 100, Integer.MIN_VALUE, Integer.MAX_VALUE}) {
            Check.notThat("so tense " + tense, () -> x.fright(0, 9, tense, false));
            Check.notThat("so tense " + tense + " without a prop", () -> x.fright(0, 0, tense, true));
        }
    }

    private static void compared() {
        Check.sentence("SUM < SUM | SUM > SUM.");
        for (int tense = 9; tense <= 11; tense++) {
            GhostAssize x = Check.court("prop a jerk 0 at 0;accused nerve 1");
            Check.law(x, "fright 1 if tense<10;fright 2 if tense>10;fright 4 if 10<tense;fright 8 if 10>tense"
                    + ";fright 16 if not tense<10;fright 30 if not tense>10");
            int due = tense < 10 ? 1 + 8 + 30 : tense > 10 ? 2 + 4 + 16 : 16 + 30;
            Check.same("tense " + tense, x.fright(0, 0, tense, false), due);
        }
        // Each part at its least and at its greatest: prop 0 and 7, slot 0 and 9, jerk 0 and 20, worn 0 and 99.
        GhostAssize x = Check.court("prop a jerk 0 at 0;" + Check.times(6, "prop a jerk 1", ";")
                + ";prop a jerk 20 at 9 worn 99;accused nerve 1;accused nerve 60");
        Check.law(x, "wear 1 if prop+slot+jerk+worn<1;wear 2 if prop>6 and not prop>7;wear 4 if slot>8 and not slot>9"
                + ";wear 8 if jerk>19 and not jerk>20;wear 16 if worn>98 and not worn>99;wear 30 if nerve>59 and not nerve>60");
        Check.same("the least", x.fright(0, 0, 0, true), 2);
        Check.same("the greatest", x.fright(0, 9, 0, true), 31);
        Check.same("the greatest nerve", x.fright(1, 9, 0, true), 61);
        Check.law(x, "wear 1 if nerve<2;wear 2 if nerve<1;wear 4 if prop<0;wear 8 if tense<0");
        Check.same("nothing is below its least", x.fright(0, 0, 0, true), 2);
    }

    private static void knowsAndGuilty() {
        Check.sentence("knows: it is among those that one KNOWS; guilty: that one did its DEED.");
        GhostAssize x = Check.court("prop a jerk 1 at 0;" + Check.times(6, "prop b jerk 1", ";") + ";prop f jerk 1 at 9"
                + ";accused nerve 1 did a knows 0;accused nerve 1 did f knows 7;accused nerve 1 did bcde knows 1"
                + ";accused nerve 1 did abcdef");
        Check.law(x, "wear 10 if knows;wear 20 if guilty");
        int[][] due = {{31, 1}, {1, 31}, {1, 1}, {21, 21}};
        for (int one = 0; one < 4; one++) {
            Check.same("prop 0, one " + one, x.fright(one, 0, 0, true), due[one][0]);
            Check.same("prop 7, one " + one, x.fright(one, 9, 0, true), due[one][1]);
        }
    }

    /** What the promises 7 to 9 ask for: the first and the last of each, and one step beside them. */
    private static void asks() {
        GhostAssize x = Check.court("prop f jerk 20 at 9 worn 99;prop a jerk 0;accused nerve 60 did f knows 1;accused nerve 1");
        Check.sentence("Of a PROP what 0 its DEED, 1 JERK, 2 WORN, 3 its SLOT (NONE). NoSuchElementException: another what.");
        int[] prop = {5, 20, 99, 9, 0, 0, 0, NONE};
        for (int i = 0; i < 8; i++) {
            Check.same("prop " + i / 4 + " what " + i % 4, x.prop(i / 4, i % 4), prop[i]);
        }
        beside(4, what -> x.prop(0, what));
        Check.sentence("The PROP in a SLOT; NONE.");
        Check.same("slot 9", x.slot(9), 0);
        Check.same("slot 8", x.slot(8), NONE);
        Check.same("slot 0", x.slot(0), NONE);
        Check.noOne("slot 10", () -> x.slot(10));
        Check.noOne("slot -1", () -> x.slot(-1));
        Check.sentence("Of one what 0 DEEDS, as bits, 1 NERVE, 2 KNOWS, as bits, 3 the STATE. NoSuchElementException: another what.");
        int[] one = {32, 60, 2, 0, 0, 1, 0, 0};
        for (int i = 0; i < 8; i++) {
            Check.same("accused " + i / 4 + " what " + i % 4, x.accused(i / 4, i % 4), one[i]);
        }
        beside(4, what -> x.accused(1, what));
    }

    private static void beside(int many, IntConsumer asks) {
        for (int what : new int[] {-1, many, Integer.MIN_VALUE, Integer.MAX_VALUE}) {
            Check.noSuch("what " + what, () -> asks.accept(what));
        }
    }

    private static void begins() {
        Check.sentence("A RIDE of one ACCUSED: TENSE is 0;");
        GhostAssize x = Check.court("prop a jerk 0 at 0;prop b jerk 20 at 9;accused nerve 60");
        Check.law(x, "fright 5 if tense<1;fright 7 if tense>0");
        Check.same("0 at slot 0", x.tense(0, 0), 6);
        x.send(0);
        x.recall(0);
        x.send(0);
        Check.same("the next ride begins with 0, too", x.tense(0, 0), 6);
        Check.same("all alike", x.log(0, 3) / 20, x.log(1, 3) / 20);
    }

    private static void calmed() {
        Check.sentence("in a SLOT without a PROP CALM less (0 at least);");
        int[] behind = {5, 4, 3, 2, 1, 0, 0, 0, 0, 0};
        for (int calm = 0; calm <= 9; calm++) {
            GhostAssize x = Check.court("prop a jerk 4 at 4;prop b jerk 3 at 6;accused nerve 60;calm " + calm);
            Check.same("slots ahead of all props, calm " + calm, x.tense(0, 3), 0);
            Check.same("at the prop", x.tense(0, 4), 5);
            Check.same("behind it, calm " + calm, x.tense(0, 5), behind[calm]);
            Check.same("at the next", x.tense(0, 6), behind[calm] + 4);
            Check.same("at the end", x.tense(0, 9), Math.max(0, behind[calm] + 4 - 3 * calm));
        }
    }

    private static void aboveNerve() {
        Check.sentence("TENSE above NERVE: that one SCREAMS there, and the RIDE is over.");
        for (int nerve = 5; nerve <= 7; nerve++) {
            GhostAssize x = Check.court("prop a jerk 5 at 0;prop b jerk 20 at 9;accused nerve " + nerve);
            Check.same("tense 6, nerve " + nerve, x.straight(0), nerve < 6 ? 0 : 9);
        }
        Check.same("nerve 1, tense 1", Check.court("prop a jerk 0 at 5;accused nerve 1").straight(0), NONE);
        Check.same("nerve 1, tense 2", Check.court("prop a jerk 1 at 5;accused nerve 1").straight(0), 5);
        for (int jerk = 8; jerk <= 10; jerk++) {
            GhostAssize x = Check.court("prop a jerk " + jerk + " at 9;accused nerve 60");
            Check.law(x, "fright 30;fright 20");
            Check.same("nerve 60, tense " + (jerk + 51), x.straight(0), jerk > 9 ? 9 : NONE);
        }
        // By draws: seed 1 has the jolts 2 and 1.
        for (int nerve = 6; nerve <= 8; nerve++) {
            GhostAssize x = Check.court("prop a jerk 5 at 0;accused nerve " + nerve);
            Check.same("tense 7, nerve " + nerve, x.send(0), nerve < 7 ? 0 : NONE);
            Check.sentence("the STATE is 1 with a SCREAM, else 2;");
            Check.same("the state", x.accused(0, 3), nerve < 7 ? 1 : 2);
            Check.sentence("TENSE above NERVE: that one SCREAMS there, and the RIDE is over.");
        }
        GhostAssize y = Check.court("prop a jerk 5 at 0;prop b jerk 5 at 1;accused nerve 6");
        Check.same("over in slot 0", y.send(0), 0);
        Check.same("tense at the scream", y.log(0, 3), 7);
    }

    private static int drawn(int seed) {
        return (int) (1103515245L * seed + 12345L);
    }

    private static int jolt(int seed) {
        return (int) ((seed & 0xffffffffL) / 65536 % 32768 % 3);
    }

    private static void jolts() {
        Check.sentence("a JOLT (0, 1, 2)");
        boolean[] seen = new boolean[3];
        for (int seed = 0; seed < 12; seed++) {
            GhostAssize x = Check.court("prop a jerk 3 at 9;accused nerve 60");
            x.seed(seed);
            x.send(0);
            int jolt = x.log(0, 3) - 3;
            Check.same("from seed " + seed, jolt, jolt(drawn(seed)));
            seen[jolt] = true;
        }
        Check.same("each of them", seen[0] && seen[1] && seen[2], true);
        Check.sentence("each JOLT is DRAW modulo 3;");
        GhostAssize y = Check.court(EIGHT + ";accused nerve 60;calm 0");
        y.send(0);
        int seed = 1;
        int sum = 0;
        for (int i = 0; i < 8; i++) {
            seed = drawn(seed);
            sum += jolt(seed);
        }
        Check.same("eight of them", y.log(0, 3), sum);
        Check.same("eight draws", y.seed(1), seed);
        Check.sentence("STRAIGHT: with each JOLT 1.");
        Check.same("eight times 1", y.tense(0, 9), 8);
        Check.same("no draw", y.seed(1), 1);
    }

    private static void draws() {
        Check.sentence("SEED is 1103515245 times SEED and 12345, as an int that goes round; bits 16 to 30");
        int[] seeds = {0, 1, -1, 2, 32767, 32768, 65535, 65536, Integer.MAX_VALUE, Integer.MIN_VALUE, Integer.MAX_VALUE - 1,
            Integer.MIN_VALUE + 1, 1103515245, -1103515245, 12345, -12345};
        boolean below = false;
        for (int seed : seeds) {
            GhostAssize x = Check.court("prop a jerk 0 at 9;accused nerve 60");
            Check.same("told", x.seed(seed), 1);
            x.send(0);
            Check.same("jolt from " + seed, x.log(0, 3), jolt(drawn(seed)));
            Check.same("seed behind " + seed, x.seed(1), drawn(seed));
            below |= drawn(seed) < 0 && jolt(drawn(seed)) > 0;
        }
        Check.same("one of them went round below 0", below, true);
    }

    private static void comeTo() {
        Check.sentence("behind it the one who rode KNOWS all PROPS come to, too;");
        GhostAssize x = Check.court("prop a jerk 0 at 9;prop b jerk 20 at 5;prop c jerk 0 at 0;prop d jerk 0;accused nerve 19 knows 3"
                + ";accused nerve 60;accused nerve 1");
        x.send(0);
        Check.same("slots 0 and 5, the one of the scream; 3 still", x.accused(0, 2), 4 | 2 | 8);
        x.send(1);
        Check.same("all nailed ones", x.accused(1, 2), 7);
        Check.same("nobody else", x.accused(2, 2), 0);
        Check.sentence("each PROP come to is WORN more by what it WORE by");
        Check.same("behind the scream", x.prop(0, 2), 1);
        Check.same("of the scream", x.prop(1, 2), 2);
        Check.same("ahead of it", x.prop(2, 2), 2);
        Check.same("not nailed", x.prop(3, 2), 0);
    }

    /** Eight props, none in the slot of its own number: each is worn by its own law, the last two as all others. */
    private static void wornEach() {
        Check.sentence("each PROP come to is WORN more by what it WORE by");
        GhostAssize x = Check.court("prop a jerk 0 at 9;prop a jerk 0 at 8;prop a jerk 0 at 7;prop a jerk 0 at 6;prop a jerk 0 at 5"
                + ";prop a jerk 0 at 3;prop a jerk 0 at 1;prop a jerk 0 at 0;accused nerve 60");
        Check.law(x, "wear 10 if slot>7;wear 1 if slot<1;wear 3 if prop>5;wear 20 if prop<1");
        int[] due = {31, 11, 1, 1, 1, 1, 4, 5};
        for (int prop = 0; prop < 8; prop++) {
            Check.same("wears " + prop, x.fright(0, x.prop(prop, 3), 0, true), due[prop]);
        }
        x.send(0);
        for (int prop = 0; prop < 8; prop++) {
            Check.same("worn of " + prop, x.prop(prop, 2), due[prop]);
        }
        Check.same("knows all", x.accused(0, 2), 255);
        Check.same("rides till the first is worn 50", x.lasts(0, 0), 1);
        Check.same("rides till the last is worn 50", x.lasts(7, 0), 9);
    }

    private static void wornMost() {
        Check.sentence("(99 at most; told as it is come to, laid on behind the RIDE).");
        int[][] rows = {{97, 0, 98}, {98, 0, 99}, {99, 0, 99}, {67, 30, 98}, {68, 30, 99}, {69, 30, 99}, {0, 30, 31}};
        for (int[] row : rows) {
            GhostAssize x = Check.court("prop a jerk 0 at 3 worn " + row[0] + ";accused nerve 60");
            Check.law(x, "wear " + row[1]);
            x.send(0);
            Check.same("from " + row[0] + " by " + (row[1] + 1), x.prop(0, 2), row[2]);
        }
        GhostAssize y = Check.court("prop a jerk 0 at 3;accused nerve 60");
        Check.law(y, Check.times(12, "wear 30", ";"));
        y.send(0);
        Check.same("from 0 by 361", y.prop(0, 2), 99);
    }

    private static void wornBehind() {
        Check.sentence("(99 at most; told as it is come to, laid on behind the RIDE).");
        // As it is come to: not worn, not known, and so tense.
        GhostAssize x = Check.court("prop a jerk 4 at 0 worn 9;prop b jerk 4 at 1;accused nerve 60");
        Check.law(x, "wear 10 if worn>9;wear 20 if knows;wear 5 if tense>0;fright 30 if worn>9;fright 20 if knows");
        x.calm(0);
        x.send(0);
        Check.same("jerks of 4, jolts of 2 and 1", x.log(0, 3), 11);
        Check.same("the first, tense 0", x.prop(0, 2), 10);
        Check.same("the second, tense 6", x.prop(1, 2), 6);
        x.recall(0);
        Check.same("known now, and worn 10", x.fright(0, 0, 0, false), 3 + 30 + 20);
        Check.same("known now", x.fright(0, 1, 0, false), 24);
        Check.same("so it wears by 31", x.fright(0, 0, 0, true), 31);
        x.send(0);
        Check.same("31 more", x.prop(0, 2), 41);
    }

    private static void morningWorn() {
        Check.sentence("A MORNING: WORN of each PROP that is NAILED is 1 less (0 at least);");
        GhostAssize x = Check.court("prop a jerk 1 at 0;prop a jerk 1 at 1 worn 1;prop a jerk 1 at 2 worn 2;prop a jerk 1 worn 2"
                + ";prop a jerk 1 at 9 worn 99");
        Check.same("together", x.mornings(1), 0 + 0 + 1 + 98);
        int[] due = {0, 0, 1, 2, 98};
        for (int prop = 0; prop < 5; prop++) {
            Check.same("worn of " + prop, x.prop(prop, 2), due[prop]);
        }
        Check.same("together", x.mornings(2), 96);
        Check.same("0 at least", x.prop(2, 2), 0);
        Check.same("not nailed", x.prop(3, 2), 2);
        x.nail(3, 5);
        Check.same("nailed now", x.mornings(1), 1 + 95);
        x.down(9);
        Check.same("taken down now", x.mornings(1), 0);
        Check.same("it stays", x.prop(4, 2), 95);
    }

    private static void morningDay() {
        Check.sentence("DAY is 1 more (9999 at most).");
        GhostAssize x = Check.court("day 999");
        for (int i = 0; i < 149; i++) {
            x.mornings(60);
        }
        Check.same("day", x.count(4), 9939);
        x.mornings(58);
        Check.same("day", x.count(4), 9997);
        x.mornings(1);
        Check.same("day", x.count(4), 9998);
        x.mornings(1);
        Check.same("just the most", x.count(4), 9999);
        x.mornings(1);
        Check.same("no more", x.count(4), 9999);
        x.undo();
        x.undo();
        x.mornings(2);
        Check.same("one too many", x.count(4), 9999);
        x.undo();
        x.mornings(60);
        Check.same("sixty", x.count(4), 9999);
        Check.more(x, "accused nerve 1");
        x.send(0);
        Check.same("the log has it", x.log(0, 0), 9999);
        Check.more(x, "day 0");
        Check.same("a text may tell it anew", x.count(4), 0);
    }

    private static void morningsMany() {
        Check.sentence("So many MORNINGS (1 to 60): WORN of all NAILED PROPS together then. IllegalArgumentException: they are none.");
        int[][] rows = {{1, 98}, {2, 97}, {59, 40}, {60, 39}};
        for (int[] row : rows) {
            GhostAssize x = Check.court("prop a jerk 1 at 0 worn 99;prop b jerk 1 worn 99");
            Check.same("mornings " + row[0], x.mornings(row[0]), row[1]);
            Check.same("day", x.count(4), row[0]);
        }
        GhostAssize x = Check.court("prop a jerk 1 at 0 worn 99");
        for (int n : new int[] {0, 61, -1, Integer.MIN_VALUE, Integer.MAX_VALUE}) {
            Check.notThat("mornings " + n, () -> x.mornings(n));
        }
        Check.same("day", x.count(4), 0);
        Check.same("worn", x.prop(0, 2), 99);
        Check.same("no act", x.count(14), 0);
        Check.same("without props", new GhostAssize().mornings(60), 0);
    }

    private static void logFull() {
        Check.sentence("THE LOG: the latest 60 RIDES sent:");
        GhostAssize x = Check.court("prop a jerk 9 at 0;accused nerve 60;accused nerve 60");
        for (int i = 1; i <= 62; i++) {
            int one = i % 3 == 0 ? 1 : 0;
            x.send(one);
            x.recall(one);
            x.mornings(1);
            if (i == 1 || i >= 58) {
                Check.same("rows behind " + i, x.count(13), Math.min(60, i));
                Check.same("the latest behind " + i, x.log(0, 0), i - 1);
                Check.same("its one", x.log(0, 1), one);
                Check.same("the oldest behind " + i, x.log(Math.min(60, i) - 1, 0), Math.max(0, i - 60));
                Check.same("none older behind " + i, x.log(Math.min(60, i), 0), NONE);
                Check.same("rows of both behind " + i, x.led(0, false) + x.led(1, false), Math.min(60, i));
            }
        }
        Check.same("rides 3, 6, .. 60 but for those gone", x.led(1, false), 20);
        Check.same("none screamed", x.led(0, true) + x.led(1, true), 0);
        for (int i = 0; i < 3; i++) {
            Check.same("undo", x.undo(), true);
        }
        Check.same("undone: the latest", x.log(0, 0), 60);
        Check.same("undone: the oldest is there again", x.log(59, 0), 1);
        Check.same("undone: still full", x.count(13), 60);
    }

    private static void logRow() {
        Check.sentence("DAY, the one, the SLOT of the SCREAM (10 without), TENSE at the end.");
        GhostAssize x = Check.court("prop a jerk 3 at 0;prop b jerk 20 at 9;accused nerve 1;accused nerve 19;accused nerve 60");
        Check.same("a scream in slot 0", x.send(0), 0);
        Check.same("one in slot 9", x.send(1), 9);
        Check.same("none", x.send(2), NONE);
        int[] slots = {10, 9, 0};
        for (int ago = 0; ago < 3; ago++) {
            Check.same("day", x.log(ago, 0), 0);
            Check.same("the one", x.log(ago, 1), 2 - ago);
            Check.same("slot", x.log(ago, 2), slots[ago]);
        }
        // Jolts from seed 1: 2, then 1 and 0, then 1 and 1.
        Check.same("tense in slot 0", x.log(2, 3), 5);
        Check.same("tense in slot 9", x.log(1, 3), 20);
        Check.same("tense behind slot 9", x.log(0, 3), 21);
        Check.sentence("Sent: the SLOT of the SCREAM; NONE. IllegalStateException: that one does not wait.");
        Check.cannotBe("let go", () -> x.send(0));
        Check.cannotBe("held", () -> x.send(2));
        x.recall(2);
        x.inside(2);
        Check.cannotBe("inside", () -> x.send(2));
    }

    private static void nailed() {
        Check.sentence("Nailed. IllegalStateException: it is NAILED, or there is a PROP.");
        GhostAssize x = Check.court(Check.times(8, "prop a jerk 1", ";"));
        x.nail(0, 9);
        x.nail(7, 0);
        Check.cannotBe("it is nailed", () -> x.nail(0, 8));
        Check.cannotBe("there is a prop", () -> x.nail(1, 9));
        Check.cannotBe("there is the prop 7", () -> x.nail(1, 0));
        Check.cannotBe("both", () -> x.nail(0, 0));
        Check.cannotBe("itself", () -> x.nail(0, 9));
        for (int prop = 1; prop < 7; prop++) {
            x.nail(prop, prop);
        }
        Check.same("eight in ten slots", x.count(7), 1023 - 128 - 256);
        Check.same("the first", x.prop(0, 3), 9);
        Check.same("the last", x.prop(7, 3), 0);
        Check.noOne("prop 8", () -> x.nail(8, 8));
        Check.noOne("prop -1", () -> x.nail(-1, 8));
        Check.noOne("slot 10", () -> x.nail(0, 10));
        Check.noOne("slot -1", () -> x.nail(0, -1));
    }

    private static void takenDown() {
        Check.sentence("Taken down: the PROP. IllegalStateException: there is none.");
        GhostAssize x = Check.court("prop a jerk 1 at 0;prop b jerk 1 at 9;prop c jerk 1");
        Check.cannotBe("none in 1", () -> x.down(1));
        Check.cannotBe("none in 8", () -> x.down(8));
        Check.same("the prop 0", x.down(0), 0);
        Check.cannotBe("none any more", () -> x.down(0));
        Check.same("the prop 1", x.down(9), 1);
        Check.same("no slot has one", x.count(7), 0);
        Check.same("three still are", x.count(0), 3);
        Check.noOne("slot 10", () -> x.down(10));
        Check.noOne("slot -1", () -> x.down(-1));
    }

    private static void mended() {
        Check.sentence("Mended: WORN that it was.");
        GhostAssize x = Check.court("prop a jerk 1 at 0 worn 99;prop b jerk 1 worn 1;prop c jerk 1");
        Check.same("99", x.mend(0), 99);
        Check.same("1, not nailed", x.mend(1), 1);
        Check.same("0", x.mend(2), 0);
        Check.same("none is worn", x.count(12), 0);
        Check.same("again", x.mend(0), 0);
        Check.same("four acts", x.count(14), 4);
        Check.noOne("prop 3", () -> x.mend(3));
        Check.noOne("prop -1", () -> x.mend(-1));
    }

    private static void recalled() {
        Check.sentence("One who is held waits again. IllegalStateException: that one is not held.");
        GhostAssize x = Check.court("prop a jerk 5 at 0;accused nerve 60;accused nerve 1;accused nerve 60");
        Check.cannotBe("waits", () -> x.recall(0));
        x.send(0);
        x.send(1);
        x.inside(2);
        Check.cannotBe("let go", () -> x.recall(1));
        Check.cannotBe("inside", () -> x.recall(2));
        x.recall(0);
        Check.same("waits again", x.count(8), 1);
        Check.cannotBe("waits already", () -> x.recall(0));
        x.send(0);
        x.recall(0);
        Check.same("as often as one is held", x.count(8), 1);
        Check.same("the log stays", x.count(13), 3);
    }

    private static void gotInside() {
        Check.sentence("One who waits gets off inside: how many work there then. IllegalStateException: that one does not wait.");
        GhostAssize x = Check.court("prop a jerk 5 at 0;" + Check.times(6, "accused nerve 60", ";"));
        for (int one = 5; one >= 0; one--) {
            Check.same("inside " + one, x.inside(one), 6 - one);
        }
        Check.same("all", x.count(11), 63);
        Check.same("nobody waits", x.count(8), 0);
        Check.cannotBe("is inside", () -> x.inside(0));
        GhostAssize y = Check.court("prop a jerk 5 at 0;accused nerve 60;accused nerve 1;accused nerve 5");
        y.send(0);
        y.send(1);
        Check.cannotBe("held", () -> y.inside(0));
        Check.cannotBe("let go", () -> y.inside(1));
        y.recall(0);
        Check.same("waits again", y.inside(0), 1);
    }

    private static void calmTold() {
        Check.sentence("CALM is told: what it was. IllegalArgumentException: it is none.");
        GhostAssize x = new GhostAssize();
        Check.same("0", x.calm(0), 2);
        Check.same("1", x.calm(1), 0);
        Check.same("8", x.calm(8), 1);
        Check.same("9", x.calm(9), 8);
        for (int n : new int[] {-1, 10, Integer.MIN_VALUE, Integer.MAX_VALUE}) {
            Check.notThat("calm " + n, () -> x.calm(n));
        }
        Check.same("as it was", x.count(5), 9);
        Check.same("four acts", x.count(14), 4);
    }
}
