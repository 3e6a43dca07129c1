/** Each sentence of "==== 3." about promises 32 to 43 that names an edge: the edge itself, and one step on either side. */
final class EdgePlanTest {
    private static final int NONE = GhostAssize.NONE;
    private static final String EIGHT_OF_20 = "prop a jerk 20 at 0;prop a jerk 20 at 1;prop a jerk 20 at 2;prop a jerk 20 at 3"
            + ";prop a jerk 20 at 4;prop a jerk 20 at 5;prop a jerk 20 at 6;prop a jerk 20 at 7";

    public static void main(String[] args) {
        coverShown();
        coverLeast();
        leaveNone();
        leaveFewest();
        leaveLeast();
        bravest();
        alike();
        usherFew();
        usherAll();
        usherTurns();
        lastsEnds();
        lastsSixty();
        lastsGoesOn();
        allAndQueue();
        shareNone();
        shareRounded();
        loudestNone();
        loudestLeast();
        trialMany();
        trialAsNow();
        spanSeeds();
        led();
        Check.close();
    }

    private static void coverShown() {
        Check.sentence("each DEED of one who waits that some PROP shows is shown by one of them:");
        Check.same("nobody", new GhostAssize().cover(), 0);
        Check.same("without props", Check.court("accused nerve 1 did abcdef").cover(), 0);
        Check.same("without deeds", Check.court("prop a jerk 1;accused nerve 1").cover(), 0);
        Check.same("without accused", Check.court("prop a jerk 1").cover(), 0);
        Check.same("one that no prop shows", Check.court("prop a jerk 1;prop c jerk 1;accused nerve 1 did b").cover(), 0);
        Check.same("the first and the last deed", Check.court("prop f jerk 1;prop a jerk 1;accused nerve 1 did af").cover(), 3);
        GhostAssize x = Check.court("prop a jerk 1 at 0;prop b jerk 1;accused nerve 1 did b;accused nerve 1 did a");
        Check.same("nailed or not", x.cover(), 3);
        x.inside(0);
        Check.same("who waits alone", x.cover(), 1);
        x.inside(1);
        Check.same("nobody waits", x.cover(), 0);
    }

    private static void coverLeast() {
        Check.sentence("COVER: the fewest PROPS so that each DEED");
        GhostAssize x = Check.court("prop a jerk 1;prop a jerk 1;prop b jerk 1;prop b jerk 1;prop c jerk 1;prop c jerk 1;prop d jerk 1"
                + ";prop e jerk 1;accused nerve 1 did abcdef");
        Check.sentence("of several sets the least as bits. LEAVE:");
        Check.same("of several sets the least", x.cover(), 1 | 4 | 16 | 64 | 128);
        GhostAssize y = Check.court("prop f jerk 1;prop e jerk 1;prop d jerk 1;prop c jerk 1;prop b jerk 1;prop a jerk 1;prop a jerk 1"
                + ";prop f jerk 1;accused nerve 1 did f;accused nerve 1 did abcde");
        Check.same("one of each of six", y.cover(), 63);
        GhostAssize z = Check.court(Check.times(7, "prop b jerk 1", ";") + ";prop a jerk 1;accused nerve 1 did a");
        Check.same("the last prop alone", z.cover(), 128);
    }

    private static void leaveNone() {
        Check.sentence("LEAVE: the fewest PROPS to be taken down so that none who waits and is not INNOCENT SCREAMS STRAIGHT:");
        Check.same("nobody", new GhostAssize().leave(), 0);
        Check.same("only innocent ones", Check.court(EIGHT_OF_20 + ";accused nerve 1").leave(), 0);
        Check.same("none is nailed", Check.court("prop a jerk 20;accused nerve 1 did a").leave(), 0);
        Check.same("just its nerve", Check.court("prop a jerk 19 at 0;accused nerve 20 did a").leave(), 0);
        Check.same("one above it", Check.court("prop a jerk 20 at 0;accused nerve 20 did a").leave(), 1);
        GhostAssize x = Check.court("prop a jerk 20 at 0;accused nerve 1 did f;accused nerve 1 did f");
        x.inside(0);
        Check.same("one still waits", x.leave(), 1);
        x.inside(1);
        Check.same("nobody waits", x.leave(), 0);
        Check.same("it is nailed still", x.count(7), 1);
    }

    private static void leaveFewest() {
        Check.sentence("LEAVE: the fewest PROPS to be taken down so that none who waits and is not INNOCENT SCREAMS STRAIGHT:");
        Check.same("all eight", Check.court(EIGHT_OF_20 + ";accused nerve 1 did a").leave(), 255);
        Check.same("all but the one of 0", Check.court(EIGHT_OF_20.replace("jerk 20 at 3", "jerk 0 at 3")
                + ";accused nerve 1 did a").leave(), 255 - 8);
        // 5 behind slot 0, 6 behind slot 1: only the one between them makes room for calm.
        GhostAssize x = Check.court("prop a jerk 4 at 0;prop a jerk 0 at 1;prop a jerk 4 at 2;accused nerve 5 did a;calm 9");
        Check.same("a slot left empty calms", x.leave(), 2);
        // The great one alone is fewer than the two small ones, though greater as bits.
        GhostAssize y = Check.court("prop a jerk 5 at 0;prop b jerk 5 at 1;prop c jerk 12 at 2;accused nerve 13 did a;calm 0");
        Check.same("one, not two", y.leave(), 4);
        GhostAssize z = Check.court("prop a jerk 5 at 0;prop b jerk 5 at 1;accused nerve 6 did a;accused nerve 5 did b");
        Check.same("both of two must be quiet", z.leave(), 3);
    }

    private static void leaveLeast() {
        Check.sentence("of several sets the least as bits. BRAVEST:");
        GhostAssize x = Check.court(EIGHT_OF_20.replace("jerk 20", "jerk 5") + ";accused nerve 42 did a;calm 0");
        // Eight times 6 are 48: 42 without any one.
        Check.same("any one: the least", x.leave(), 1);
        Check.more(x, "accused nerve 41 did a");
        Check.same("any two: the least", x.leave(), 3);
        x.inside(1);
        x.down(0);
        Check.same("seven are 42", x.leave(), 0);
        Check.law(x, "fright 1 if slot>6");
        Check.same("43: any one of those that are nailed", x.leave(), 2);
    }

    private static void bravest() {
        Check.sentence("BRAVEST: who waits and has the least ODDS (of several the least; none).");
        Check.same("nobody", new GhostAssize().bravest(), NONE);
        GhostAssize x = Check.court("prop a jerk 6 at 0;accused nerve 5;accused nerve 6;accused nerve 7;accused nerve 7;accused nerve 8"
                + ";accused nerve 9");
        int[] due = {4, 5, 2, 3, 1, 0};
        for (int one : due) {
            Check.same("the least", x.bravest(), one);
            x.inside(one);
        }
        Check.sentence("BRAVEST; NONE.");
        Check.same("nobody waits", x.bravest(), NONE);
        x.undo();
        Check.same("one waits", x.bravest(), 0);
        Check.same("all alike", Check.court("accused nerve 1;accused nerve 60").bravest(), 0);
        Check.same("0, 10000 and 3333", Check.court("prop a jerk 6 at 0;accused nerve 8;accused nerve 5;accused nerve 7").bravest(), 0);
        Check.same("10000, 3333 and 6666", Check.court("prop a jerk 6 at 0;accused nerve 5;accused nerve 7;accused nerve 6").bravest(), 1);
        Check.same("one who always screams", Check.court("prop a jerk 20 at 0;accused nerve 1").bravest(), 0);
    }

    private static void alike() {
        Check.sentence("ALIKE: pairs of ACCUSED with the same DEEDS and NERVE: how many.");
        int[] due = {0, 0, 1, 3, 6, 10, 15};
        for (int many = 0; many <= 6; many++) {
            Check.same(many + " alike", Check.court(Check.times(many, "accused nerve 7 did ab", ";")).alike(), due[many]);
        }
        Check.same("nerve 6, 7, 8", Check.court("accused nerve 6;accused nerve 7;accused nerve 8").alike(), 0);
        Check.same("deeds", Check.court("accused nerve 6;accused nerve 6 did a;accused nerve 6 did b;accused nerve 6 did ab").alike(), 0);
        Check.same("deeds as bits", Check.court("accused nerve 6 did abc;accused nerve 6 did cab").alike(), 1);
        Check.same("without deeds", Check.court("prop a jerk 1;accused nerve 6;accused nerve 6 knows 0").alike(), 1);
    }

    private static void usherFew() {
        Check.sentence("USHER: a RIDE of one: an usher takes one NAILED PROP down, or none;"
                + " the accused eases at one NAILED PROP (its FRIGHT is 0 there), or at none, unseen:");
        Check.same("without props", Check.court("accused nerve 1").usher(0), 1);
        Check.same("none is nailed", Check.court("prop a jerk 20;accused nerve 1").usher(0), 1);
        Check.same("one, never a scream", Check.court("prop a jerk 19 at 0;accused nerve 20").usher(0), 4);
        // With it neither taken nor eased there is a scream: eased it is safe, whatever the usher does.
        Check.same("one, a scream", Check.court("prop a jerk 20 at 0;accused nerve 20").usher(0), 2);
        Check.same("two, of them one nailed", Check.court("prop a jerk 20;prop a jerk 20 at 9;accused nerve 20").usher(0), 2);
    }

    private static void usherAll() {
        Check.sentence("in how many pairs of choices neither would have it by another one of its own (who has it already would not turn).");
        Check.same("eight, always a scream", Check.court(EIGHT_OF_20 + ";accused nerve 1").usher(0), 81);
        Check.same("eight, never a scream", Check.court(EIGHT_OF_20.replace("jerk 20", "jerk 0") + ";accused nerve 8").usher(0), 81);
        // Jolts alone, 8 in all: with none taken down a scream, whatever is eased; else none.
        Check.same("eight, none taken", Check.court(EIGHT_OF_20.replace("jerk 20", "jerk 0") + ";accused nerve 7").usher(0), 9);
        Check.same("two, none taken", Check.court("prop a jerk 0 at 0;prop a jerk 0 at 1;accused nerve 1").usher(0), 3);
    }

    private static void usherTurns() {
        Check.sentence("the usher has it, if there is a SCREAM STRAIGHT, the accused, if not:");
        // Taken down, the first one leaves tense 0 for the second, which then frights: a scream unless that one is eased.
        GhostAssize x = Check.court("prop a jerk 5 at 0;prop b jerk 0 at 1;accused nerve 10");
        Check.law(x, "fright 20 if tense<1 and prop>0");
        Check.same("eased at the second: three that the usher cannot better", x.usher(0), 3);
        // Of three the last two are nailed: both together are above the nerve, each one alone is not.
        GhostAssize v = Check.court("prop a jerk 20;prop a jerk 9 at 0;prop b jerk 9 at 1;accused nerve 19");
        Check.same("eased at the one or at the other one", v.usher(0), 6);
        // Either one alone is above the nerve: quiet only if the one is taken down and the other one eased.
        GhostAssize y = Check.court("prop a jerk 8 at 0;prop b jerk 8 at 9;accused nerve 8;calm 9");
        Check.same("none taken: a scream always", y.usher(0), 3);
        GhostAssize z = Check.court("prop a jerk 8 at 0;prop b jerk 0 at 1;accused nerve 8");
        Check.law(z, "fright 8 if prop>0 and tense>0");
        // With none taken 9 screams; eased at the first 1 and 10 scream; eased at the second 9 screams.
        Check.same("none taken: a scream always", z.usher(0), 3);
    }

    private static void lastsEnds() {
        Check.sentence("till it is WORN 50 at least; none.");
        int[] worn = {0, 1, 48, 49, 50, 51, 99};
        int[] due = {50, 49, 2, 1, 0, 0, 0};
        for (int i = 0; i < worn.length; i++) {
            GhostAssize x = Check.court("prop a jerk 0 at 9 worn " + worn[i] + ";accused nerve 60");
            Check.same("from " + worn[i], x.lasts(0, 0), due[i]);
        }
        Check.sentence("LASTS; NONE.");
        Check.same("not nailed, 50", Check.court("prop a jerk 0 worn 50;accused nerve 1").lasts(0, 0), 0);
        Check.same("not nailed, 49", Check.court("prop a jerk 0 worn 49;accused nerve 1").lasts(0, 0), NONE);
        GhostAssize y = Check.court("prop a jerk 20 at 0;prop b jerk 0 at 1 worn 49;accused nerve 1");
        Check.same("never come to", y.lasts(1, 0), NONE);
        Check.same("come to, and screamed at", y.lasts(0, 0), 50);
        Check.law(y, "wear 30");
        Check.same("31 and 31", y.lasts(0, 0), 2);
        Check.law(y, "wear 30;wear 18");
        Check.same("49 and 49", y.lasts(0, 0), 2);
        Check.law(y, "wear 30;wear 19");
        Check.same("just 50", y.lasts(0, 0), 1);
    }

    private static void lastsSixty() {
        Check.sentence("WORN and KNOWS going on; 0 to 60)");
        // The first makes one scream till it is worn 10, by ten rides; from the eleventh on the second is come to.
        for (int worn = 0; worn <= 2; worn++) {
            GhostAssize x = Check.court("prop a jerk 2 at 0;prop b jerk 0 at 1 worn " + worn + ";accused nerve 2");
            Check.same("ten and " + (50 - worn), x.lasts(1, 0), 60 - worn);
            Check.law(x, "fright 1 if prop<1 and worn<11");
            Check.same("eleven and " + (50 - worn), x.lasts(1, 0), worn == 0 ? NONE : 61 - worn);
            Check.law(x, "fright 1 if prop<1 and worn<12");
            Check.same("twelve and " + (50 - worn), x.lasts(1, 0), worn < 2 ? NONE : 60);
        }
    }

    private static void lastsGoesOn() {
        Check.sentence("LASTS of a PROP: how many RIDES of one ACCUSED (STRAIGHT, one behind another,");
        GhostAssize x = Check.court("prop a jerk 0 at 0;accused nerve 60;accused nerve 60 knows 0");
        Check.law(x, "wear 9 if knows");
        Check.same("1, 11, 21, 31, 41, 51", x.lasts(0, 0), 6);
        Check.same("10, 20, 30, 40, 50", x.lasts(0, 1), 5);
        Check.law(x, "wear 9 if worn>1");
        Check.same("1, 2, 12, 22, 32, 42, 52", x.lasts(0, 0), 7);
        x.inside(0);
        Check.same("whoever it is", x.lasts(0, 0), 7);
        Check.same("nothing stays", x.prop(0, 2) + x.accused(0, 2), 0);
    }

    private static void allAndQueue() {
        Check.sentence("ALL: who of those who wait SCREAMS STRAIGHT, as things are now, as bits.");
        Check.same("nobody", new GhostAssize().all(false), 0);
        GhostAssize six = Check.court("prop a jerk 9 at 0;" + Check.times(6, "accused nerve 9", ";"));
        Check.same("six", six.all(false), 63);
        six.inside(0);
        six.inside(5);
        Check.same("four wait", six.all(false), 30);
        Check.same("just its nerve", Check.court("prop a jerk 8 at 0;accused nerve 9").all(false), 0);
        Check.sentence("QUEUE: all who wait are sent STRAIGHT one behind another by numbers (WORN going on): who SCREAMS, as bits.");
        Check.same("nobody", new GhostAssize().all(true), 0);
        // Worn 8, 9, 10: a tenth more from the third on.
        GhostAssize x = Check.court("prop a jerk 9 at 0 worn 8;" + Check.times(6, "accused nerve 9", ";"));
        Check.same("the first two", x.all(true), 3);
        x.inside(0);
        Check.same("the first two who wait", x.all(true), 6);
        x.mend(0);
        Check.same("all who wait", x.all(true), 62);
        Check.same("nothing stays", x.prop(0, 2) + x.accused(1, 2) + x.count(13), 0);
        // One who screams ahead of a prop does not wear it.
        GhostAssize y = Check.court("prop a jerk 9 at 0;prop b jerk 5 at 9 worn 9;accused nerve 9;accused nerve 11 did a"
                + ";accused nerve 11;accused nerve 5");
        y.calm(0);
        y.down(0);
        Check.same("6, 5, 5, 5", y.all(true), 0);
        Check.same("6, 6, 6, 6", y.all(false), 8);
        // Worn 99 at most in a queue, too.
        GhostAssize z = Check.court("prop a jerk 10 at 0 worn 99;accused nerve 1;accused nerve 1;accused nerve 1");
        Check.law(z, "wear 30");
        Check.same("10 less 9, and a jolt", z.all(true), 7);
    }

    private static void shareNone() {
        Check.sentence("rounded down (0, if it is not come to, or all are 0).");
        GhostAssize x = Check.court("prop a jerk 5 at 0;prop b jerk 5 at 9;prop c jerk 5;accused nerve 60;accused nerve 5");
        Check.same("the one", x.share(0, 0), 50);
        Check.same("the other one", x.share(1, 0), 50);
        Check.same("not nailed", x.share(2, 0), 0);
        Check.same("screamed at, so come to", x.share(0, 1), 100);
        Check.same("behind the scream", x.share(1, 1), 0);
        Check.law(x, "ease 5");
        Check.same("all are 0", x.share(0, 0) + x.share(1, 0) + x.share(0, 1), 0);
        Check.law(x, "ease 5 if slot<9");
        Check.same("one is 0", x.share(0, 0), 0);
        Check.same("the other one is all", x.share(1, 0), 100);
    }

    private static void shareRounded() {
        Check.sentence("SHARE of a PROP: by how much it frights one STRAIGHT in hundredths of all PROPS come to, rounded down");
        int[][] rows = {{1, 2, 33, 66}, {1, 7, 12, 87}, {1, 19, 5, 95}, {2, 4, 33, 66}, {19, 20, 48, 51}, {0, 20, 0, 100}};
        for (int[] row : rows) {
            GhostAssize x = Check.court("prop a jerk " + row[0] + " at 0;prop b jerk " + row[1] + " at 1;accused nerve 60");
            Check.same(row[0] + " of both", x.share(0, 0), row[2]);
            Check.same(row[1] + " of both", x.share(1, 0), row[3]);
        }
        GhostAssize y = Check.court("prop a jerk 1 at 0;prop b jerk 9 at 9;accused nerve 60");
        Check.law(y, Check.times(3, "fright 30 if slot>8", ";"));
        Check.same("just one hundredth", y.share(0, 0), 1);
        Check.same("99", y.share(1, 0), 99);
        Check.law(y, Check.times(3, "fright 30 if slot>8", ";") + ";fright 1 if slot>8");
        Check.same("1 of 101", y.share(0, 0), 0);
        Check.same("100 of 101", y.share(1, 0), 99);
    }

    private static void loudestNone() {
        Check.sentence("(of several the least; none without).");
        Check.same("nobody", new GhostAssize().loudest(), NONE);
        Check.same("without props", Check.court("accused nerve 1").loudest(), NONE);
        Check.same("none is nailed", Check.court("prop a jerk 20;accused nerve 1").loudest(), NONE);
        Check.same("without accused", Check.court("prop a jerk 20 at 0").loudest(), NONE);
        Check.same("no way", Check.court("prop a jerk 5 at 0;accused nerve 7").loudest(), NONE);
        GhostAssize x = Check.court("prop a jerk 5 at 0;accused nerve 6");
        Check.same("one way of three", x.loudest(), 0);
        x.inside(0);
        Check.sentence("LOUDEST; NONE.");
        Check.same("nobody waits", x.loudest(), NONE);
        x.undo();
        Check.same("one waits again", x.loudest(), 0);
        GhostAssize y = Check.court("prop a jerk 0 at 9;prop a jerk 0 at 1;prop a jerk 0 at 2;prop a jerk 0 at 3;prop a jerk 0 at 4"
                + ";prop a jerk 0 at 5;prop a jerk 0 at 6;prop a jerk 0 at 7;accused nerve 15;calm 0");
        Check.same("one way of 6561", y.loudest(), 0);
        Check.more(y, "accused nerve 16");
        y.inside(0);
        Check.same("none of 6561", y.loudest(), NONE);
    }

    private static void loudestLeast() {
        Check.sentence("LOUDEST: the NAILED PROP at which the most WAYS of all who wait together end in a SCREAM");
        GhostAssize x = Check.court("prop a jerk 0 at 1;prop b jerk 0 at 0;accused nerve 1");
        Check.same("3 and 3: the least prop, not the least slot", x.loudest(), 0);
        // Nerve 6: ways 3 in slot 0 (a jolt of 2), and all 6 others in slot 1. Nerve 4: all 9 in slot 0.
        GhostAssize y = Check.court("prop a jerk 5 at 0;prop b jerk 5 at 1;accused nerve 6");
        Check.same("3 to 6", y.loudest(), 1);
        Check.more(y, "accused nerve 4");
        Check.same("3 and 9 to 6", y.loudest(), 0);
        Check.more(y, "accused nerve 6;accused nerve 6");
        Check.same("9 and 9 to 18: the least", y.loudest(), 0);
        Check.more(y, "accused nerve 6");
        Check.same("12 and 9 to 24", y.loudest(), 1);
        // The most that can be: 6 times 6561 at one.
        GhostAssize z = Check.court(EIGHT_OF_20.replace("jerk 20 at 0", "jerk 0 at 8") + ";"
                + Check.times(6, "accused nerve 1", ";"));
        Check.same("all at slot 1", z.loudest(), 1);
    }

    private static void trialMany() {
        Check.sentence("TRIAL of all who wait, N times (0 to 20) by draws,");
        GhostAssize x = Check.court("prop a jerk 20 at 0;accused nerve 1;accused nerve 1;accused nerve 60");
        Check.same("0 times", x.trial(0), 0);
        Check.same("once", x.trial(1), 2);
        Check.same("19 times", x.trial(19), 38);
        Check.same("20 times", x.trial(20), 40);
        Check.same("span of 0", x.span(0, true) + x.span(0, false), 0);
        Check.same("span of 20", x.span(20, false), 40);
        Check.sentence("TRIAL. IllegalArgumentException: N is none.");
        for (int n : new int[] {-1, 21, Integer.MIN_VALUE, Integer.MAX_VALUE}) {
            Check.notThat("trial " + n, () -> x.trial(n));
        }
        Check.sentence("SPAN: the fewest (most false), or the most. IllegalArgumentException: N is none.");
        for (int n : new int[] {-1, 21, Integer.MIN_VALUE, Integer.MAX_VALUE}) {
            Check.notThat("span " + n, () -> x.span(n, true));
            Check.notThat("span " + n, () -> x.span(n, false));
        }
        x.inside(0);
        x.inside(1);
        Check.same("who waits does not scream", x.trial(20), 0);
        x.inside(2);
        Check.same("nobody waits", x.trial(20), 0);
        Check.same("nobody waits", x.span(20, true), 0);
        GhostAssize y = Check.court("prop a jerk 20 at 0;" + Check.times(6, "accused nerve 1", ";"));
        Check.same("the most that can be", y.trial(20), 120);
        Check.same("the most that can be", y.span(20, true), 120);
    }

    private static void trialAsNow() {
        Check.sentence("as things are now (WORN, KNOWS, STATE as now in each; nothing stays): how many SCREAMS.");
        GhostAssize x = Check.court("prop a jerk 6 at 0 worn 9;accused nerve 5;accused nerve 5;accused nerve 5 did a;day 3");
        Check.law(x, "wear 30;ease 6 if knows");
        x.seed(-77);
        x.calm(4);
        String ahead = View.ofAll(x);
        Check.same("each time all three", x.trial(20), 60);
        Check.same("each time all three", x.span(20, false), 60);
        Check.same("nothing stays", View.ofAll(x), ahead);
        // The draws go on from one ride to the next, from SEED: jolts of 2 1 0 1 1 2 0 0 0 0 1 2.
        GhostAssize y = Check.court("prop a jerk 5 at 0;accused nerve 6");
        int[] due = {0, 1, 1, 1, 1, 1, 2};
        for (int n = 0; n < due.length; n++) {
            Check.same("jolts of 2 among " + n, y.trial(n), due[n]);
        }
    }

    private static void spanSeeds() {
        Check.sentence("SPAN: the fewest and the most such from SEED 1, 2, .. 6.");
        GhostAssize x = Check.court("prop a jerk 5 at 0;prop b jerk 3 at 4;accused nerve 6;accused nerve 5 did a");
        for (int n = 0; n <= 20; n++) {
            int fewest = Integer.MAX_VALUE;
            int most = Integer.MIN_VALUE;
            for (int seed = 1; seed <= 6; seed++) {
                x.seed(seed);
                int screams = x.trial(n);
                fewest = Math.min(fewest, screams);
                most = Math.max(most, screams);
            }
            x.seed(99);
            Check.same("the fewest of " + n, x.span(n, false), fewest);
            Check.same("the most of " + n, x.span(n, true), most);
            Check.same("the seed stays", x.seed(99), 99);
        }
        // First jolts from seeds 0 to 7: only what 1 to 6 have counts.
        for (int first = 0; first <= 7; first++) {
            GhostAssize y = Check.court("prop a jerk 5 at 0;accused nerve 6");
            y.seed(first);
            boolean isTwo = y.trial(1) == 1;
            Check.same("seed " + first + " is known", isTwo, drawnJolt(first) == 2);
        }
    }

    private static int drawnJolt(int seed) {
        int next = 1103515245 * seed + 12345;
        return (next >>> 16 & 0x7fff) % 3;
    }

    private static void led() {
        Check.sentence("LED: how many rows of THE LOG are of one; how many of these with a SCREAM.");
        GhostAssize x = Check.court("prop a jerk 9 at 0;prop b jerk 20 at 9;accused nerve 1;accused nerve 17;accused nerve 60");
        Check.same("none yet", x.led(0, false) + x.led(0, true), 0);
        x.send(0);
        x.send(1);
        for (int i = 0; i < 58; i++) {
            x.send(2);
            x.recall(2);
        }
        Check.same("sixty rows", x.count(13), 60);
        Check.same("a scream in slot 0", x.led(0, true), 1);
        Check.same("one in slot 9", x.led(1, true), 1);
        Check.same("58", x.led(2, false), 58);
        Check.same("none with a scream", x.led(2, true), 0);
        x.send(2);
        Check.same("the oldest gave way", x.led(0, false) + x.led(0, true), 0);
        Check.same("59", x.led(2, false), 59);
        x.recall(2);
        x.send(2);
        Check.same("all of one", x.led(2, false), 60);
        Check.same("the other one gave way", x.led(1, true), 0);
        Check.noOne("nobody", () -> x.led(3, false));
        Check.noOne("nobody", () -> x.led(-1, true));
    }
}
