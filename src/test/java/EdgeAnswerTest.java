/** Each sentence of "==== 3." about promises 19 to 31 that names an edge: the edge itself, and one step on either side. */
final class EdgeAnswerTest {
    private static final int NONE = GhostAssize.NONE;
    private static final String SEVEN_MORE = ";prop a jerk 0 at 1;prop a jerk 0 at 2;prop a jerk 0 at 3;prop a jerk 0 at 4"
            + ";prop a jerk 0 at 5;prop a jerk 0 at 6;prop a jerk 0 at 7";

    public static void main(String[] args) {
        straight();
        tense();
        waysNone();
        waysMost();
        waysNotComeTo();
        waysAt();
        odds();
        gap();
        errors();
        swapNone();
        swapLeast();
        nextNone();
        nextLeast();
        foundNerve();
        foundTape();
        foundSets();
        foundWithoutProp();
        foundGoesOn();
        askNone();
        askLeast();
        carEcho();
        carTwo();
        cornersHalf();
        cornersComeTo();
        Check.close();
    }

    private static void straight() {
        Check.sentence("STRAIGHT: the SLOT in which one SCREAMS on a STRAIGHT RIDE; none.");
        Check.same("without props", Check.court("accused nerve 1").straight(0), NONE);
        Check.same("none is nailed", Check.court("prop a jerk 20;accused nerve 1").straight(0), NONE);
        Check.same("slot 0", Check.court("prop a jerk 20 at 0;accused nerve 1").straight(0), 0);
        Check.same("slot 9", Check.court("prop a jerk 20 at 9;accused nerve 1").straight(0), 9);
        Check.same("the first one", Check.court("prop a jerk 20 at 9;prop a jerk 20 at 8;accused nerve 1").straight(0), 8);
        Check.sentence("STRAIGHT; NONE.");
        Check.same("just its nerve", Check.court("prop a jerk 19 at 9;accused nerve 20").straight(0), NONE);
        Check.same("one above it", Check.court("prop a jerk 20 at 9;accused nerve 20").straight(0), 9);
    }

    private static void tense() {
        Check.sentence("TENSE STRAIGHT of one behind a SLOT; none, if one SCREAMED in a SLOT ahead of it.");
        for (int slot = 0; slot < 10; slot++) {
            GhostAssize x = Check.court("prop a jerk 20 at " + slot + ";accused nerve 20;accused nerve 21");
            x.calm(0);
            for (int behind = 0; behind < 10; behind++) {
                int due = behind < slot ? 0 : 21;
                Check.same("a scream in " + slot + ", behind " + behind, x.tense(0, behind), behind > slot ? NONE : due);
                Check.same("no scream in " + slot + ", behind " + behind, x.tense(1, behind), due);
            }
        }
        Check.sentence("TENSE STRAIGHT; NONE.");
        GhostAssize y = Check.court("accused nerve 1;prop a jerk 1 at 8");
        Check.same("ahead of the prop", y.tense(0, 7), 0);
        Check.same("at the scream", y.tense(0, 8), 2);
        Check.same("behind it", y.tense(0, 9), NONE);
        Check.same("without props", Check.court("accused nerve 1").tense(0, 9), 0);
        Check.noOne("slot 10", () -> y.tense(0, 10));
        Check.noOne("slot -1", () -> y.tense(0, -1));
    }

    private static void waysNone() {
        Check.sentence("of 3 to the power of how many PROPS are NAILED rows of JOLTS");
        GhostAssize x = Check.court("prop a jerk 20;accused nerve 1");
        Check.same("none nailed: one row, no scream", x.ways(0), 0);
        Check.same("no odds", x.odds(0), 0);
        int rows = 1;
        for (int many = 1; many <= 8; many++) {
            rows *= 3;
            StringBuilder s = new StringBuilder("accused nerve 1");
            for (int prop = 0; prop < many; prop++) {
                s.append(";prop a jerk 20 at ").append(9 - prop);
            }
            GhostAssize y = Check.court(s.toString());
            Check.same("all rows of " + many, y.ways(0), rows);
            Check.same("all odds of " + many, y.odds(0), 10000);
            Check.same("all in the first slot of " + many, y.at(0, 10 - many), rows);
            Check.same("none in the one ahead of it", many == 8 ? y.at(0, 1) : y.at(0, 9 - many), 0);
        }
    }

    private static void waysMost() {
        Check.sentence("WAYS of one: of 3 to the power of how many PROPS are NAILED rows");
        // Eight jolts: 16 at most, in one row; 15 in eight rows.
        int[] nerves = {14, 15, 16, 17};
        int[] due = {9, 1, 0, 0};
        for (int i = 0; i < nerves.length; i++) {
            GhostAssize x = Check.court("prop a jerk 0 at 0" + SEVEN_MORE + ";accused nerve " + nerves[i]);
            Check.same("nerve " + nerves[i], x.ways(0), due[i]);
        }
        // All but the row of eight jolts 0; and all but that and the eight with one jolt of 1.
        Check.same("6560", Check.court("prop a jerk 1 at 0" + SEVEN_MORE + ";accused nerve 1").ways(0), 6560);
        Check.same("6552", Check.court("prop a jerk 0 at 0" + SEVEN_MORE + ";accused nerve 1").ways(0), 6552);
        // A nerve of 60, and tense 58, 59, 60, 61: by jolts 0 and 1 and 2.
        for (int jerk = 7; jerk <= 11; jerk++) {
            GhostAssize x = Check.court("prop a jerk " + jerk + " at 0;accused nerve 60");
            Check.law(x, "fright 30;fright 21");
            Check.same("from " + (51 + jerk) + " on", x.ways(0), Math.max(0, Math.min(3, jerk - 7)));
        }
        // Just 60 behind the first, the second, the third prop by jolts of 0 alone, and a row of 0 behind them.
        String[] courts = {"prop a jerk 20 at 0", "prop a jerk 10 at 0;prop a jerk 10 at 1",
            "prop a jerk 0 at 0;prop a jerk 0 at 1;prop a jerk 20 at 2"};
        String[] laws = {"fright 30;fright 10", "fright 20", "fright 20 if slot<2"};
        int[] ends = {2, 8, 26};
        for (int i = 0; i < 3; i++) {
            GhostAssize x = Check.law(Check.court(courts[i] + ";accused nerve 60;accused nerve 59"), laws[i]);
            Check.same("all rows but one", x.ways(0), ends[i]);
            Check.same("all rows", x.ways(1), ends[i] + 1);
            Check.more(x, "prop a jerk 0 at 9;calm 0");
            Check.law(x, laws[i].contains("if") ? laws[i] : laws[i].replace(";", " if slot<9;") + " if slot<9");
            Check.same("all rows but one, and one prop more", x.ways(0), 3 * ends[i] + 2);
        }
    }

    private static void waysNotComeTo() {
        Check.sentence("(those that are not come to, too)");
        GhostAssize x = Check.court("prop a jerk 20 at 0;prop b jerk 20 at 1;prop c jerk 20 at 2;accused nerve 21;accused nerve 20");
        Check.same("a jolt of 2: 9 rows", x.at(0, 0), 9);
        Check.same("the others in slot 1", x.at(0, 1), 18);
        Check.same("none in slot 2", x.at(0, 2), 0);
        Check.same("all", x.ways(0), 27);
        Check.same("jolts of 1 and 2", x.at(1, 0), 18);
        x.down(2);
        Check.same("fewer rows", x.at(1, 0), 6);
    }

    private static void waysAt() {
        Check.sentence("in how many one SCREAMS; just in a told SLOT.");
        GhostAssize x = Check.court("prop a jerk 3 at 0;prop b jerk 3 at 4;prop c jerk 3 at 9;accused nerve 8;calm 1");
        int sum = 0;
        for (int slot = 0; slot < 10; slot++) {
            int ways = x.at(0, slot);
            Check.same("no prop, no scream in " + slot, ways > 0 && x.slot(slot) < 0, false);
            sum += ways;
        }
        Check.same("all slots together", sum, x.ways(0));
        Check.noOne("slot 10", () -> x.at(0, 10));
        Check.noOne("slot -1", () -> x.at(0, -1));
        // Behind slot 0: 3, 4, 5; at slot 4: 0, 1, 2 and 3 to 5, so 3 to 7; at slot 9: 0 to 3 and 3 to 5: 8 at most.
        Check.same("8 is not above 8", sum, 0);
        Check.more(x, "accused nerve 7");
        Check.same("just one row", x.at(1, 9), 1);
        Check.same("none in slot 4", x.at(1, 4), 0);
    }

    private static void odds() {
        Check.sentence("ODDS: WAYS in ten thousandths of all rows, rounded down.");
        Check.same("1 of 6561", Check.court("prop a jerk 0 at 0" + SEVEN_MORE + ";accused nerve 15").odds(0), 1);
        Check.same("9 of 6561", Check.court("prop a jerk 0 at 0" + SEVEN_MORE + ";accused nerve 14").odds(0), 13);
        Check.same("6560 of 6561", Check.court("prop a jerk 1 at 0" + SEVEN_MORE + ";accused nerve 1").odds(0), 9998);
        Check.same("6561 of 6561", Check.court("prop a jerk 2 at 0" + SEVEN_MORE + ";accused nerve 1").odds(0), 10000);
        Check.same("0 of 6561", Check.court("prop a jerk 0 at 0" + SEVEN_MORE + ";accused nerve 16").odds(0), 0);
        int[] due = {10000, 6666, 3333, 0};
        for (int i = 0; i < 4; i++) {
            Check.same(i + " less of 3", Check.court("prop a jerk 6 at 0;accused nerve " + (5 + i)).odds(0), due[i]);
        }
    }

    private static void gap() {
        Check.sentence("GAP: ODDS of all INNOCENT ones who wait together, less those of all others who wait together.");
        Check.same("nobody", new GhostAssize().gap(), 0);
        Check.same("six innocent", Check.court("prop a jerk 20 at 0;" + Check.times(6, "accused nerve 1", ";")).gap(), 60000);
        Check.sentence("GAP (may be below 0).");
        GhostAssize x = Check.court("prop a jerk 20 at 0;" + Check.times(6, "accused nerve 1 did f", ";"));
        Check.same("six others", x.gap(), -60000);
        Check.sentence("INNOCENT: without DEEDS.");
        GhostAssize y = Check.court("prop a jerk 20 at 0;accused nerve 1 knows 0;accused nerve 1 did b;accused nerve 60 did a");
        Check.same("one of each, and one who does not scream", y.gap(), 0);
        y.inside(1);
        Check.same("who knows is innocent still", y.gap(), 10000);
        y.inside(0);
        Check.same("no scream", y.gap(), 0);
    }

    /** Eight props by whose law it is told early: 3281 of 6561 rows at nerve 31, 3280 at nerve 32. */
    private static GhostAssize halved(String people) {
        GhostAssize x = Check.court("prop a jerk 0 at 0" + SEVEN_MORE + people);
        return Check.law(x, "fright 30 if tense>slot+slot+slot+slot"
                + ";fright 3 if not tense>slot+slot+slot+slot and not tense<slot+slot+slot+slot");
    }

    private static void errors() {
        Check.sentence("ERRORS: how many who wait are not INNOCENT and have ODDS of 5000 at least; how many are INNOCENT and have less.");
        GhostAssize x = halved(";accused nerve 31 did a;accused nerve 32 did a;accused nerve 31;accused nerve 32");
        Check.same("just 5000", x.odds(0), 5000);
        Check.same("just below it", x.odds(1), 4999);
        Check.same("not innocent, 5000", x.errors(false), 1);
        Check.same("innocent, 4999", x.errors(true), 1);
        x.inside(0);
        Check.same("the other one is none", x.errors(false), 0);
        x.inside(3);
        Check.same("the other one is none", x.errors(true), 0);
        Check.same("nobody", new GhostAssize().errors(true) + new GhostAssize().errors(false), 0);
        Check.same("six", Check.court("prop a jerk 20 at 0;" + Check.times(6, "accused nerve 1 did f", ";")).errors(false), 6);
        Check.same("six", Check.court("prop a jerk 0 at 0;" + Check.times(6, "accused nerve 60", ";")).errors(true), 6);
    }

    private static void swapNone() {
        Check.sentence("none, if no two make it greater than it is)");
        Check.same("a new object", new GhostAssize().swap(), NONE);
        Check.same("without props", Check.court("accused nerve 1").swap(), NONE);
        Check.same("all are as great", Check.court("prop a jerk 20 at 4;accused nerve 1").swap(), NONE);
        GhostAssize x = Check.court("prop a jerk 20 at 4;accused nerve 10;accused nerve 10 did a");
        Check.law(x, "ease 20 if slot<4 or slot>4");
        Check.same("both change alike", x.swap(), NONE);
        x.inside(1);
        Check.same("all others are less", x.swap(), NONE);
        x.undo();
        x.inside(0);
        Check.sentence("SWAP; NONE.");
        Check.same("all others are greater", x.swap(), 4);
        Check.same("the gap is below 0", x.gap(), -10000);
        x.undo();
        Check.law(x, "ease 18 if slot>8");
        x.inside(0);
        Check.same("a nerve of 10 and 2 by jolts", x.swap(), 49);
        Check.law(x, "ease 10 if slot>7 and slot<9;ease 9 if slot<1");
        Check.same("greater by one row of three in slot 8, none in slot 0", x.swap(), 48);
        Check.law(x, "ease 10 if slot>7;ease 1 if slot>8");
        Check.same("greater by two rows of three in slot 9", x.swap(), 49);
    }

    private static void swapLeast() {
        Check.sentence("10 times the lesser SLOT and the greater one (of several the least;");
        GhostAssize x = Check.court("prop a jerk 5 at 0;accused nerve 10");
        Check.law(x, "fright 20 if slot>0 and slot<2");
        Check.same("0 and 1", x.swap(), 1);
        Check.law(x, "fright 20 if slot>8");
        Check.same("0 and 9", x.swap(), 9);
        Check.law(x, "fright 20 if slot>0");
        Check.same("any: 0 and 1", x.swap(), 1);
        Check.law(x, "fright 4 if slot>2;fright 1 if slot>5;fright 1 if slot>7");
        // Odds are 3333 behind a fright of 9, 6666 behind 10, 10000 behind 11.
        Check.same("the greatest: 0 and 8", x.swap(), 8);
        GhostAssize y = Check.court("prop a jerk 5 at 8;accused nerve 10");
        Check.law(y, "fright 20 if slot>8");
        Check.same("8 and 9", y.swap(), 89);
        Check.law(y, "fright 20 if slot<8");
        Check.same("any: 0 and 8", y.swap(), 8);
        GhostAssize z = Check.court("prop a jerk 5 at 3;prop b jerk 5 at 6;accused nerve 20");
        Check.law(z, "fright 20 if prop>0 and slot<4 and slot>2");
        Check.same("two props change about", z.swap(), 36);
    }

    private static void nextNone() {
        Check.sentence("(of several the least; none, if there are none such).");
        Check.same("without props", new GhostAssize().next(), NONE);
        Check.same("without props", Check.court("accused nerve 1").next(), NONE);
        GhostAssize x = Check.court("prop a jerk 1 at 0;accused nerve 1");
        Check.same("all are nailed", x.next(), NONE);
        Check.sentence("NEXT; NONE.");
        x.down(0);
        Check.same("one is not", x.next(), 0);
        x.nail(0, 9);
        Check.same("nailed again", x.next(), NONE);
        GhostAssize y = Check.court("prop a jerk 0 at 0" + SEVEN_MORE + ";accused nerve 1");
        Check.same("eight are nailed", y.next(), NONE);
        y.down(7);
        Check.same("the last prop, three slots", y.next(), 77);
    }

    private static void nextLeast() {
        Check.sentence("NEXT: a PROP that is not NAILED and a SLOT without one, by which GAP is the greatest: 10 times the PROP and the SLOT");
        GhostAssize x = Check.court(Check.times(8, "prop a jerk 0", ";") + ";accused nerve 10");
        Check.same("all alike: prop 0, slot 0", x.next(), 0);
        Check.law(x, "fright 20 if prop>6 and slot>8");
        Check.same("prop 7, slot 9", x.next(), 79);
        Check.law(x, "fright 20 if prop>6");
        Check.same("prop 7, slot 0", x.next(), 70);
        Check.law(x, "fright 20 if slot>8");
        Check.same("prop 0, slot 9", x.next(), 9);
        Check.law(x, "fright 9;fright 1 if prop>2;fright 1 if prop>5");
        Check.same("the greatest: prop 6", x.next(), 60);
        x.inside(0);
        Check.same("nobody waits: the least", x.next(), 0);
        // What is greatest may be less than the gap is now, and below 0.
        GhostAssize y = Check.court("prop a jerk 20;prop a jerk 19;accused nerve 19 did a");
        Check.same("10000 or 6666 less", y.next(), 10);
        Check.same("the gap is 0 now", y.gap(), 0);
        GhostAssize z = Check.court("prop a jerk 20 at 1;prop b jerk 5;prop c jerk 5 at 0;accused nerve 1");
        Check.same("slots 0 and 1 have one", z.next(), 12);
    }

    private static void found(GhostAssize x, int nerve, String told, int many, int sure) {
        Check.tape(x, told);
        Check.same("found by " + told.length() + " bytes", x.found(nerve, false), many);
        Check.tapeHas("found", x, 0);
        Check.tape(x, told);
        Check.same("sure by " + told.length() + " bytes", x.found(nerve, true), sure);
        Check.tapeHas("sure", x, 0);
    }

    private static void notFound(GhostAssize x, int nerve, String told) {
        Check.tape(x, told);
        Check.notThat("found of nerve " + nerve + " by " + told.length(), () -> x.found(nerve, false));
        Check.tapeHas("found", x, 0);
        Check.tape(x, told);
        Check.notThat("sure of nerve " + nerve + " by " + told.length(), () -> x.found(nerve, true));
        Check.tapeHas("sure", x, 0);
        Check.tape(x, told);
        Check.notThat("ask of nerve " + nerve + " by " + told.length(), () -> x.ask(nerve));
        Check.tapeHas("ask", x, 0);
    }

    private static void foundNerve() {
        Check.sentence("FOUND: told is a NERVE (1 to 60),");
        GhostAssize x = Check.court("prop a jerk 0 at 0");
        Check.law(x, "fright 1 if nerve<2;fright 2 if nerve>59");
        found(x, 1, "\0\1", 64, 0);
        found(x, 2, "\0\0", 64, 0);
        found(x, 59, "\0\0", 64, 0);
        found(x, 60, "\0\2", 64, 0);
        for (int nerve : new int[] {0, 61, -1, Integer.MIN_VALUE, Integer.MAX_VALUE}) {
            notFound(x, nerve, "\0\0");
            notFound(x, nerve, "");
            notFound(x, nerve, "\0");
        }
    }

    private static void foundTape() {
        Check.sentence("Uses the TAPE up: FOUND (of each two bytes: SLOT, how much; at most 40 bytes): how many sets (sure false),"
                + " or SURE, as bits. IllegalArgumentException: the TAPE is not that (none may be told), or NERVE is none.");
        for (int bytes : new int[] {0, 2, 38, 40}) {
            found(new GhostAssize(), 9, Check.times(bytes, "\0", ""), 64, 0);
        }
        for (int bytes : new int[] {1, 3, 39, 41, 42, 44, 399, 400}) {
            notFound(new GhostAssize(), 9, Check.times(bytes, "\0", ""));
        }
        for (int slot = 0; slot < 10; slot++) {
            found(new GhostAssize(), 9, (char) slot + "\0", 64, 0);
        }
        for (int slot : new int[] {10, 11, 127, 128, 255}) {
            notFound(new GhostAssize(), 9, (char) slot + "\0");
            notFound(new GhostAssize(), 9, "\0\0\0\0" + (char) slot + "\0");
            notFound(new GhostAssize(), 9, Check.times(38, "\0", "") + (char) slot + "\0");
        }
        // The last of forty bytes counts, and so does the first.
        GhostAssize x = Check.law(Check.court("prop a jerk 3 at 0"), "fright 1 if guilty");
        found(x, 9, "\0\4" + Check.times(19, "\5\0", ""), 32, 1);
        found(x, 9, Check.times(19, "\5\0", "") + "\0\4", 32, 1);
        found(x, 9, Check.times(19, "\5\0", "") + "\0\5", 0, 0);
        found(x, 9, "\0\5" + Check.times(19, "\5\0", ""), 0, 0);
        // How much is a byte: 255 is the most, and 256 is no 0.
        GhostAssize y = Check.court("prop a jerk 15 at 0;prop a jerk 16 at 1;prop a jerk 14 at 2");
        Check.law(y, Check.times(8, "fright 30", ";"));
        found(y, 9, "\0" + (char) 255, 64, 0);
        found(y, 9, "\2" + (char) 254, 64, 0);
        found(y, 9, "\1" + (char) 255, 0, 0);
        found(y, 9, "\1\0", 0, 0);
        Check.sentence("Uses the TAPE up: ASK (the TAPE likewise); NONE. IllegalArgumentException: the TAPE is not that, or NERVE is none.");
        Check.tape(x, Check.times(40, "\0", ""));
        Check.same("forty bytes that tell 0 of a fright of 3 or 4", x.ask(9), NONE);
        Check.tape(x, Check.times(20, "\5\0", ""));
        Check.same("forty bytes", x.ask(9), 0);
        Check.tapeHas("ask", x, 0);
        Check.tape(x, Check.times(21, "\5\0", ""));
        Check.notThat("forty-two", () -> x.ask(9));
    }

    private static void foundSets() {
        Check.sentence("sets of DEEDS (of 64, the empty one too) that fit: how many; SURE: DEEDS in all of these, as bits (0 without).");
        GhostAssize x = Check.court("prop a jerk 0 at 0;prop b jerk 0 at 1;prop c jerk 0 at 2;prop d jerk 0 at 3;prop e jerk 0 at 4"
                + ";prop f jerk 0 at 5");
        Check.law(x, "fright 1 if guilty");
        found(x, 9, "", 64, 0);
        found(x, 9, "\0\0\1\0\2\0\3\0\4\0\5\0", 1, 0);
        found(x, 9, "\0\1\1\1\2\1\3\1\4\1\5\1", 1, 63);
        found(x, 9, "\0\0\1\0\2\0\3\0\4\0", 2, 0);
        found(x, 9, "\0\1\1\1\2\1\3\1\4\1", 2, 31);
        found(x, 9, "\0\2", 0, 0);
        found(x, 9, "\0\1\0\0", 0, 0);
        found(x, 9, "\5\1", 32, 32);
    }

    private static void foundWithoutProp() {
        Check.sentence("(without the JOLT; 0 in a SLOT without a PROP)");
        GhostAssize x = Check.court("prop a jerk 7 at 3;prop b jerk 5");
        found(x, 9, "\2\0", 64, 0);
        found(x, 9, "\2\1", 0, 0);
        found(x, 9, "\3\6", 0, 0);
        found(x, 9, "\3\7", 64, 0);
        found(x, 9, "\3\10", 0, 0);
        found(x, 9, "\4\0\11\0\0\0", 64, 0);
    }

    private static void foundGoesOn() {
        Check.sentence("(one who KNOWS nothing, and goes on whatever TENSE is)");
        GhostAssize x = Check.court("prop a jerk 20 at 0;prop b jerk 20 at 1;prop c jerk 1 at 9;accused nerve 1 knows 2;calm 0");
        Check.law(x, "fright 2 if tense>41;ease 1 if knows;fright 4 if tense>42");
        found(x, 1, "\0\24\1\24\11\3", 64, 0);
        found(x, 1, "\11\1", 0, 0);
    }

    private static void ask(GhostAssize x, String told, int want) {
        Check.tape(x, told);
        Check.same("ask by " + told.length() + " bytes", x.ask(9), want);
        Check.tapeHas("ask", x, 0);
    }

    private static void askNone() {
        Check.sentence("none with fewer than two, or without PROPS).");
        ask(new GhostAssize(), "", NONE);
        ask(Check.court("prop a jerk 5"), "", NONE);
        ask(Check.court("prop a jerk 5 at 0"), "", 0);
        ask(Check.court("prop a jerk 5 at 9"), "", 9);
        GhostAssize x = Check.court("prop a jerk 0 at 0;prop b jerk 0 at 1;prop c jerk 0 at 2;prop d jerk 0 at 3;prop e jerk 0 at 4"
                + ";prop f jerk 0 at 5");
        Check.law(x, "fright 1 if guilty");
        ask(x, "\0\2", NONE);
        ask(x, "\0\0\1\0\2\0\3\0\4\0\5\0", NONE);
        ask(x, "\0\0\1\0\2\0\3\0\4\0", 5);
        ask(x, "\1\0\2\0\3\0\4\0\5\0", 0);
        ask(x, "\2\0\3\0\4\0\5\0", 0);
        ask(x, "\0\0\1\0\2\0\3\0", 4);
    }

    private static void askLeast() {
        Check.sentence("so that the greatest part of one fright is the least (of several the least;");
        GhostAssize x = Check.court("prop a jerk 0 at 9;prop b jerk 0 at 8;prop c jerk 0 at 7");
        ask(x, "", 7);
        Check.law(x, "fright 1 if guilty and slot>8");
        ask(x, "", 9);
        Check.law(x, "fright 1 if guilty and slot>7");
        ask(x, "", 8);
        Check.law(x, "fright 1 if guilty");
        ask(x, "", 7);
        ask(x, "\7\0", 8);
        ask(x, "\7\0\10\0", 9);
        // All parted as far as can be: the least slot, though it parts nothing.
        ask(x, "\7\0\10\0\11\0", 7);
        // Parts of 16, 16 and 32 are no better than two of 32; four of 16 are.
        GhostAssize y = Check.court("prop a jerk 0 at 0;prop b jerk 0 at 1;prop c jerk 0 at 2;calm 0");
        Check.law(y, "fright 1 if guilty and slot<1;fright 2 if guilty and slot<2 and slot>0"
                + ";fright 1 if slot>1 and tense>3");
        ask(y, "", 0);
        Check.law(y, "fright 1 if guilty and slot<1;fright 2 if guilty and slot<2 and slot>0"
                + ";fright 1 if slot>1 and tense>2;fright 1 if slot>1 and tense>3;fright 1 if slot>1 and tense>4");
        ask(y, "", 2);
    }

    private static void carEcho() {
        Check.sentence("is ECHO more TENSE at once, and SCREAMS there, too, if that is above NERVE:");
        for (int echo : new int[] {0, 1, 10, 19, 20}) {
            GhostAssize x = Check.court("prop a jerk 9 at 5;accused nerve 9;accused nerve " + (10 + echo) + ";accused nerve "
                    + Math.max(10, 9 + echo) + ";echo " + echo);
            Check.same("just its nerve, echo " + echo, x.car(0, 1), 1);
            Check.same("the other way about", x.car(1, 0), 2);
            Check.same("one above it, echo " + echo, x.car(0, 2), echo > 0 ? 3 : 1);
            Check.same("the other way about", x.car(2, 0), echo > 0 ? 3 : 2);
        }
        // At once, and for good: what follows comes on top; a slot without a prop takes calm off.
        GhostAssize y = Check.court("prop a jerk 9 at 0;prop b jerk 9 at 1;accused nerve 9;accused nerve 30;accused nerve 29;echo 10");
        Check.same("20 and 10 are 30", y.car(0, 1), 1);
        Check.same("and above 29", y.car(0, 2), 3);
        y.down(1);
        y.nail(1, 2);
        Check.same("calm in between", y.car(0, 2), 1);
    }

    private static void carTwo() {
        Check.sentence("CAR of two: both ride STRAIGHT side by side; who SCREAMS rides on no more;"
                + " if just one of both did in a SLOT (the other one not in one ahead of it)");
        GhostAssize x = Check.court("prop a jerk 9 at 0;prop b jerk 9 at 9;accused nerve 9;accused nerve 9;accused nerve 60;echo 20"
                + ";accused nerve 19");
        Check.same("both in one slot", x.car(0, 1), 3);
        Check.same("just one", x.car(0, 2), 1);
        Check.same("an echo in slot 0", x.car(0, 3), 3);
        Check.same("neither", x.car(2, 3), 0);
        x.calm(0);
        Check.same("one in slot 9, the other one hears it", x.car(3, 2), 1);
        Check.same("the first of both by bits", x.car(2, 3), 2);
        Check.more(x, "accused nerve 39");
        Check.same("20 and 20 are above 39", x.car(3, 4), 3);
        Check.same("one ahead hears nothing of slot 9", x.car(0, 3), 3);
        Check.more(x, "echo 0");
        Check.same("screams in slots 0 and 9", x.car(0, 3), 3);
        Check.sentence("CAR, as bits. IllegalArgumentException: both are one.");
        Check.same("neighbours", x.car(3, 4), 1);
        Check.notThat("both are 0", () -> x.car(0, 0));
        Check.notThat("both are 4", () -> x.car(4, 4));
        Check.noOne("both are nobody", () -> x.car(5, 5));
        Check.noOne("both are nobody", () -> x.car(-1, -1));
        Check.same("without props", Check.court("accused nerve 1;accused nerve 1").car(0, 1), 0);
    }

    private static void cornersHalf() {
        Check.sentence("in which TENSE behind it is the half of NERVE (rounded down) at least, as bits.");
        // Tense 6 behind slot 0, then 5, 4, 3, 2, 1, 0, 0, 0, 0.
        int[] nerves = {5, 6, 7, 8, 9, 10, 11, 12, 13, 60};
        int[] due = {0, 14, 14, 6, 6, 2, 2, 0, 0, 0};
        for (int i = 0; i < nerves.length; i++) {
            GhostAssize x = Check.court("prop a jerk 5 at 0;calm 1;accused nerve " + nerves[i]);
            Check.same("nerve " + nerves[i], x.corners(0), due[i]);
        }
        Check.same("half of 1 is 0: all slots", Check.court("accused nerve 1").corners(0), 1023);
        Check.same("half of 2 is 1: none", Check.court("accused nerve 2").corners(0), 0);
        Check.same("half of 3 is 1: none", Check.court("accused nerve 3").corners(0), 0);
        // Tense 30 of 60.
        GhostAssize y = Check.court("prop a jerk 9 at 3;accused nerve 60;calm 1");
        Check.law(y, "fright 22");
        Check.same("31, 30 and 29 behind slots 4, 5, 6", y.corners(0), 16 | 32);
    }

    private static void cornersComeTo() {
        Check.sentence("CORNERS of one: SLOTS without a PROP, come to by a STRAIGHT RIDE,");
        Check.same("all but the prop's", Check.court("prop a jerk 0 at 5;accused nerve 1").corners(0), 1023 - 32);
        Check.same("none behind the scream", Check.court("prop a jerk 1 at 5;accused nerve 1").corners(0), 31);
        Check.same("a scream in slot 0", Check.court("prop a jerk 1 at 0;accused nerve 1").corners(0), 0);
        Check.same("a scream in slot 9", Check.court("prop a jerk 1 at 9;accused nerve 1").corners(0), 511);
        GhostAssize x = Check.court("prop a jerk 9 at 0;prop b jerk 0 at 1;accused nerve 11;calm 0");
        Check.same("tense 11 in all behind slot 1", x.corners(0), 1020);
    }
}
