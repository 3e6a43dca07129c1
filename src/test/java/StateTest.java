/** Promises 7 to 10: what there is, and by how much a prop frights and wears. */
final class StateTest {
    private static final int NONE = GhostAssize.NONE;
    private static final String COURT = "prop a jerk 3 at 2 worn 25;prop b jerk 12 at 7;prop c jerk 0 at 4 worn 99"
            + ";prop d jerk 20;accused nerve 20 did b knows 0;accused nerve 40";

    public static void main(String[] args) {
        promise7Prop();
        promise8Slot();
        promise9Accused();
        promise10FrightWithoutLaw();
        promise10Facts();
        promise10Conditions();
        promise10EachPart();
        promise10LawAnew();
        promise10Wears();
        promise10Wrong();
        Check.close();
    }

    private static void promise7Prop() {
        GhostAssize x = Check.court(COURT);
        int[][] due = {{0, 3, 25, 2}, {1, 12, 0, 7}, {2, 0, 99, 4}, {3, 20, 0, NONE}};
        for (int i = 0; i < 16; i++) {
            Check.same("prop " + i / 4 + " what " + i % 4, x.prop(i / 4, i % 4), due[i / 4][i % 4]);
        }
        Check.noOne("prop -1", () -> x.prop(-1, 0));
        Check.noOne("prop 4", () -> x.prop(4, 0));
        Check.noOne("prop 4 what 9", () -> x.prop(4, 9));
        Check.noSuch("what 4", () -> x.prop(0, 4));
        Check.noSuch("what -1", () -> x.prop(3, -1));
    }

    private static void promise8Slot() {
        GhostAssize x = Check.court(COURT);
        int[] due = {NONE, NONE, 0, NONE, 2, NONE, NONE, 1, NONE, NONE};
        for (int slot = 0; slot < 10; slot++) {
            Check.same("slot " + slot, x.slot(slot), due[slot]);
        }
        Check.noOne("slot -1", () -> x.slot(-1));
        Check.noOne("slot 10", () -> x.slot(10));
        Check.noOne("slot most", () -> x.slot(Integer.MAX_VALUE));
    }

    private static void promise9Accused() {
        GhostAssize x = Check.court(COURT);
        int[][] due = {{2, 20, 1, 0}, {0, 40, 0, 0}};
        for (int i = 0; i < 8; i++) {
            Check.same("accused " + i / 4 + " what " + i % 4, x.accused(i / 4, i % 4), due[i / 4][i % 4]);
        }
        Check.noOne("accused -1", () -> x.accused(-1, 0));
        Check.noOne("accused 2", () -> x.accused(2, 7));
        Check.noSuch("what 4", () -> x.accused(1, 4));
        Check.noSuch("what -1", () -> x.accused(0, -1));
    }

    private static void promise10FrightWithoutLaw() {
        GhostAssize x = Check.court(COURT);
        Check.same("jerk less a tenth of worn", x.fright(0, 2, 0, false), 1);
        Check.same("jerk", x.fright(0, 7, 99, false), 12);
        Check.same("0 at least", x.fright(0, 4, 0, false), 0);
        Check.same("without a prop", x.fright(0, 0, 0, false), 0);
        Check.same("without a prop none wears", x.fright(0, 0, 0, true), 0);
        Check.same("wears", x.fright(1, 7, 0, true), 1);
    }

    private static void due(String law, int one, int slot, int tense, int want) {
        GhostAssize x = Check.law(Check.court(COURT), law);
        Check.same("fright of " + one + " in " + slot + " so tense " + tense + " by «" + law + "»",
                x.fright(one, slot, tense, false), want);
    }

    private static void promise10Facts() {
        due("fright 10 if prop > 0", 0, 2, 0, 1);
        due("fright 10 if prop > 0", 0, 7, 0, 22);
        due("fright 10 if slot < 4", 0, 2, 0, 11);
        due("fright 10 if slot < 4", 0, 7, 0, 12);
        due("fright 10 if slot < 4", 0, 4, 0, 0);
        due("fright 10 if jerk > 11", 0, 7, 0, 22);
        due("fright 10 if jerk > 12", 0, 7, 0, 12);
        due("fright 10 if worn > 24", 0, 2, 0, 11);
        due("fright 10 if worn > 25", 0, 2, 0, 1);
        due("fright 10 if tense < 50", 0, 2, 49, 11);
        due("fright 10 if tense < 50", 0, 2, 50, 1);
        due("fright 10 if nerve > 20", 0, 2, 0, 1);
        due("fright 10 if nerve > 20", 1, 2, 0, 11);
        due("fright 10 if knows", 0, 2, 0, 11);
        due("fright 10 if knows", 0, 7, 0, 12);
        due("fright 10 if knows", 1, 2, 0, 1);
        due("fright 10 if guilty", 0, 7, 0, 22);
        due("fright 10 if guilty", 0, 2, 0, 1);
        due("fright 10 if guilty", 1, 7, 0, 12);
        // 0 at least is told of the whole sum alone.
        due("fright 9", 0, 4, 0, 0);
        due("fright 10", 0, 4, 0, 1);
        due("ease 30;fright 20", 0, 7, 0, 2);
        due("ease 5", 0, 2, 0, 0);
        due("fright 30;fright 30;fright 30;fright 30;fright 30;fright 30", 0, 7, 0, 192);
        due("wear 30", 0, 7, 0, 12);
    }

    private static void promise10Conditions() {
        due("fright 10 if knows or guilty and tense > 50", 0, 2, 0, 11);
        due("fright 10 if tense > 50 and guilty or knows", 0, 2, 0, 11);
        due("fright 10 if (knows or guilty) and tense > 50", 0, 2, 0, 1);
        due("fright 10 if (knows or guilty) and tense > 50", 0, 2, 51, 11);
        due("fright 10 if not knows and guilty", 0, 2, 0, 1);
        due("fright 10 if not (knows and guilty)", 0, 2, 0, 11);
        due("fright 10 if not not knows", 0, 2, 0, 11);
        due("fright 10 if not 1 < 2 or not 2 < 1", 0, 2, 0, 11);
        due("fright 10 if not tense > 3", 0, 2, 3, 11);
        due("fright 10 if not tense > 3", 0, 2, 4, 1);
        due("fright 10 if knows and knows and guilty", 0, 2, 0, 1);
        due("fright 10 if guilty or guilty or knows", 0, 2, 0, 11);
        due("fright 10 if prop+slot+jerk+worn+tense+nerve > 60", 0, 2, 10, 1);
        due("fright 10 if prop+slot+jerk+worn+tense+nerve > 60", 0, 2, 11, 11);
        due("fright 10 if 5 + tense < nerve + 1", 0, 2, 15, 11);
        due("fright 10 if 5 + tense < nerve + 1", 0, 2, 16, 1);
        due("fright 10 if tense > 5 + tense", 0, 2, 9, 1);
        due("fright 10 if 1 < 1", 0, 2, 0, 1);
        due("fright 10 if 1 > 1", 0, 2, 0, 1);
        due("fright 10 if 0 < 1", 0, 2, 0, 11);
        due("fright 10 if ((not (guilty or (tense > 3 and not knows))))", 0, 2, 9, 11);
        due("fright 10 if ((not (guilty or (tense > 3 and not knows))))", 1, 2, 9, 1);
        due("fright 1 if knows;fright 2;fright 4 if guilty;fright 8 if slot > 1", 0, 2, 0, 12);
    }

    /** Each PART stands on either side of both signs, alone and in a SUM, and tells just its number there. */
    private static void promise10EachPart() {
        String[] parts = {"prop", "slot", "jerk", "worn", "tense", "nerve"};
        int[] told = {1, 5, 7, 40, 33, 21};
        GhostAssize[] made = new GhostAssize[parts.length];
        for (int i = 0; i < parts.length; i++) {
            GhostAssize x = Check.court("prop c jerk 1;prop a jerk 7 at 5 worn 40;accused nerve 21");
            made[i] = x;
            for (int beside = -1; beside <= 1; beside++) {
                int n = told[i] + beside;
                holds(x, parts[i] + " < " + n, told[i] < n);
                holds(x, parts[i] + " > " + n, told[i] > n);
                holds(x, n + " < " + parts[i], n < told[i]);
                holds(x, n + " > " + parts[i], n > told[i]);
                holds(x, "2 + " + parts[i] + " < " + n + " + 2", told[i] < n);
                holds(x, n + " + 2 < 2 + " + parts[i], n < told[i]);
            }
        }
        for (int i = 0; i < parts.length; i++) {
            for (int j = 0; j < parts.length; j++) {
                holds(made[i], parts[i] + " < " + parts[j], told[i] < told[j]);
                holds(made[i], parts[j] + " > " + parts[i] + " + 1", told[j] > told[i] + 1);
            }
        }
    }

    /** Prop 1 in slot 5, jerk 7 less 4, comes to one so tense 33. */
    private static void holds(GhostAssize x, String condition, boolean want) {
        Check.law(x, "fright 9 if " + condition);
        Check.same("«" + condition + "»", x.fright(0, 5, 33, false), want ? 12 : 3);
    }

    private static void promise10LawAnew() {
        GhostAssize x = Check.law(Check.court(COURT), "wear 9 if guilty or knows;ease 9;wear 1");
        Check.law(x, "fright 2;fright 3 if slot > 6;fright 4 if slot < 3");
        Check.same("nothing stays of the law before", x.fright(1, 7, 0, false), 17);
        Check.same("nothing stays of the law before", x.fright(1, 2, 0, false), 7);
        Check.same("nothing stays of the law before", x.fright(0, 2, 0, true), 1);
    }

    private static void promise10Wears() {
        GhostAssize x = Check.law(Check.court(COURT), "wear 3;wear 4 if tense > 10;fright 9;ease 9;wear 30 if guilty");
        Check.same("wears", x.fright(0, 2, 10, true), 4);
        Check.same("wears so tense", x.fright(0, 2, 11, true), 8);
        Check.same("wears the guilty", x.fright(0, 7, 11, true), 38);
        Check.same("frights", x.fright(0, 7, 11, false), 12);
        Check.same("nothing changed", x.prop(1, 2), 0);
    }

    private static void promise10Wrong() {
        GhostAssize x = Check.court(COURT);
        Check.noOne("nobody", () -> x.fright(2, 0, 0, false));
        Check.noOne("nobody, so tense is none", () -> x.fright(-1, 0, -1, false));
        Check.noOne("no slot", () -> x.fright(0, 10, 0, true));
        Check.noOne("no slot, so tense is none", () -> x.fright(0, -1, 100, true));
        Check.notThat("tense -1", () -> x.fright(0, 2, -1, false));
        Check.notThat("tense 100", () -> x.fright(0, 2, 100, true));
        Check.notThat("tense 100 without a prop", () -> x.fright(0, 0, 100, true));
    }
}
