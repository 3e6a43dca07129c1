/** Promises 19 to 27: straight rides, ways of jolts, odds, gap, errors, swap and next. */
final class RideTest {
    private static final int NONE = GhostAssize.NONE;

    public static void main(String[] args) {
        promise19Straight();
        promise20Tense();
        promise21Ways();
        promise22At();
        promise23Odds();
        promise24Gap();
        promise25Errors();
        promise26Swap();
        promise27Next();
        Check.close();
    }

    private static void promise19Straight() {
        GhostAssize x = Check.court("prop a jerk 6 at 0;prop b jerk 6 at 1;accused nerve 14;accused nerve 13;accused nerve 6");
        Check.same("just its nerve is no scream", x.straight(0), NONE);
        Check.same("above it is", x.straight(1), 1);
        Check.same("at once", x.straight(2), 0);
        Check.noOne("nobody", () -> x.straight(3));
        Check.noOne("nobody", () -> x.straight(-1));
        Check.law(x, "fright 1 if tense > 6");
        Check.same("by the law", x.straight(0), 1);
        x.inside(0);
        Check.same("whoever it is", x.straight(0), 1);
        Check.same("nothing changed", x.count(12), 0);
        Check.same("nothing was drawn", x.seed(1), 1);
        Check.same("nothing is known", x.accused(0, 2), 0);
    }

    private static void promise20Tense() {
        GhostAssize x = Check.court("prop a jerk 6 at 1;prop b jerk 6 at 4;accused nerve 14;accused nerve 9;calm 4");
        int[] due = {0, 7, 3, 0, 7, 3, 0, 0, 0, 0};
        for (int slot = 0; slot < 10; slot++) {
            Check.same("tense behind " + slot, x.tense(0, slot), due[slot]);
        }
        x.calm(0);
        int[] other = {0, 7, 7, 7, 14, NONE, NONE, NONE, NONE, NONE};
        for (int slot = 0; slot < 10; slot++) {
            Check.same("tense of the other behind " + slot, x.tense(1, slot), other[slot]);
        }
        Check.same("without a scream", x.tense(0, 9), 14);
        Check.noOne("nobody", () -> x.tense(2, 0));
        Check.noOne("no slot", () -> x.tense(0, 10));
        Check.noOne("no slot", () -> x.tense(0, -1));
    }

    private static void promise21Ways() {
        GhostAssize x = Check.court("prop a jerk 6 at 0;prop b jerk 6 at 1;accused nerve 14;accused nerve 5;accused nerve 60");
        Check.same("jolts of 3 and more together", x.ways(0), 3);
        Check.same("rows that are not come to, too", x.ways(1), 9);
        Check.same("none", x.ways(2), 0);
        Check.noOne("nobody", () -> x.ways(3));
        Check.noOne("nobody", () -> x.ways(-1));
        Check.law(x, "fright 1 if tense > 7");
        Check.same("by a law of tense: jolts 2 and any, 1 and 2", x.ways(0), 4);
        Check.same("without props", Check.court("accused nerve 1").ways(0), 0);
        // A nerve of 60 is the most: 58 and three jolts.
        GhostAssize z = Check.court("prop a jerk 20 at 0;prop b jerk 19 at 1;prop c jerk 19 at 2;accused nerve 60;accused nerve 59");
        Check.same("above 60 by 3 and more of 6", z.ways(0), 27 - 1 - 3 - 6);
        Check.same("above 59 by 2 and more of 6", z.ways(1), 27 - 1 - 3);
        // Behind the calm slot the jolts 0 and 1 are both tense 0, the jolt 2 is tense 1.
        GhostAssize v = Check.court("prop a jerk 0 at 0;prop b jerk 3 at 2;accused nerve 4;calm 1");
        Check.same("0 and 1 come to it alike", v.ways(0), 1 + 1 + 2);
        GhostAssize y = Check.court("prop a jerk 0 at 0;prop a jerk 0 at 1;prop a jerk 0 at 2;prop a jerk 0 at 3"
                + ";prop a jerk 0 at 4;prop a jerk 0 at 5;prop a jerk 0 at 6;prop a jerk 0 at 7;accused nerve 15;accused nerve 1");
        Check.same("eight jolts of 2", y.ways(0), 1);
        Check.same("all but 0 and one of 1", y.ways(1), 6561 - 9);
    }

    private static void promise22At() {
        GhostAssize x = Check.court("prop a jerk 6 at 0;prop b jerk 6 at 1;accused nerve 7;accused nerve 60");
        Check.same("a jolt of 2 and any", x.at(0, 0), 3);
        Check.same("all others", x.at(0, 1), 6);
        Check.same("without a prop", x.at(0, 5), 0);
        x.down(1);
        Check.same("without a prop now", x.at(0, 1), 0);
        Check.same("one of three", x.at(0, 0), 1);
        Check.same("none", x.at(1, 0), 0);
        Check.noOne("nobody", () -> x.at(2, 0));
        Check.noOne("no slot", () -> x.at(0, 10));
        Check.noOne("no slot", () -> x.at(0, -1));
    }

    private static void promise23Odds() {
        GhostAssize x = Check.court("prop a jerk 6 at 0;prop b jerk 6 at 1;accused nerve 14;accused nerve 15;accused nerve 5");
        Check.same("3 of 9", x.odds(0), 3333);
        Check.same("1 of 9", x.odds(1), 1111);
        Check.same("all", x.odds(2), 10000);
        Check.noOne("nobody", () -> x.odds(3));
        Check.noOne("nobody", () -> x.odds(-1));
        Check.same("without props", Check.court("accused nerve 1").odds(0), 0);
    }

    private static void promise24Gap() {
        GhostAssize x = Check.court("prop a jerk 6 at 0;prop b jerk 6 at 1;accused nerve 14;accused nerve 15 did a"
                + ";accused nerve 5;accused nerve 5 did ab;accused nerve 5 did f");
        Check.same("gap", x.gap(), 3333 - 1111 + 10000 - 20000);
        x.inside(3);
        Check.same("who waits alone", x.gap(), 3333 - 1111);
        x.inside(2);
        x.inside(4);
        Check.same("who waits alone", x.gap(), 2222);
    }

    private static void promise25Errors() {
        // One prop alone: of 3 rows 2 are 6666, 1 is 3333.
        GhostAssize x = Check.court("prop a jerk 6 at 0;accused nerve 6;accused nerve 7;accused nerve 8"
                + ";accused nerve 6 did a;accused nerve 7 did b;accused nerve 1 did c");
        Check.same("innocent and less", x.errors(true), 2);
        Check.same("not innocent and 5000 at least", x.errors(false), 2);
        x.inside(1);
        x.inside(5);
        Check.same("who waits alone", x.errors(true), 1);
        Check.same("who waits alone", x.errors(false), 1);
        GhostAssize z = Check.court("prop a jerk 6 at 0;accused nerve 8");
        Check.same("the first, too", z.errors(true), 1);
        // It screams if the first jolt that is not 1 is 2, or all are 1: 3281 of 6561 rows, that is 5000.
        GhostAssize y = Check.court("prop a jerk 0 at 0;prop a jerk 0 at 1;prop a jerk 0 at 2;prop a jerk 0 at 3"
                + ";prop a jerk 0 at 4;prop a jerk 0 at 5;prop a jerk 0 at 6;prop a jerk 0 at 7;accused nerve 31 did b;accused nerve 31");
        Check.law(y, "fright 30 if tense>slot+slot+slot+slot"
                + ";fright 3 if not tense>slot+slot+slot+slot and not tense<slot+slot+slot+slot");
        Check.same("ways", y.ways(0), 3281);
        Check.same("odds", y.odds(0), 5000);
        Check.same("just 5000 is 5000 at least", y.errors(false), 1);
        Check.same("just 5000 is not less", y.errors(true), 0);
    }

    private static void promise26Swap() {
        GhostAssize x = Check.court("prop a jerk 9 at 0;accused nerve 10");
        Check.same("no two make it greater", x.swap(), NONE);
        Check.law(x, "fright 5 if slot > 6");
        Check.same("of several the least", x.swap(), 7);
        Check.same("nothing changed", x.slot(0), 0);
        Check.law(x, "fright 2 if slot > 3;fright 5 if slot > 7;ease 20 if slot > 8");
        Check.same("the greatest", x.swap(), 4);
        GhostAssize y = Check.court("prop a jerk 9 at 2;prop b jerk 9 at 4;accused nerve 11 did a");
        Check.law(y, "ease 9 if prop < 1 and slot > 3;ease 9 if prop > 0 and slot < 3 and slot > 1");
        Check.same("two props are changed about", y.swap(), 24);
        y.inside(0);
        Check.same("nobody waits", y.swap(), NONE);
    }

    private static void promise27Next() {
        GhostAssize x = Check.court("prop b jerk 1 at 5;prop a jerk 9;accused nerve 10");
        Check.law(x, "fright 5 if slot > 6");
        Check.same("of several the least", x.next(), 17);
        Check.same("nothing changed", x.count(7), 32);
        GhostAssize y = Check.court("prop a jerk 9 at 0;prop c jerk 20;prop b jerk 1;accused nerve 10 did a");
        Check.same("the greatest, though it is less than now", y.next(), 23);
        x.nail(1, 1);
        Check.same("all are nailed", x.next(), NONE);
        GhostAssize z = Check.court("prop a jerk 9 at 0;prop c jerk 20");
        Check.same("nobody waits: the least", z.next(), 11);
        GhostAssize v = Check.court("prop a jerk 9;accused nerve 1");
        Check.same("the prop 0 in the slot 0", v.next(), 0);
        Check.law(v, "ease 20 if slot < 9");
        Check.same("the last slot", v.next(), 9);
    }
}
