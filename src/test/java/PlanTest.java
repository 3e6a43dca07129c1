/** Promises 32 to 40: covers, slots left empty, the bravest, alike, ushers, how long, all, shares, the loudest. */
final class PlanTest {
    private static final int NONE = GhostAssize.NONE;

    public static void main(String[] args) {
        everyNumber();
        promise32Cover();
        promise33Leave();
        promise34Bravest();
        promise35Alike();
        promise36Usher();
        promise37Lasts();
        promise38All();
        promise39Share();
        promise40Loudest();
        Check.close();
    }

    /** Eight props and six accused: all numbers that there can be are asked for. */
    private static GhostAssize full() {
        GhostAssize x = Check.court("prop a jerk 1 at 0;prop b jerk 1 at 1;prop c jerk 1 at 2;prop d jerk 1 at 3;prop e jerk 1 at 4"
                + ";prop f jerk 1 at 5;prop a jerk 1 at 6;prop b jerk 20 at 7");
        Check.more(x, "accused nerve 20 did a;accused nerve 20;accused nerve 20 did bc;accused nerve 20 did d"
                + ";accused nerve 20 did e;accused nerve 33 did f");
        return x;
    }

    private static void everyNumber() {
        GhostAssize x = full();
        // Straight: 2, 4, .. 14, then 35.
        Check.same("cover", x.cover(), 63);
        Check.same("leave", x.leave(), 128);
        Check.same("loudest", x.loudest(), 7);
        Check.same("all", x.all(false), 63);
        Check.same("bravest", x.bravest(), 5);
        Check.same("alike", x.alike(), 0);
        Check.same("mornings", x.mornings(1), 0);
        Check.same("worn", x.count(12), 0);
        Check.same("lasts", x.lasts(7, 5), 50);
        Check.same("share", x.share(7, 5), 74);
        // Eased at the last, or with it taken down, nobody screams; else all do.
        Check.same("usher", x.usher(0), 9);
        Check.same("inside", x.inside(5), 1);
        Check.same("states", x.count(11), 32);
    }

    private static void promise32Cover() {
        GhostAssize x = Check.court("prop b jerk 1;prop a jerk 1 at 3;prop a jerk 1;prop d jerk 1;prop b jerk 1 at 5"
                + ";accused nerve 1 did ab;accused nerve 1 did e;accused nerve 1;accused nerve 1 did d");
        Check.same("the first of each that some show", x.cover(), 1 | 2 | 8);
        x.inside(3);
        Check.same("who waits alone", x.cover(), 3);
        x.inside(0);
        Check.same("a deed that none shows", x.cover(), 0);
    }

    private static void promise33Leave() {
        GhostAssize x = Check.court("prop a jerk 10 at 5;prop b jerk 10 at 0;prop c jerk 10;prop d jerk 4 at 9"
                + ";accused nerve 11 did f;accused nerve 60 did a;accused nerve 1");
        x.calm(9);
        Check.same("none screams but the innocent", x.leave(), 0);
        x.calm(0);
        // 11, 22 and 27 by slots: one of the two great ones and the small one, or both great ones.
        Check.same("the fewest, of these the least", x.leave(), 3);
        x.down(9);
        Check.same("either: the least", x.leave(), 1);
        x.inside(0);
        Check.same("who waits alone", x.leave(), 0);
        Check.same("nothing changed", x.count(7), 33);
        GhostAssize y = Check.court("prop a jerk 20 at 0;prop a jerk 20 at 1;prop a jerk 20 at 2;prop a jerk 20 at 3"
                + ";prop a jerk 20 at 4;prop a jerk 20 at 5;prop a jerk 20 at 6;prop a jerk 20 at 7;accused nerve 1 did a");
        Check.same("all", y.leave(), 255);
        // To take one down may make another one fright more.
        GhostAssize z = Check.court("prop a jerk 3 at 0;prop b jerk 0 at 1;accused nerve 10 did a");
        Check.law(z, "fright 20 if prop > 0");
        Check.same("just the one", z.leave(), 2);
    }

    private static void promise34Bravest() {
        GhostAssize x = Check.court("prop a jerk 6 at 0;accused nerve 6;accused nerve 7 did a;accused nerve 7;accused nerve 60");
        Check.same("the least odds", x.bravest(), 3);
        x.inside(3);
        Check.same("of several the least", x.bravest(), 1);
        x.inside(1);
        x.inside(2);
        Check.same("who waits", x.bravest(), 0);
        x.inside(0);
        Check.same("none", x.bravest(), NONE);
    }

    private static void promise35Alike() {
        GhostAssize x = Check.court("prop a jerk 1;accused nerve 6 did ab;accused nerve 6 did ba knows 0;accused nerve 6 did a"
                + ";accused nerve 7 did ab");
        Check.same("one pair", x.alike(), 1);
        Check.more(x, "accused nerve 6 did ab;accused nerve 7 did ab");
        Check.same("three and one", x.alike(), 4);
        x.inside(0);
        Check.same("whatever state", x.alike(), 4);
    }

    private static void promise36Usher() {
        GhostAssize x = Check.court("prop a jerk 20 at 0;prop b jerk 20;accused nerve 10;accused nerve 60");
        Check.same("eased or never", x.usher(0), 2);
        Check.same("what was eased frights again", x.straight(0), 0);
        Check.same("never a scream", x.usher(1), 4);
        Check.noOne("nobody", () -> x.usher(2));
        Check.noOne("nobody", () -> x.usher(-1));
        x.nail(1, 9);
        Check.same("none taken: a scream whatever is eased", x.usher(0), 3);
        x.down(0);
        x.down(9);
        Check.same("without props there is one pair", x.usher(0), 1);
        GhostAssize y = Check.court("prop a jerk 5 at 0;prop b jerk 0 at 1;accused nerve 10");
        Check.law(y, "fright 20 if tense < 1 and prop > 0");
        Check.same("taken down makes the scream", y.usher(0), 3);
        // One that is eased still jolts by 1, one that is taken down calms.
        GhostAssize z = Check.court("prop a jerk 5 at 0;prop b jerk 5 at 1;accused nerve 6");
        Check.same("6 and 12; eased 1 and 7, 6 and 7; taken 0 and 6", z.usher(0), 3);
        String seven = "prop a jerk 0 at 1;prop b jerk 0;prop b jerk 0;prop b jerk 0;prop b jerk 0;prop b jerk 0;prop b jerk 0";
        GhostAssize v = Check.court(seven + ";prop c jerk 5 at 0;accused nerve 10");
        Check.law(v, "fright 20 if tense < 1 and prop < 1");
        Check.same("the last prop taken down makes the scream", v.usher(0), 3);
        Check.law(v, "fright 20 if prop > 6");
        v.down(1);
        Check.same("the last prop eased", v.usher(0), 2);
    }

    private static void promise37Lasts() {
        GhostAssize x = Check.court("prop a jerk 1 at 0 worn 49;prop b jerk 1 at 1 worn 50;prop c jerk 1;prop d jerk 1 worn 60"
                + ";prop e jerk 1 at 2;accused nerve 60");
        Check.same("one", x.lasts(0, 0), 1);
        Check.same("none to go", x.lasts(1, 0), 0);
        Check.same("not nailed", x.lasts(2, 0), NONE);
        Check.same("not nailed, worn", x.lasts(3, 0), 0);
        Check.same("fifty", x.lasts(4, 0), 50);
        Check.law(x, "wear 4");
        Check.same("by the law", x.lasts(4, 0), 10);
        Check.law(x, "wear 9 if not knows");
        Check.same("known from the second on", x.lasts(4, 0), 41);
        Check.same("nothing changed", x.prop(4, 2), 0);
        Check.same("nothing is known", x.accused(0, 2), 0);
        Check.noOne("no prop", () -> x.lasts(5, 0));
        Check.noOne("no prop", () -> x.lasts(-1, 0));
        Check.noOne("nobody", () -> x.lasts(0, 1));
        Check.noOne("nobody", () -> x.lasts(0, -1));
        // It is come to only when the one ahead of it is worn 20, by the 21st ride.
        String ahead = "prop a jerk 7 at 0;prop b jerk 0 at 1 worn ";
        Check.same("just 60", Check.court(ahead + "10;accused nerve 6").lasts(1, 0), 60);
        Check.same("61 are none", Check.court(ahead + "9;accused nerve 6").lasts(1, 0), NONE);
    }

    private static void promise38All() {
        GhostAssize x = Check.court("prop a jerk 10 at 0 worn 9;accused nerve 10;accused nerve 10;accused nerve 9;accused nerve 9"
                + ";accused nerve 60");
        x.inside(3);
        Check.same("as things are now", x.all(false), 7);
        Check.same("worn from one to the next", x.all(true), 5);
        Check.same("nothing changed", x.prop(0, 2), 9);
        Check.same("all wait still", x.count(8), 23);
        x.inside(0);
        Check.same("who waits alone", x.all(false), 6);
        Check.same("who waits alone", x.all(true), 2 | 4);
    }

    private static void promise39Share() {
        GhostAssize x = Check.court("prop a jerk 5 at 3;prop b jerk 15 at 0;prop c jerk 0 at 5;prop d jerk 9;prop e jerk 2 at 6"
                + ";accused nerve 60;accused nerve 3");
        int[] due = {22, 68, 0, 0, 9};
        for (int prop = 0; prop < 5; prop++) {
            Check.same("share of " + prop, x.share(prop, 0), due[prop]);
        }
        Check.same("the one of the scream", x.share(1, 1), 100);
        Check.same("not come to", x.share(0, 1), 0);
        Check.same("all are 0", Check.court("prop a jerk 0 at 0;accused nerve 9").share(0, 0), 0);
        Check.noOne("no prop", () -> x.share(5, 0));
        Check.noOne("no prop", () -> x.share(-1, 9));
        Check.noOne("nobody", () -> x.share(0, 2));
        Check.noOne("nobody", () -> x.share(0, -1));
    }

    private static void promise40Loudest() {
        GhostAssize x = Check.court("prop a jerk 6 at 1;prop b jerk 6 at 0;prop c jerk 9;accused nerve 7");
        Check.same("6 ways of 9", x.loudest(), 0);
        Check.more(x, "accused nerve 5");
        Check.same("3 and 9 to 6", x.loudest(), 1);
        x.inside(1);
        Check.same("who waits alone", x.loudest(), 0);
        x.down(1);
        Check.same("of the nailed", x.loudest(), 1);
        x.inside(0);
        Check.same("nobody waits, so there is no scream", x.loudest(), NONE);
        x.undo();
        x.down(0);
        Check.same("none is nailed", x.loudest(), NONE);
        GhostAssize y = Check.court("prop a jerk 6 at 0;prop b jerk 6 at 1;accused nerve 9;accused nerve 60");
        Check.same("the first, too", y.loudest(), 1);
        y.inside(0);
        y.down(0);
        y.nail(0, 2);
        Check.law(y, "fright 30 if slot > 1");
        Check.more(y, "accused nerve 30");
        Check.same("as it is nailed now", y.loudest(), 0);
        y.calm(0);
        Check.law(y, "fright 30 if slot < 2");
        Check.same("nothing stays of the answer before", y.loudest(), 1);
        loudestOfSeveralAndWithout();
    }

    private static void loudestOfSeveralAndWithout() {
        GhostAssize x = Check.court("prop a jerk 0 at 1;prop b jerk 0 at 0;accused nerve 1");
        Check.same("three ways at the one", x.at(0, 0), 3);
        Check.same("three ways at the other one", x.at(0, 1), 3);
        Check.same("of several the least", x.loudest(), 0);
        GhostAssize y = Check.court("prop a jerk 0 at 9;prop b jerk 1 at 4;accused nerve 5;accused nerve 60");
        Check.same("5 at most, which is not above 5", y.loudest(), NONE);
        Check.more(y, "accused nerve 4");
        Check.same("calm in between takes the only way", y.ways(2), 0);
        Check.same("no way, no scream", y.loudest(), NONE);
        y.calm(0);
        Check.same("one way of all nine rows", y.ways(2), 1);
        Check.same("one way is enough", y.loudest(), 0);
        y.inside(2);
        Check.same("the one who would scream works inside", y.loudest(), NONE);
    }
}
