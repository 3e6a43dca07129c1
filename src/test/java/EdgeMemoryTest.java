import java.util.ArrayList;
import java.util.List;
import java.util.function.Consumer;

/** Each sentence about promises 44 to 49 that names an edge: the log, the seed, acts undone, the image, counts. */
final class EdgeMemoryTest {
    private static final int NONE = GhostAssize.NONE;
    private static final String COURT = "prop a jerk 5 at 0 worn 30;prop b jerk 7 worn 3;accused nerve 60;accused nerve 3 did a"
            + ";accused nerve 9 knows 1;day 5;calm 3;echo 4";

    public static void main(String[] args) {
        logAsked();
        seedTold();
        undoneNone();
        undoneTwelve();
        undoneAgain();
        undoneEachAct();
        undoneOnlyActs();
        actsAsTexts();
        undoneBut();
        noneRemembered();
        imageNone();
        imageOne();
        imageBut();
        imageOfAll();
        imageOfLog();
        counts();
        fiveHundredCalls();
        Check.close();
    }

    private static void logAsked() {
        Check.sentence("THE LOG so many ago (0 the latest) what 0 DAY, 1 the one, 2 the SLOT, 3 TENSE; NONE without."
                + " NoSuchElementException: another what.");
        GhostAssize x = Check.court("prop a jerk 7 at 0;accused nerve 1;accused nerve 60;day 3");
        for (int what = 0; what < 4; what++) {
            Check.same("none yet", x.log(0, what), NONE);
        }
        x.send(0);
        int[] due = {3, 0, 0, 9};
        for (int what = 0; what < 4; what++) {
            Check.same("the latest, what " + what, x.log(0, what), due[what]);
            for (int ago : new int[] {-1, 1, 59, 60, Integer.MIN_VALUE, Integer.MAX_VALUE}) {
                Check.same("without: " + ago, x.log(ago, what), NONE);
            }
        }
        x.send(1);
        for (int what = 0; what < 4; what++) {
            Check.same("one ago, what " + what, x.log(1, what), due[what]);
            Check.same("two ago", x.log(2, what), NONE);
        }
        for (int what : new int[] {-1, 4, Integer.MIN_VALUE, Integer.MAX_VALUE}) {
            Check.noSuch("what " + what, () -> x.log(0, what));
            Check.noSuch("what " + what, () -> x.log(1, what));
        }
    }

    private static void seedTold() {
        Check.sentence("SEED: what it was.");
        GhostAssize x = new GhostAssize();
        int was = 1;
        for (int n : new int[] {0, -1, Integer.MAX_VALUE, Integer.MIN_VALUE, 1, 7}) {
            Check.same("told " + n, x.seed(n), was);
            was = n;
        }
        Check.same("no act", x.count(14), 0);
        Check.same("no act", x.undo(), false);
        Check.same("it stays", x.seed(1), 7);
    }

    private static void undoneNone() {
        Check.sentence("UNDONE: whether there was one.");
        GhostAssize x = new GhostAssize();
        Check.same("none", x.undo(), false);
        x.calm(5);
        Check.same("one", x.undo(), true);
        Check.same("calm", x.count(5), 2);
        Check.same("none any more", x.undo(), false);
        Check.same("calm", x.count(5), 2);
        Check.same("none", x.count(14), 0);
    }

    private static void undoneTwelve() {
        Check.sentence("(12 are remembered; MORNINGS of one call are one)");
        for (int acts = 10; acts <= 26; acts++) {
            GhostAssize x = Check.court("day 0");
            for (int i = 1; i <= acts; i++) {
                x.mornings(i);
            }
            int kept = Math.min(12, acts);
            Check.same("remembered of " + acts, x.count(14), kept);
            for (int i = acts; i > acts - kept; i--) {
                Check.same("undo " + i + " of " + acts, x.undo(), true);
                Check.same("the day ahead of " + i, x.count(4), i * (i - 1) / 2);
                Check.same("remembered", x.count(14), i - 1 - acts + kept);
            }
            Check.same("no more of " + acts, x.undo(), false);
            int rest = acts - kept;
            Check.same("the day stays", x.count(4), rest * (rest + 1) / 2);
        }
    }

    private static void undoneAgain() {
        Check.sentence("UNDONE: the latest ACT not undone yet");
        GhostAssize x = new GhostAssize();
        for (int i = 0; i < 12; i++) {
            x.calm(i % 10);
        }
        for (int i = 0; i < 5; i++) {
            x.undo();
        }
        Check.same("calm", x.count(5), 6);
        Check.same("seven left", x.count(14), 7);
        x.calm(9);
        Check.same("eight", x.count(14), 8);
        x.undo();
        Check.same("the newer one is undone", x.count(5), 6);
        x.undo();
        Check.same("then the older one", x.count(5), 5);
        for (int i = 0; i < 6; i++) {
            Check.same("undo", x.undo(), true);
        }
        Check.same("at first", x.count(5), 2);
        Check.same("none", x.undo(), false);
        // Full, two undone, three more: twelve again, and the oldest is gone.
        for (int i = 0; i < 12; i++) {
            x.calm(3);
        }
        x.undo();
        x.undo();
        x.calm(7);
        x.calm(8);
        Check.same("twelve", x.count(14), 12);
        x.calm(9);
        Check.same("twelve", x.count(14), 12);
        for (int i = 0; i < 12; i++) {
            Check.same("undo", x.undo(), true);
        }
        Check.same("behind the first act, which is not remembered", x.count(5), 3);
        Check.same("none", x.undo(), false);
    }

    private static List<Consumer<GhostAssize>> acts() {
        List<Consumer<GhostAssize>> acts = new ArrayList<>();
        acts.add(x -> x.send(0));
        acts.add(x -> x.send(1));
        acts.add(x -> x.recall(0));
        acts.add(x -> x.nail(1, 9));
        acts.add(x -> x.down(0));
        acts.add(x -> x.mend(0));
        acts.add(x -> x.inside(2));
        acts.add(x -> x.calm(9));
        acts.add(x -> x.mornings(60));
        return acts;
    }

    private static void undoneEachAct() {
        Check.sentence("ACTS: one who waits is sent (a RIDE by draws); a PROP is nailed into a SLOT; taken down; mended (WORN 0);"
                + " one who is held waits again; one who waits gets off inside (STATE 3); CALM is told; MORNINGS.");
        List<Consumer<GhostAssize>> acts = acts();
        for (int last = 0; last < acts.size(); last++) {
            GhostAssize x = Check.court(COURT);
            Check.law(x, "fright 2 if worn>9;wear 2");
            x.seed(321);
            for (int i = 0; i < last; i++) {
                acts.get(i).accept(x);
            }
            String ahead = View.ofCourt(x);
            acts.get(last).accept(x);
            Check.same("act " + last + " changes something", ahead.equals(View.ofCourt(x)), false);
            Check.same("act " + last + " is one", x.count(14), last + 1);
            Check.same("undo", x.undo(), true);
            Check.same("all is as ahead of act " + last, View.ofCourt(x), ahead);
            Check.same("one less", x.count(14), last);
        }
    }

    private static void undoneOnlyActs() {
        Check.sentence("UNDONE: the latest ACT not undone yet");
        GhostAssize x = Check.court(COURT);
        x.calm(7);
        // None of these is an act.
        x.feed(0, 0, 0, 0, 0);
        x.end(0);
        x.fault();
        x.prop(0, 0);
        x.slot(0);
        x.accused(0, 0);
        x.fright(0, 0, 0, true);
        x.straight(0);
        x.tense(0, 9);
        x.ways(0);
        x.at(0, 0);
        x.odds(0);
        x.gap();
        x.errors(true);
        x.swap();
        x.next();
        x.found(9, true);
        x.ask(9);
        x.car(0, 1);
        x.corners(0);
        x.cover();
        x.leave();
        x.bravest();
        x.alike();
        x.usher(0);
        x.lasts(0, 0);
        x.all(true);
        x.share(0, 0);
        x.loudest();
        x.trial(20);
        x.span(20, true);
        x.led(0, true);
        x.log(0, 0);
        x.seed(1);
        x.image();
        x.count(0);
        Check.same("still one", x.count(14), 1);
        Check.same("calm", x.count(5), 7);
        Check.same("nothing is worn, known or logged", x.count(12) + x.accused(0, 2) + x.count(13), 33);
        Check.same("undo", x.undo(), true);
        Check.same("calm", x.count(5), 3);
        // CALM as it is, a PROP that is not worn: acts all the same.
        x.calm(3);
        x.mend(0);
        x.mend(0);
        Check.same("three", x.count(14), 3);
    }

    /** What is told by a text and what is done by acts is the same court: all questions answer alike. */
    private static void actsAsTexts() {
        Check.sentence("ACTS: one who waits is sent (a RIDE by draws); a PROP is nailed into a SLOT; taken down;");
        String people = ";accused nerve 9 did a;accused nerve 12;accused nerve 20 did bc;accused nerve 15;echo 3";
        GhostAssize told = Check.court("prop a jerk 5 at 7;prop b jerk 7 at 2;prop c jerk 9;prop b jerk 4 at 9" + people + ";calm 1");
        GhostAssize done = Check.court("prop a jerk 5 at 0;prop b jerk 7;prop c jerk 9 at 2;prop b jerk 4 at 7" + people);
        for (GhostAssize x : new GhostAssize[] {told, done}) {
            Check.law(x, "fright 3 if guilty;fright 4 if slot>6;ease 2 if prop>2");
        }
        done.down(0);
        done.down(7);
        done.down(2);
        done.nail(3, 9);
        done.nail(0, 7);
        done.nail(1, 2);
        done.calm(1);
        Check.same("the court", View.ofCourt(done), View.ofCourt(told));
        Check.same("the answers", View.ofAnswers(done), View.ofAnswers(told));
        Check.same("the riddles", View.ofRiddles(done), View.ofRiddles(told));
        for (int i = 0; i < 7; i++) {
            done.undo();
        }
        done.nail(1, 5);
        told.down(7);
        told.down(2);
        told.down(9);
        told.nail(0, 0);
        told.nail(2, 2);
        told.nail(3, 7);
        told.nail(1, 5);
        told.calm(2);
        Check.same("the answers the other way about", View.ofAnswers(done), View.ofAnswers(told));
        Check.same("the riddles the other way about", View.ofRiddles(done), View.ofRiddles(told));
    }

    private static void undoneBut() {
        Check.sentence("all is as ahead of it (but for the TAPE, fault(), THE IMAGE).");
        GhostAssize x = Check.court(COURT);
        x.seed(55);
        x.send(0);
        x.seed(66);
        Check.courtFault(x, "day x", 4);
        x.image();
        x.feed(0x64617920, 0x37202020, 0x20202020, 0x20202020, 0x20202020);
        Check.same("undo", x.undo(), true);
        Check.same("the seed as ahead of it", x.seed(55), 55);
        Check.same("nobody was sent", x.count(13) + x.accused(0, 3) + x.accused(0, 2), 0);
        Check.same("fault() stays", x.fault(), 4);
        Check.tapeHas("the tape stays", x, 20);
        Check.same("the image stays", x.back(), true);
        Check.same("kept with the ride", x.count(13), 1);
        Check.same("kept with the seed", x.seed(1), 66);
        Check.tapeHas("the tape stays", x, 20);
        Check.same("it is a text still", x.court(), 2);
        Check.same("day", x.count(4), 7);
    }

    private static void noneRemembered() {
        Check.sentence("A text, going back: none are remembered.");
        GhostAssize x = new GhostAssize();
        x.calm(4);
        x.calm(5);
        Check.more(x, "");
        Check.same("an empty court", x.count(14), 0);
        Check.same("an empty court", x.undo(), false);
        x.calm(6);
        Check.law(x, "");
        Check.same("an empty law", x.count(14), 0);
        Check.same("an empty law", x.undo(), false);
        x.image();
        x.calm(7);
        Check.same("an image remembers", x.count(14), 1);
        Check.same("back", x.back(), true);
        Check.same("going back", x.count(14), 0);
        Check.same("going back", x.undo(), false);
        Check.same("calm as it was kept", x.count(5), 6);
        x.calm(8);
        x.image();
        Check.same("keeping is no going back", x.count(14), 1);
        Check.same("undo", x.undo(), true);
        Check.same("calm", x.count(5), 6);
        Check.same("back to a later one", x.back(), true);
        Check.same("calm", x.count(5), 8);
        Check.same("acts of before are not remembered", x.undo(), false);
        x.calm(1);
        Check.courtFault(x, "x", 0);
        Check.lawFault(x, "x", 0);
        Check.same("wrong texts change nothing", x.count(14), 1);
        // Twelve, then a text, then one: none of the older ones comes back.
        for (int i = 0; i < 13; i++) {
            x.calm(i % 10);
        }
        Check.law(x, "wear 1");
        x.calm(9);
        Check.same("one", x.count(14), 1);
        Check.same("undo", x.undo(), true);
        Check.same("undo", x.undo(), false);
        Check.same("calm", x.count(5), 2);
    }

    private static void imageNone() {
        Check.sentence("One goes back to THE IMAGE: true; false, and nothing happens, if none was kept.");
        GhostAssize x = Check.court(COURT);
        Check.courtFault(x, "day x", 4);
        x.calm(9);
        x.feed(0, 0, 0, 0, 0);
        String now = View.ofAll(x);
        Check.same("none was kept", x.back(), false);
        Check.same("nothing happens", View.ofAll(x), now);
        Check.tapeHas("nothing happens", x, 20);
        Check.same("the act is undone", x.undo(), true);
        x.image();
        x.calm(8);
        Check.same("one was kept", x.back(), true);
        Check.same("calm", x.count(5), 3);
        x.calm(7);
        Check.same("it is kept still", x.back(), true);
        Check.same("calm", x.count(5), 3);
    }

    private static void imageOne() {
        Check.sentence("THE IMAGE (one) of all may be kept, and gone back to");
        GhostAssize x = new GhostAssize();
        x.image();
        Check.more(x, COURT);
        x.image();
        x.calm(9);
        Check.same("back", x.back(), true);
        Check.same("the later one", x.count(0), 2);
        Check.same("calm", x.count(5), 3);
        Check.same("back again", x.back(), true);
        Check.same("the earlier one is gone", x.count(0), 2);
        Check.sentence("THE IMAGE is kept.");
        x.calm(6);
        x.undo();
        x.image();
        Check.same("as it is when kept", x.back(), true);
        Check.same("calm", x.count(5), 3);
        GhostAssize y = new GhostAssize();
        y.image();
        Check.more(y, COURT);
        Check.law(y, "wear 3");
        Check.same("back to nothing", y.back(), true);
        Check.same("nothing", View.ofAll(y), View.ofAll(new GhostAssize()));
    }

    private static void imageBut() {
        Check.sentence("(but for the TAPE, fault() and THE IMAGE itself).");
        GhostAssize x = Check.court(COURT);
        Check.courtFault(x, "day x", 4);
        x.feed(0x20202020, 0x20202020, 0x20202020, 0x20202020, 0x20202020);
        x.image();
        Check.tapeHas("kept", x, 20);
        x.end(0);
        Check.lawFault(x, "wear", 4);
        Check.lawFault(x, "wear 1 if", 9);
        x.feed(0x64617920, 0x37202020, 0x20202020, 0x20202020, 0x20202020);
        x.feed(0x20202020, 0x20202020, 0x20202020, 0x20202020, 0x20202020);
        Check.same("back", x.back(), true);
        Check.same("fault() stays", x.fault(), 9);
        Check.tapeHas("the tape stays", x, 40);
        Check.same("the tape stays", x.court(), 2);
        Check.same("day", x.count(4), 7);
    }

    private static void imageOfAll() {
        Check.sentence("THE IMAGE (one) of all may be kept, and gone back to");
        GhostAssize x = Check.court(COURT);
        Check.law(x, "fright 2 if worn>9;wear 2");
        x.seed(-9);
        for (Consumer<GhostAssize> act : acts()) {
            act.accept(x);
        }
        x.image();
        String kept = View.ofCourt(x);
        Check.more(x, "prop c jerk 9 at 5;accused nerve 9;calm 1;echo 1;day 1");
        Check.law(x, "ease 3");
        x.seed(8);
        x.send(3);
        x.nail(0, 0);
        x.down(9);
        Check.same("changed", kept.equals(View.ofCourt(x)), false);
        Check.same("back", x.back(), true);
        Check.same("all as it was kept", View.ofCourt(x), kept);
    }

    private static void imageOfLog() {
        Check.sentence("THE IMAGE (one) of all may be kept, and gone back to");
        GhostAssize x = Check.court("prop a jerk 5 at 0;prop b jerk 5 at 9;accused nerve 60;accused nerve 60");
        int[] tense = new int[60];
        for (int i = 59; i >= 0; i--) {
            x.send(i % 2);
            x.recall(i % 2);
            tense[i] = x.log(0, 3);
        }
        x.image();
        x.mornings(9);
        for (int i = 0; i < 60; i++) {
            x.send(0);
            x.recall(0);
        }
        Check.same("all are of another day", x.log(59, 0), 9);
        Check.same("back", x.back(), true);
        for (int ago = 0; ago < 60; ago++) {
            Check.same("tense of the row " + ago + " ago", x.log(ago, 3), tense[ago]);
        }
        Check.same("rows of both", x.led(0, false) * 100 + x.led(1, false), 3030);
        Check.same("the day of the oldest", x.log(59, 0), 0);
    }

    private static void counts() {
        Check.sentence("NONE for another what.");
        GhostAssize x = Check.court(COURT);
        for (int what : new int[] {-1, 15, 16, Integer.MIN_VALUE, Integer.MAX_VALUE}) {
            Check.same("count " + what, x.count(what), NONE);
        }
        Check.sentence("7 SLOTS with a PROP, as bits,");
        GhostAssize y = Check.court("prop a jerk 1 at 0;prop b jerk 1 at 9 worn 99;prop c jerk 1 worn 99");
        Check.same("slots", y.count(7), 513);
        Check.sentence("12 WORN of all PROPS together,");
        Check.same("nailed or not", y.count(12), 198);
        Check.same("eight of 99", Check.court(Check.times(8, "prop a jerk 1 worn 99", ";")).count(12), 792);
        Check.sentence("8, 9, 10, 11 ACCUSED of the STATES 0 to 3, as bits,");
        GhostAssize z = Check.court("prop a jerk 9 at 0;accused nerve 60;accused nerve 1;accused nerve 60;accused nerve 1"
                + ";accused nerve 1;accused nerve 60");
        Check.same("all wait", z.count(8), 63);
        z.send(0);
        z.send(1);
        z.inside(5);
        z.inside(2);
        Check.same("wait", z.count(8), 24);
        Check.same("let go", z.count(9), 2);
        Check.same("held", z.count(10), 1);
        Check.same("inside", z.count(11), 36);
        Check.sentence("Sets are bits; of none they count for nothing.");
        GhostAssize none = new GhostAssize();
        int bits = none.count(7) | none.count(8) | none.count(9) | none.count(10) | none.count(11) | none.cover() | none.leave()
                | none.all(false) | none.all(true) | none.found(1, true);
        Check.same("sets of none", bits, 0);
    }

    private static void fiveHundredCalls() {
        Check.sentence("An object is used for at most 512 calls after it has been made;");
        GhostAssize x = new GhostAssize();
        for (int call = 1; call <= 512; call++) {
            Check.same("call " + call, x.calm(call % 10), call == 1 ? 2 : (call - 1) % 10);
        }
    }
}
