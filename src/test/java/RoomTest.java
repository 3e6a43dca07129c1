import com.sun.management.ThreadMXBean;
import java.lang.management.ManagementFactory;
import java.util.function.Consumer;

/**
 * All calls of a run live in one room of some 600,000 objects and 7.3 million fields and elements: a call makes nothing
 * new, but for law(), and what an object and the longest laws make is small.
 */
final class RoomTest {
    private static final ThreadMXBean BEAN = (ThreadMXBean) ManagementFactory.getThreadMXBean();
    private static final int CALLS = 512;

    public static void main(String[] args) {
        callsMakeNothing();
        lawsStaySmall();
        objectsStaySmall();
        Check.close();
    }

    private static long bytes() {
        return BEAN.getThreadAllocatedBytes(Thread.currentThread().getId());
    }

    private static GhostAssize full() {
        GhostAssize x = Check.court("prop a jerk 5 at 0;prop b jerk 6 at 1;prop c jerk 7 at 3;prop d jerk 4 at 4"
                + ";prop e jerk 3 at 5;prop f jerk 2 at 6;prop a jerk 9 at 8;prop b jerk 1;accused nerve 30 did a;accused nerve 40");
        Check.more(x, "accused nerve 25 did bc;accused nerve 50 did f;accused nerve 45;accused nerve 60 did abcdef");
        return Check.law(x, "fright 5 if guilty and not knows;ease 2 if tense>20 or worn>5;wear 2 if slot+prop<nerve;ease 1 if knows");
    }

    private static void callsMakeNothing() {
        make("straight", x -> x.straight(0));
        make("tense", x -> x.tense(1, 9));
        make("ways", x -> x.ways(2));
        make("at", x -> x.at(2, 4));
        make("odds", x -> x.odds(3));
        make("gap", x -> x.gap());
        make("errors", x -> x.errors(true));
        make("swap", x -> x.swap());
        make("next", x -> x.next());
        make("found", x -> x.found(30, true));
        make("ask", x -> x.ask(30));
        make("car", x -> x.car(0, 1));
        make("corners", x -> x.corners(1));
        make("cover", x -> x.cover());
        make("leave", x -> x.leave());
        make("bravest", x -> x.bravest());
        make("alike", x -> x.alike());
        make("usher", x -> x.usher(2));
        make("lasts", x -> x.lasts(2, 1));
        make("all", x -> x.all(true));
        make("share", x -> x.share(2, 1));
        make("loudest", x -> x.loudest());
        make("trial", x -> x.trial(20));
        make("span", x -> x.span(20, true));
        make("mornings", x -> x.mornings(3));
        make("calm and undo", x -> {
            x.calm(3);
            x.undo();
        });
        make("image and back", x -> {
            x.image();
            x.back();
        });
        make("send and undo", x -> {
            x.send(5);
            x.undo();
        });
        make("feed and end", x -> {
            x.feed(1, 2, 3, 4, 5);
            x.end(0);
        });
    }

    private static void make(String what, Consumer<GhostAssize> call) {
        GhostAssize x = full();
        call.accept(x);
        long ahead = bytes();
        for (int i = 0; i < CALLS; i++) {
            call.accept(x);
        }
        long made = bytes() - ahead;
        // The meter itself makes a little.
        Check.same(what + " makes nothing, but " + made, made < 4096, true);
    }

    private static void lawsStaySmall() {
        StringBuilder s = new StringBuilder("fright 1 if 1<2");
        while (s.length() + 5 <= 400) {
            s.append("or1<2");
        }
        GhostAssize x = full();
        Check.tape(x, s.toString());
        long ahead = bytes();
        x.law();
        long made = bytes() - ahead;
        Check.same("the longest law makes " + made, made < 4 * 700, true);
        // Twenty feeds, an end and a law at most 23 times in a run; laws of one feed at most 170 times.
        Check.same("holds", x.fright(1, 0, 0, false), 6);
    }

    private static void objectsStaySmall() {
        new GhostAssize();
        long ahead = bytes();
        GhostAssize x = new GhostAssize();
        long made = bytes() - ahead;
        Check.same("an object makes " + made, made < 60000, true);
        Check.same("it is new", x.count(0), 0);
    }
}
