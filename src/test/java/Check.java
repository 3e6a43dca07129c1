import java.nio.ByteBuffer;
import java.nio.charset.StandardCharsets;
import java.util.Arrays;

/** What the tests of the promises share: texts on the tape, answers held against what is due, and the end of a test. */
final class Check {
    private static int made = 0;
    private static int wrong = 0;

    private Check() {
    }

    static void same(String what, long got, long want) {
        made++;
        if (got != want) {
            wrong++;
            System.out.println(what + " answered " + got + ", due is " + want);
        }
    }

    static void same(String what, boolean got, boolean want) {
        same(what, got ? 1 : 0, want ? 1 : 0);
    }

    /** The call must throw just this class: a class below it would be the machine's own. */
    static void fails(String what, Class<? extends RuntimeException> due, Runnable call) {
        made++;
        Object got = "nothing";
        try {
            call.run();
        } catch (RuntimeException e) {
            got = e.getClass();
        }
        if (got != due) {
            wrong++;
            System.out.println(what + " threw " + got + ", due is " + due);
        }
    }

    static void noOne(String what, Runnable call) {
        fails(what, IndexOutOfBoundsException.class, call);
    }

    static void notThat(String what, Runnable call) {
        fails(what, IllegalArgumentException.class, call);
    }

    static void cannotBe(String what, Runnable call) {
        fails(what, IllegalStateException.class, call);
    }

    static void noSuch(String what, Runnable call) {
        fails(what, java.util.NoSuchElementException.class, call);
    }

    static void tape(GhostAssize x, String text) {
        byte[] bytes = text.getBytes(StandardCharsets.ISO_8859_1);
        int feeds = (bytes.length + 19) / 20;
        ByteBuffer b = ByteBuffer.wrap(Arrays.copyOf(bytes, feeds * 20));
        x.end(0);
        for (int i = 0; i < feeds; i++) {
            x.feed(b.getInt(), b.getInt(), b.getInt(), b.getInt(), b.getInt());
        }
        same("end behind a text", x.end(bytes.length), true);
    }

    static GhostAssize court(String text) {
        GhostAssize x = new GhostAssize();
        more(x, text);
        return x;
    }

    static void more(GhostAssize x, String text) {
        tape(x, text);
        x.court();
    }

    static GhostAssize law(GhostAssize x, String text) {
        tape(x, text);
        x.law();
        return x;
    }

    /** The first wrong byte of a text of the court on x; NONE if it is right. */
    static void courtFault(GhostAssize x, String text, int want) {
        tape(x, text);
        boolean threw = false;
        try {
            x.court();
        } catch (IllegalArgumentException e) {
            threw = true;
        }
        same("fault of court «" + text + "»", x.fault(), want);
        same("court «" + text + "» throws", threw, want != GhostAssize.NONE);
        same("the tape is used up", x.end(1), false);
    }

    static void lawFault(GhostAssize x, String text, int want) {
        tape(x, text);
        boolean threw = false;
        try {
            x.law();
        } catch (IllegalArgumentException e) {
            threw = true;
        }
        same("fault of law «" + text + "»", x.fault(), want);
        same("law «" + text + "» throws", threw, want != GhostAssize.NONE);
        same("the tape is used up", x.end(1), false);
    }

    static void close() {
        System.out.println(made + " checks, " + wrong + " wrong");
        if (wrong != 0) {
            System.exit(1);
        }
    }
}
