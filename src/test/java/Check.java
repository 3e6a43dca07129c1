import java.nio.ByteBuffer;
import java.nio.charset.StandardCharsets;
import java.util.Arrays;

/** What the tests of the promises share: texts on the tape, answers held against what is due, and the end of a test. */
final class Check {
    private static int made = 0;
    private static int wrong = 0;
    private static String sentence = "";

    private Check() {
    }

    /** The document's words that the checks from here on are about; EdgeListTest finds them in the document. */
    static void sentence(String words) {
        sentence = "[" + words + "] ";
    }

    private static void tellWrong(String what) {
        wrong++;
        System.out.println(sentence + what);
    }

    static void same(String what, long got, long want) {
        made++;
        if (got != want) {
            tellWrong(what + " answered " + got + ", due is " + want);
        }
    }

    static void same(String what, String got, String want) {
        made++;
        if (!got.equals(want)) {
            tellWrong(what + " is\n  " + got + ", due is\n  " + want);
        }
    }

    static void same(String what, boolean got, boolean want) {
        same(what, got ? 1 : 0, want ? 1 : 0);
    }

    /** The call must throw just this class: a class below it would be the machine's own. */
    static void fails(String what, Class<? extends RuntimeException> due, Runnable call) {
        made++;
        Object got = "nothing";
        try {
            call.run();
        } catch (RuntimeException e) {
            got = e.getClass();
        }
        if (got != due) {
            tellWrong(what + " threw " + got + ", due is " + due);
        }
    }

    static void noOne(String what, Runnable call) {
        fails(what, IndexOutOfBoundsException.class, call);
    }

    static void notThat(String what, Runnable call) {
        fails(what, IllegalArgumentException.class, call);
    }

    static void cannotBe(String what, Runnable call) {
        fails(what, IllegalStateException.class, call);
    }

    static void noSuch(String what, Runnable call) {
        fails(what, java.util.NoSuchElementException.class, call);
    }

    static void tape(GhostAssize x, String text) {
        byte[] bytes = text.getBytes(StandardCharsets.ISO_8859_1);
        int feeds = (bytes.length + 19) / 20;
        ByteBuffer b = ByteBuffer.wrap(Arrays.copyOf(bytes, feeds * 20));
        x.end(0);
        for (int i = 0; i < feeds; i++) {
            x.feed(b.getInt(), b.getInt(), b.getInt(), b.getInt(), b.getInt());
        }
        same("end behind a text", x.end(bytes.length), true);
    }

    static GhostAssize court(String text) {
        GhostAssize x = new GhostAssize();
        more(x, text);
        return x;
    }

    /** As many of a text as are told, with a sign between them. */
    static String times(int many, String text, String between) {
        return String.join(between, java.util.Collections.nCopies(many, text));
    }

    /** How many bytes the tape has: looked at without a change. */
    static void tapeHas(String what, GhostAssize x, int bytes) {
        same(what + ": the tape has no more", x.end(bytes + 1), false);
        same(what + ": the tape has as many", x.end(bytes), true);
    }

    static void more(GhostAssize x, String text) {
        tape(x, text);
        x.court();
    }

    static GhostAssize law(GhostAssize x, String text) {
        tape(x, text);
        x.law();
        return x;
    }

    /** The first wrong byte of a text of the court on x; NONE if it is right. */
    static void courtFault(GhostAssize x, String text, int want) {
        tape(x, text);
        boolean threw = false;
        try {
            x.court();
        } catch (IllegalArgumentException e) {
            threw = true;
        }
        same("fault of court «" + text + "»", x.fault(), want);
        same("court «" + text + "» throws", threw, want != GhostAssize.NONE);
        same("the tape is used up", x.end(1), false);
    }

    static void lawFault(GhostAssize x, String text, int want) {
        tape(x, text);
        boolean threw = false;
        try {
            x.law();
        } catch (IllegalArgumentException e) {
            threw = true;
        }
        same("fault of law «" + text + "»", x.fault(), want);
        same("law «" + text + "» throws", threw, want != GhostAssize.NONE);
        same("the tape is used up", x.end(1), false);
    }

    static void close() {
        System.out.println(made + " checks, " + wrong + " wrong");
        if (wrong != 0) {
            System.exit(1);
        }
    }
}
