import java.lang.reflect.InvocationTargetException;
import java.lang.reflect.Method;
import java.nio.charset.StandardCharsets;
import java.util.ArrayList;
import java.util.Arrays;
import java.util.Comparator;
import java.util.List;
import java.util.Random;

/** Runs of 512 calls by a fixed seed, on the class and on Model: each answer and each exception must be the same. */
final class RandomRunsTest {
    private static final int RUNS = 400;
    private static final int CALLS = 512;
    // A text of 400 bytes: two ends, twenty feeds, the reading and its fault.
    private static final int LONGEST = 24;
    private static final List<Class<?>> DUE = List.of(IllegalArgumentException.class, IllegalStateException.class,
            IndexOutOfBoundsException.class, UnsupportedOperationException.class,
            java.util.NoSuchElementException.class);

    private final Random random;
    private final boolean isOfActs;
    private final int rare;
    private final GhostAssize real = new GhostAssize();
    private final Model model = new Model();
    private final List<String> told = new ArrayList<>();
    private static int compared = 0;
    private static int thrown = 0;

    private RandomRunsTest(long seed) {
        random = new Random(seed);
        isOfActs = random.nextInt(3) == 0;
        rare = isOfActs ? 0 : 3;
    }

    public static void main(String[] args) throws Exception {
        int runs = args.length > 0 ? Integer.parseInt(args[0]) : RUNS;
        long first = args.length > 1 ? Long.parseLong(args[1]) : 1;
        for (long seed = first; seed < first + runs; seed++) {
            if (!new RandomRunsTest(seed).run(seed)) {
                System.exit(1);
            }
        }
        System.out.println(runs + " runs, " + compared + " answers compared, " + thrown + " of them exceptions");
    }

    private boolean run(long seed) throws Exception {
        Method[] face = GhostAssize.class.getDeclaredMethods();
        List<Method> methods = new ArrayList<>();
        for (Method m : face) {
            if (java.lang.reflect.Modifier.isPublic(m.getModifiers())) {
                methods.add(m);
            }
        }
        methods.sort(Comparator.comparing(Method::getName));
        int calls = 0;
        while (calls < CALLS - LONGEST) {
            int kind = random.nextInt(100);
            if (calls < 60 ? kind < 35 : kind < rare) {
                calls += text(courtText(), "court");
            } else if (calls < 60 ? kind < 55 : kind < rare + 4) {
                calls += text(lawText(), "law");
            } else if (kind < 60 && kind >= 55) {
                calls += frights();
            } else {
                Method m = methods.get(random.nextInt(methods.size()));
                for (int i = 0; i < 4 && isOfActs && !ofActs(m.getName()); i++) {
                    m = methods.get(random.nextInt(methods.size()));
                }
                if (m.getName().matches(isOfActs ? "swap|next|back|inside" : "swap|next") && random.nextInt(5) != 0) {
                    continue;
                }
                call(m.getName(), arguments(m));
                calls++;
            }
            if (told.size() > 0 && told.get(told.size() - 1).startsWith("WRONG")) {
                System.out.println("seed " + seed + ":");
                told.forEach(System.out::println);
                return false;
            }
        }
        return true;
    }

    private boolean ofActs(String name) {
        return name.matches("send|recall") || name.matches("undo|log|led|count|mornings|nail|down|mend|seed|calm")
                && random.nextInt(4) == 0;
    }

    private Object[] arguments(Method m) {
        Class<?>[] types = m.getParameterTypes();
        Object[] values = new Object[types.length];
        for (int i = 0; i < types.length; i++) {
            values[i] = types[i] == boolean.class ? (Object) random.nextBoolean() : (Object) number(m.getName(), i);
        }
        return values;
    }

    private int number(String name, int place) {
        int kind = random.nextInt(60);
        if (kind == 0) {
            return random.nextInt();
        }
        if (kind == 1) {
            return random.nextBoolean() ? Integer.MIN_VALUE : Integer.MAX_VALUE;
        }
        switch (name + place) {
            case "prop0", "nail0", "mend0", "lasts0", "share0":
                return near(model.w.props.size());
            case "accused0", "fright0", "send0", "recall0", "inside0", "straight0", "tense0", "ways0", "at0", "odds0",
                    "car0", "car1", "corners0", "usher0", "lasts1", "share1", "led0":
                return near(model.w.people.size());
            case "prop1", "accused1", "log1":
                return near(4);
            case "slot0", "fright1", "nail1", "down0", "tense1", "at1", "calm0":
                return near(10);
            case "fright2":
                return near(100);
            case "mornings0":
                return near(61) / (1 + random.nextInt(8));
            case "trial0", "span0":
                return near(21);
            case "found0", "ask0":
                return near(61);
            case "log0":
                return near(random.nextInt(5) == 0 ? 61 : 3);
            case "count0":
                return near(15);
            default:
                return random.nextInt(100) - 5;
        }
    }

    /** Mostly one of 0 to most less 1, now and then one beside. */
    private int near(int most) {
        return most > 0 && random.nextInt(25) != 0 ? random.nextInt(most) : random.nextBoolean() ? -1 : most;
    }

    private Object answer(Object on, Class<?> in, String name, Object[] values) throws Exception {
        Class<?>[] types = new Class<?>[values.length];
        for (int i = 0; i < types.length; i++) {
            types[i] = values[i] instanceof Boolean ? boolean.class : int.class;
        }
        Method m = in.getDeclaredMethod(name, types);
        m.setAccessible(true);
        try {
            return m.invoke(on, values);
        } catch (InvocationTargetException e) {
            return e.getCause().getClass();
        }
    }

    private void call(String name, Object... values) throws Exception {
        Object due = answer(model, Model.class, name, values);
        Object got = answer(real, GhostAssize.class, name, values);
        String row = name + Arrays.toString(values) + " -> " + got;
        compared++;
        if (got instanceof Class) {
            thrown++;
        }
        boolean right = due == null ? got == null : due.equals(got);
        if (got instanceof Class && !DUE.contains(got)) {
            right = false;
        }
        told.add(right ? row : "WRONG " + row + ", due is " + due);
    }

    private int text(String text, String name) throws Exception {
        byte[] bytes = text.getBytes(StandardCharsets.ISO_8859_1);
        told.add("text: " + text);
        int calls = tape(bytes);
        call(name);
        call("fault");
        return calls + 2;
    }

    private int tape(byte[] bytes) throws Exception {
        int n = Math.min(400, bytes.length);
        int feeds = (n + 19) / 20;
        byte[] padded = Arrays.copyOf(bytes, feeds * 20);
        java.nio.ByteBuffer b = java.nio.ByteBuffer.wrap(padded, 0, feeds * 20);
        call("end", 0);
        for (int i = 0; i < feeds; i++) {
            call("feed", b.getInt(), b.getInt(), b.getInt(), b.getInt(), b.getInt());
        }
        call("end", n);
        return feeds + 2;
    }

    private int frights() throws Exception {
        int pairs = random.nextInt(random.nextInt(10) == 0 ? 22 : 3);
        byte[] bytes = new byte[2 * pairs + (random.nextInt(15) == 0 ? 1 : 0)];
        Model.Accused stranger = new Model.Accused();
        stranger.deeds = random.nextInt(64);
        stranger.nerve = 1 + random.nextInt(60);
        Model.Told told = Model.ride(model.w, stranger, () -> 1, -1, true);
        for (int i = 0; i + 1 < bytes.length; i += 2) {
            int slot = random.nextInt(random.nextInt(30) == 0 ? 12 : 10);
            bytes[i] = (byte) slot;
            int by = slot < 10 ? told.fright.getOrDefault(model.w.propIn(slot), 0) : 0;
            bytes[i + 1] = (byte) (random.nextInt(12) == 0 ? random.nextInt(256) : by);
        }
        int calls = tape(bytes) + 1;
        int nerve = random.nextInt(12) == 0 ? near(61) : stranger.nerve;
        if (random.nextBoolean()) {
            call("found", nerve, random.nextBoolean());
        } else {
            call("ask", nerve);
        }
        return calls;
    }

    private String courtText() {
        StringBuilder s = new StringBuilder(blanks());
        int lines = random.nextInt(random.nextInt(10) == 0 ? 16 : 7);
        for (int i = 0; i < lines; i++) {
            if (i > 0) {
                s.append(';').append(blanks());
            }
            switch (random.nextInt(8)) {
                case 0, 1, 2, 3:
                    propLine(s);
                    break;
                case 4, 5, 6:
                    accusedLine(s);
                    break;
                default:
                    s.append(pick("calm ", "echo ", "day ")).append(random.nextInt(random.nextInt(6) == 0 ? 30 : 10));
            }
        }
        return spoiled(s);
    }

    private void propLine(StringBuilder s) {
        s.append("prop ").append((char) ('a' + random.nextInt(random.nextInt(20) == 0 ? 7 : 6)));
        s.append(" jerk ").append(random.nextInt(random.nextInt(20) == 0 ? 23 : 15));
        if (random.nextInt(4) != 0) {
            int slot = random.nextInt(10);
            for (int i = 0; i < 10 && (model.w.propIn(slot) >= 0 || s.indexOf("at " + slot) >= 0); i++) {
                slot = random.nextInt(random.nextInt(20) == 0 ? 11 : 10);
            }
            s.append(" at ").append(slot);
        }
        if (random.nextInt(3) == 0) {
            s.append(blanks()).append("worn ").append(random.nextInt(random.nextInt(10) == 0 ? 102 : 60));
        }
    }

    private void accusedLine(StringBuilder s) {
        s.append("accused nerve ").append(nerve());
        if (random.nextInt(5) > 1) {
            s.append(" did ");
            String letters = "";
            int n = 1 + random.nextInt(3);
            for (int i = 0; i < n; i++) {
                char c = (char) ('a' + random.nextInt(6));
                if (letters.indexOf(c) < 0 || random.nextInt(20) == 0) {
                    letters += c;
                }
            }
            s.append(letters);
        }
        if (random.nextInt(4) == 0) {
            s.append(" knows").append(blanks()).append(random.nextInt(6));
        }
    }

    private int nerve() {
        int kind = random.nextInt(10);
        if (isOfActs && kind < 5) {
            return 60;
        }
        return kind == 0 ? random.nextInt(63) : kind < 4 ? 10 * (1 + random.nextInt(6)) : 1 + random.nextInt(45);
    }

    private String lawText() {
        StringBuilder s = new StringBuilder(blanks());
        int lines = random.nextInt(random.nextInt(10) == 0 ? 15 : 6);
        for (int i = 0; i < lines; i++) {
            if (i > 0) {
                s.append(blanks()).append(';').append(blanks());
            }
            s.append(pick("fright ", "ease ", "wear ")).append(random.nextInt(random.nextInt(20) == 0 ? 33 : 9));
            if (random.nextInt(5) == 0) {
                s.append(" if guilty");
            } else if (random.nextInt(4) != 0) {
                s.append(" if ");
                condition(s, 0);
            }
        }
        return spoiled(s);
    }

    private void condition(StringBuilder s, int deep) {
        int parts = 1 + random.nextInt(random.nextInt(3) == 0 ? 3 : 1);
        for (int i = 0; i < parts; i++) {
            if (i > 0) {
                s.append(pick(" and ", " or "));
            }
            atom(s, deep);
        }
    }

    private void atom(StringBuilder s, int deep) {
        int kind = random.nextInt(deep > 6 ? 8 : 11);
        if (kind < 3) {
            s.append(pick("knows", "guilty", "guilty"));
        } else if (kind < 8) {
            sum(s);
            s.append(blanks()).append(pick("<", ">")).append(blanks());
            sum(s);
        } else if (kind == 8) {
            s.append('(').append(blanks());
            condition(s, deep + 1);
            s.append(blanks()).append(')');
        } else {
            s.append("not ");
            atom(s, deep + 1);
        }
    }

    private void sum(StringBuilder s) {
        int parts = 1 + random.nextInt(random.nextInt(3) == 0 ? 3 : 1);
        for (int i = 0; i < parts; i++) {
            if (i > 0) {
                s.append(blanks()).append('+').append(blanks());
            }
            if (random.nextInt(2) == 0) {
                s.append(random.nextInt(random.nextInt(10) == 0 ? 1100 : 30));
            } else {
                s.append(pick("prop", "slot", "jerk", "worn", "tense", "tense", "nerve"));
            }
        }
    }

    private String spoiled(StringBuilder s) {
        int times = random.nextInt(4) == 0 ? 1 + random.nextInt(2) : 0;
        for (int i = 0; i < times && s.length() > 0; i++) {
            int at = random.nextInt(s.length());
            switch (random.nextInt(4)) {
                case 0:
                    s.deleteCharAt(at);
                    break;
                case 1:
                    s.insert(at, pick(";", " ", "0", "a", "(", "not ", "+", "<", "9", "z"));
                    break;
                case 2:
                    s.setCharAt(at, (char) random.nextInt(256));
                    break;
                default:
                    s.setLength(at);
            }
        }
        return s.toString();
    }

    private String blanks() {
        return random.nextInt(4) == 0 ? "  ".substring(random.nextInt(2)) : "";
    }

    private String pick(String... of) {
        return of[random.nextInt(of.length)];
    }
}
