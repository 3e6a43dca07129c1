import java.util.function.ToIntFunction;

/** Each sentence of "Terms" and of promises 1 to 6 that names an edge: the edge itself, and one step on either side. */
final class EdgeTextTest {
    private static final int NONE = GhostAssize.NONE;
    private static final String EIGHT = Check.times(8, "prop a jerk 1", ";");
    private static final String SIX = Check.times(6, "accused nerve 1", ";");

    public static void main(String[] args) {
        tapeFull();
        tapeCut();
        atFirst();
        props();
        propNumbers();
        people();
        deedsOfOne();
        courtNumbers();
        texts();
        courtLines();
        slotsTaken();
        propsKnown();
        digits();
        lawLines();
        lawNumbers();
        lawInPlace();
        words();
        blanks();
        emptyTexts();
        deep();
        deepAgain();
        wrongThings();
        wrongSigns();
        moreMustCome();
        wholeTape();
        nothingStays();
        faults();
        Check.close();
    }

    private static void court(String text, int want) {
        Check.courtFault(new GhostAssize(), text, want);
    }

    private static void law(String text, int want) {
        Check.lawFault(new GhostAssize(), text, want);
    }

    private static void tapeFull() {
        Check.sentence("Twenty bytes come behind the TAPE, of each number the highest first: how many it has");
        GhostAssize z = new GhostAssize();
        Check.same("from none", z.feed(0x20206461, 0x79203132, 0x33202020, 0x20202020, 0x2020203b), 20);
        Check.same("behind them", z.feed(0x65636820, 0x6f203720, 0, 0, 0), 40);
        Check.same("cut", z.end(23), true);
        Check.same("behind the cut", z.feed(0x6f203720, 0x20202020, 0x20202020, 0x20202020, 0x20202020), 43);
        Check.same("«  day 123 ;ech» and «o 7 » are one behind another", z.court(), 1);
        Check.same("day", z.count(4), 123);
        Check.same("echo", z.count(6), 7);

        Check.sentence("NONE, and none come, if it would have more than 400.");
        for (int spare : new int[] {0, 1, 19, 20, 21}) {
            GhostAssize x = new GhostAssize();
            for (int i = 1; i <= 20; i++) {
                Check.same("feed " + i, x.feed(0x20202020, 0x20202020, 0x20202020, 0x20202020, 0x20202020), 20 * i);
            }
            Check.same("cut", x.end(400 - spare), true);
            Check.same("feed with room for " + spare, x.feed(0x64617920, 0x37202020, 0x20202020, 0x20202020, 0x20202020),
                    spare >= 20 ? 420 - spare : NONE);
            Check.tapeHas("with room for " + spare, x, spare >= 20 ? 420 - spare : 400 - spare);
            Check.same("it is a text", x.court(), 1);
            Check.same("day, if it came", x.count(4), spare >= 20 ? 7 : 0);
        }
    }

    private static void tapeCut() {
        Check.sentence("The TAPE has its first n bytes alone: true");
        GhostAssize x = new GhostAssize();
        Check.same("none of none", x.end(0), true);
        x.feed(0x64617920, 0x31323320, 0x20202020, 0x20202020, 0x20202020);
        Check.same("all", x.end(20), true);
        Check.same("the first 7", x.end(7), true);
        Check.tapeHas("cut to 7", x, 7);
        Check.same("«day 123»", x.court(), 1);
        Check.same("day", x.count(4), 123);
        x.feed(0x64617920, 0x31323320, 0x20202020, 0x20202020, 0x20202020);
        Check.same("the first 5", x.end(5), true);
        Check.same("«day 1»", x.court(), 2);
        Check.same("day", x.count(4), 1);
        x.feed(0x64617920, 0x31323320, 0x20202020, 0x20202020, 0x20202020);
        Check.same("none", x.end(0), true);
        Check.tapeHas("cut to 0", x, 0);

        Check.sentence("false, and nothing happens, if it has fewer, or n is below 0.");
        GhostAssize y = new GhostAssize();
        Check.same("1 of none", y.end(1), false);
        Check.same("-1 of none", y.end(-1), false);
        y.feed(0x64617920, 0x37202020, 0x20202020, 0x20202020, 0x20202020);
        int[] wrong = {21, 400, 401, Integer.MAX_VALUE, -1, -20, Integer.MIN_VALUE};
        for (int n : wrong) {
            Check.same("end(" + n + ")", y.end(n), false);
        }
        Check.tapeHas("behind all of them", y, 20);
        Check.same("as it was", y.court(), 1);
        Check.same("day", y.count(4), 7);
    }

    private static void atFirst() {
        Check.sentence("`GhostAssize()`: An empty track.");
        GhostAssize x = new GhostAssize();
        for (int slot = 0; slot < 10; slot++) {
            Check.same("slot " + slot, x.slot(slot), NONE);
        }
        Check.same("props, accused, texts", x.count(0) + x.count(1) + x.count(2), 0);
        Check.same("no tape", x.end(1), false);
        Check.sentence("CALM 0 to 9 (2 at first)");
        Check.same("calm", x.count(5), 2);
        Check.sentence("ECHO 0 to 20 (10 at first)");
        Check.same("echo", x.count(6), 10);
        Check.sentence("DAY: 0 at first.");
        Check.same("day", x.count(4), 0);
        Check.sentence("(SEED 1 at first)");
        Check.same("seed", x.seed(1), 1);

        GhostAssize y = Check.court("prop c jerk 3;accused nerve 7");
        Check.sentence("WORN 0 to 99 (0 at first)");
        Check.same("worn", y.prop(0, 2), 0);
        Check.sentence("NAILED in a SLOT or not (not at first;");
        Check.same("slot", y.prop(0, 3), NONE);
        Check.same("no slot has it", y.count(7), 0);
        Check.sentence("DEEDS a to f that they did, as bits (maybe none)");
        Check.same("deeds", y.accused(0, 0), 0);
        Check.sentence("KNOWS: PROPS they passed, as bits (none at first)");
        Check.same("knows", y.accused(0, 2), 0);
        Check.sentence("a STATE: 0 waits (at first), 1 let go, 2 held, 3 works inside.");
        Check.same("state", y.accused(0, 3), 0);
        Check.same("waits", y.count(8), 1);
    }

    private static void props() {
        Check.sentence("PROPS (at most 8, numbered from 0 on)");
        GhostAssize x = new GhostAssize();
        Check.noOne("none is 0", () -> x.prop(0, 0));
        Check.courtFault(x, Check.times(7, "prop b jerk 1", ";"), NONE);
        Check.noOne("seven: 7 is none", () -> x.prop(7, 0));
        Check.courtFault(x, "day 9;prop c jerk 2", NONE);
        Check.same("the eighth is 7", x.prop(7, 1), 2);
        Check.noOne("eight: 8 is none", () -> x.prop(8, 0));
        Check.courtFault(x, "day 8; prop d jerk 3", 7);
        Check.courtFault(x, "prop", 0);
        Check.courtFault(x, "prop 7", 0);
        Check.same("eight stay", x.count(0), 8);
        Check.same("the day stays", x.count(4), 9);
        court(EIGHT, NONE);
        court(EIGHT + ";prop a jerk 1", EIGHT.length() + 1);
        court(EIGHT + ";  prop a jerk 1", EIGHT.length() + 3);
        court(EIGHT + ";prop", EIGHT.length() + 1);
        // One that is wrong is none too many: the first thing that cannot stand there is told.
        court(Check.times(7, "prop a jerk 1", ";") + ";prop g jerk 1;prop a jerk 1", 7 * 14 + 5);
    }

    private static void propNumbers() {
        Check.sentence("a DEED 0 to 5 that it shows");
        for (int deed = 0; deed < 6; deed++) {
            GhostAssize x = new GhostAssize();
            Check.courtFault(x, "prop " + (char) ('a' + deed) + " jerk 1", NONE);
            Check.same("deed", x.prop(0, 0), deed);
        }
        Check.sentence("(S: one letter a to f, its DEED;");
        court("prop g jerk 1", 5);
        court("prop z jerk 1", 5);
        court("prop ` jerk 1", 5);
        court("prop A jerk 1", 5);
        court("prop aa jerk 1", 5);
        court("prop fg jerk 1", 5);
        court("prop jerk 1", 5);
        Check.sentence("JERK 0 to 20");
        bounds("prop a jerk ", 0, 20, x -> x.prop(0, 1));
        Check.sentence("SLOTS 0 to 9 along the track.");
        bounds("prop a jerk 1 at ", 0, 9, x -> x.prop(0, 3));
        bounds("prop a jerk 1 at ", 0, 9, x -> Integer.numberOfTrailingZeros(x.count(7)));
        Check.sentence("WORN 0 to 99 (0 at first)");
        bounds("prop a jerk 1 worn ", 0, 99, x -> x.prop(0, 2));
        bounds("prop a jerk 1 at 5 worn ", 0, 99, x -> x.count(12));
    }

    /** Of a court's text that ends in a number: in its bounds it is told, beside them its begin is the wrong byte. */
    private static void bounds(String head, int low, int high, ToIntFunction<GhostAssize> told) {
        court(head + (low - 1), head.length());
        court(head + (high + 1), head.length());
        court(head + (high + 1) + ";day 1", head.length());
        court(head + "999999999999999999999", head.length());
        for (int n : new int[] {low, low + 1, high - 1, high}) {
            GhostAssize x = new GhostAssize();
            Check.courtFault(x, head + n, NONE);
            Check.same("«" + head + n + "»", told.applyAsInt(x), n);
        }
    }

    private static void people() {
        Check.sentence("ACCUSED (at most 6, numbered from 0 on)");
        GhostAssize x = new GhostAssize();
        Check.noOne("nobody is 0", () -> x.accused(0, 0));
        Check.courtFault(x, Check.times(5, "accused nerve 3", ";"), NONE);
        Check.noOne("five: 5 is nobody", () -> x.accused(5, 0));
        Check.courtFault(x, "day 9;accused nerve 4", NONE);
        Check.same("the sixth is 5", x.accused(5, 1), 4);
        Check.noOne("six: 6 is nobody", () -> x.accused(6, 0));
        Check.courtFault(x, "day 8; accused nerve 5", 7);
        Check.courtFault(x, "accused", 0);
        Check.courtFault(x, "accused 7", 0);
        Check.same("six stay", x.count(1), 6);
        Check.same("the day stays", x.count(4), 9);
        court(SIX, NONE);
        court(SIX + ";accused nerve 1", SIX.length() + 1);
        court(SIX + ";  accused nerve 1", SIX.length() + 3);
        Check.sentence("NERVE 1 to 60");
        bounds("accused nerve ", 1, 60, y -> y.accused(0, 1));
        court("accused nerve -1", 14);
    }

    private static void deedsOfOne() {
        Check.sentence("T: a word of letters a to f, none twice;");
        String[] right = {"a", "f", "ab", "fa", "abcdef", "fedcba", "bdf"};
        int[] bits = {1, 32, 3, 33, 63, 63, 42};
        for (int i = 0; i < right.length; i++) {
            GhostAssize x = new GhostAssize();
            Check.courtFault(x, "accused nerve 1 did " + right[i], NONE);
            Check.same("did " + right[i], x.accused(0, 0), bits[i]);
        }
        String[] wrong = {"g", "ag", "ga", "abcdefg", "z", "aa", "ff", "aba", "abcdefa", "abcdeff", "A", "1", "`", "{", ";"};
        for (String word : wrong) {
            court("accused nerve 1 did " + word, 20);
        }
        court("accused nerve 1 did a`", 21);
        court("accused nerve 1 did f{", 21);
        court("accused nerve 1 did a b", 22);
        court("accused nerve 1 did knows 0", 20);
    }

    private static void courtNumbers() {
        Check.sentence("CALM 0 to 9 (2 at first)");
        bounds("calm ", 0, 9, x -> x.count(5));
        Check.sentence("ECHO 0 to 20 (10 at first)");
        bounds("echo ", 0, 20, x -> x.count(6));
        Check.sentence("of day: 0 to 999.)");
        bounds("day ", 0, 999, x -> x.count(4));
        // One line behind another: the last one stays.
        GhostAssize x = Check.court("calm 9;echo 20;day 999;day 0;echo 0;calm 0");
        Check.same("all 0", x.count(4) + x.count(5) + x.count(6), 0);
    }

    private static void texts() {
        Check.sentence("THE COURT is told in texts (at most 12, one behind another)");
        GhostAssize x = new GhostAssize();
        for (int i = 1; i <= 11; i++) {
            Check.tape(x, "day " + i);
            Check.same("text " + i, x.court(), i);
        }
        Check.courtFault(x, "day x", 4);
        Check.same("a wrong one is none", x.count(2), 11);
        x.image();
        Check.tape(x, "day 12");
        Check.same("the twelfth", x.court(), 12);
        Check.sentence("Uses the TAPE up: a text of THE COURT: how many there are."
                + " IllegalArgumentException: it is wrong; UnsupportedOperationException: there are 12.");
        Check.tape(x, "day 13");
        Check.fails("a 13th", UnsupportedOperationException.class, () -> x.court());
        Check.tapeHas("it is used up", x, 0);
        Check.fails("a 13th that is empty", UnsupportedOperationException.class, () -> x.court());
        Check.tape(x, "day 13;day x");
        Check.notThat("a 13th that is wrong", () -> x.court());
        Check.tapeHas("it is used up", x, 0);
        Check.same("its first wrong byte", x.fault(), 11);
        Check.same("twelve", x.count(2), 12);
        Check.same("day", x.count(4), 12);
        Check.tape(x, "fright 5");
        Check.same("a law is none of them", x.law(), 1);
        Check.same("back to eleven", x.back(), true);
        Check.tape(x, "day 77");
        Check.same("the twelfth again", x.court(), 12);
        Check.fails("a 13th again", UnsupportedOperationException.class, () -> x.court());
        Check.same("day", x.count(4), 77);
    }

    private static void courtLines() {
        Check.sentence("LINE { ; LINE }, at most 14:");
        for (int many = 1; many <= 14; many++) {
            GhostAssize x = new GhostAssize();
            Check.courtFault(x, Check.times(many - 1, "day 1;", "") + "day 2", NONE);
            Check.same("the last of " + many, x.count(4), 2);
        }
        String lines = Check.times(14, "day 1", ";");
        court(lines + ";day 1", 84);
        court(lines + ";  day 1", 86);
        court(lines + ";  prop a jerk 1", 86);
        court(lines + ";calm", 84);
        court(lines + " day 1", 84);
        court(Check.times(20, "day 1", ";"), 84);
        court(Check.times(13, "day 1", ";") + ";day x;day 1", 82);
        Check.sentence("one ACCUSED too many, the first word)");
        // The fullest court that there is: eight and six in one text of 14 lines.
        GhostAssize x = new GhostAssize();
        Check.courtFault(x, EIGHT + ";" + SIX, NONE);
        Check.same("eight", x.count(0), 8);
        Check.same("six", x.count(1), 6);
        court(EIGHT + ";" + SIX + ";day 1", EIGHT.length() + SIX.length() + 2);
        court(SIX + ";" + EIGHT + ";accused nerve 1", EIGHT.length() + SIX.length() + 2);
        court(SIX + ";" + SIX, SIX.length() + 1);
    }

    private static void slotsTaken() {
        Check.sentence("at: a SLOT without a PROP, else it is wrong;");
        court("prop a jerk 1 at 3;prop b jerk 1 at 2", NONE);
        court("prop a jerk 1 at 3;prop b jerk 1 at 3", 36);
        court("prop a jerk 1 at 3;prop b jerk 1 at 4", NONE);
        court("prop a jerk 1 at 0;prop b jerk 1 at 00", 36);
        court("prop a jerk 1 at 9;prop b jerk 1 at 009", 36);
        GhostAssize x = Check.court("prop a jerk 1 at 0;prop b jerk 1");
        Check.courtFault(x, "prop c jerk 1 at 0", 17);
        x.nail(1, 9);
        Check.courtFault(x, "prop c jerk 1 at 9", 17);
        x.down(0);
        Check.courtFault(x, "prop c jerk 1 at 0", NONE);
        Check.same("it is free again", x.slot(0), 2);
        Check.sentence("in a SLOT there is one at most)");
        Check.cannotBe("nailed upon another", () -> x.nail(0, 9));
        Check.cannotBe("nailed upon another", () -> x.nail(0, 0));
        Check.same("slots", x.count(7), 513);
        Check.same("the other one stays", x.slot(9), 1);
    }

    private static void propsKnown() {
        Check.sentence("N of knows: a PROP that there is by then;");
        court("accused nerve 1 knows 0", 22);
        court("accused nerve 1 knows 0;prop a jerk 1", 22);
        court("prop a jerk 1;accused nerve 1 knows 0", NONE);
        court("prop a jerk 1;accused nerve 1 knows 1", 36);
        court("prop a jerk 1;accused nerve 1 knows 1;prop a jerk 1", 36);
        GhostAssize x = Check.court(Check.times(7, "prop a jerk 1", ";"));
        Check.courtFault(x, "accused nerve 1 knows 7", 22);
        Check.courtFault(x, "accused nerve 1 knows 6;prop a jerk 1;accused nerve 1 knows 7;accused nerve 1 knows 0", NONE);
        Check.same("knows 6", x.accused(0, 2), 64);
        Check.same("knows 7", x.accused(1, 2), 128);
        Check.same("knows 0", x.accused(2, 2), 1);
        Check.courtFault(x, "accused nerve 1 knows 8", 22);
        Check.same("not nailed, but known", x.count(7), 0);
    }

    private static void digits() {
        Check.sentence("Numbers are of 1 to 3 digits.");
        String[] heads = {"prop a jerk ", "prop a jerk 1 at ", "prop a jerk 1 worn ", "accused nerve ",
            "prop a jerk 1;prop a jerk 1;accused nerve 1 knows ", "calm ", "echo ", "day "};
        for (String head : heads) {
            court(head + "1", NONE);
            court(head + "01", NONE);
            court(head + "001", NONE);
            court(head + "0001", head.length());
            court(head, head.length());
        }
        Check.sentence("All numbers are of 1 to 3 digits (N 0 to 30).");
        for (String head : new String[] {"fright ", "ease ", "wear ", "fright 1 if slot+", "fright 1 if slot<"}) {
            String tail = head.endsWith("+") ? ">slot" : "";
            law(head + "1" + tail, NONE);
            law(head + "01" + tail, NONE);
            law(head + "001" + tail, NONE);
            law(head + "0001" + tail, head.length());
            law(head, head.length());
        }
    }

    private static void lawLines() {
        Check.sentence("THE LAW (a text, in place of the one before): LINE { ; LINE }, at most 12:");
        for (int many = 1; many <= 12; many++) {
            GhostAssize x = Check.court("prop a jerk 0 at 0;accused nerve 1");
            Check.lawFault(x, Check.times(many, "fright 3", ";"), NONE);
            Check.same("lines", x.count(3), many);
            Check.same("each of them frights", x.fright(0, 0, 0, false), 3 * many);
        }
        String lines = Check.times(12, "ease 5", ";");
        law(lines + ";ease 5", 84);
        law(lines + ";  wear 5", 86);
        law(lines + ";fright", 84);
        law(lines + " ease 5", 84);
        law(Check.times(20, "ease 5", ";"), 84);
        law(Check.times(11, "ease 5", ";") + ";ease x;ease 5", 82);
    }

    private static void lawNumbers() {
        Check.sentence("All numbers are of 1 to 3 digits (N 0 to 30).");
        for (String word : new String[] {"fright", "ease", "wear"}) {
            for (int n : new int[] {0, 1, 29, 30}) {
                GhostAssize x = Check.court("prop a jerk 20 at 0;accused nerve 1");
                Check.lawFault(x, word + " " + n, NONE);
                int frights = word.equals("fright") ? 20 + n : word.equals("ease") ? Math.max(0, 20 - n) : 20;
                Check.same(word + " " + n + " frights", x.fright(0, 0, 0, false), frights);
                Check.same(word + " " + n + " wears", x.fright(0, 0, 0, true), word.equals("wear") ? 1 + n : 1);
            }
            law(word + " 31", word.length() + 1);
            law(word + " 300", word.length() + 1);
            law(word + " -1", word.length() + 1);
            law(word + " 31;ease 1", word.length() + 1);
        }
        // A number of a sum has no other bounds than its digits.
        law("fright 1 if 0<999", NONE);
        law("fright 1 if 999>998", NONE);
        law("fright 1 if 999<1000", 16);
        law("fright 1 if 1000>999", 12);
        GhostAssize x = Check.court("prop a jerk 0 at 0;accused nerve 1");
        Check.law(x, "fright 1 if 999+999+999>999+999+998;fright 2 if 999+999>999+999;fright 4 if 999+999<999+999+1");
        Check.same("sums of them", x.fright(0, 0, 0, false), 5);
    }

    private static void lawInPlace() {
        Check.sentence("3 LINES of THE LAW (NONE without one)");
        GhostAssize x = new GhostAssize();
        Check.same("without one", x.count(3), NONE);
        Check.lawFault(x, "fright", 6);
        Check.same("a wrong one is none", x.count(3), NONE);
        Check.law(x, "");
        Check.same("one without lines", x.count(3), 0);
        Check.law(x, "fright 1");
        Check.same("in its place", x.count(3), 1);
        Check.lawFault(x, "fright 1;ease 1;", 16);
        Check.same("it stays", x.count(3), 1);
        Check.sentence("Uses the TAPE up: THE LAW: how many LINES. IllegalArgumentException: the text is wrong.");
        Check.tape(x, Check.times(12, "wear 1", ";"));
        Check.same("twelve", x.law(), 12);
        Check.tapeHas("used up", x, 0);
        Check.tape(x, Check.times(13, "wear 1", ";"));
        Check.notThat("thirteen", () -> x.law());
        Check.tapeHas("used up", x, 0);
        Check.same("no law behind none", x.law(), 0);
        Check.same("none", x.count(3), 0);
    }

    private static void words() {
        Check.sentence("Words are as long as a to z go on;");
        court("day7", NONE);
        court("calm7echo", 5);
        court("prop a jerk1at2worn3", NONE);
        court("accused nerve1did abknows0", 18);
        court("prop a jerk 1;accused nerve1did ab knows0", NONE);
        court("propa jerk 1", 0);
        court("prop ajerk 1", 5);
        court("prop a jerkat 1", 7);
        court("dayday 1", 0);
        court("da 1", 0);
        court("dax 1", 0);
        court("day 1;xday 1", 6);
        court("accuse nerve 1", 0);
        court("accusedx nerve 1", 0);
        court("xaccused nerve 1", 0);
        court("xxxxxxxxday 1", 0);
        court("dayxxxxxxxx 1", 0);
        law("fright1if knows", NONE);
        law("fright 1 ifknows", 9);
        law("fright 1 if 1<2and 2<3or 3<4", NONE);
        law("fright 1 if 1<2andknows", 15);
        law("fright 1 if notknows", 12);
        law("fright 1 if not(knows)and(guilty)", NONE);
        law("xxfright 1", 0);
        law("frightt 1", 0);
        law("fright 1 if tensex<1", 12);
        law("fright 1 if nerv<1", 12);
    }

    private static void blanks() {
        Check.sentence("between all there may be blanks (32), also ahead and behind.");
        String[] things = {"prop", "f", "jerk", "20", "at", "9", "worn", "99", ";", "accused", "nerve", "60", "did", "fab",
            "knows", "0", ";", "calm", "9", ";", "echo", "20", ";", "day", "999"};
        for (String between : new String[] {" ", "  ", "       "}) {
            GhostAssize x = new GhostAssize();
            Check.courtFault(x, between + String.join(between, things) + between, NONE);
            Check.same("slot", x.slot(9), 0);
            Check.same("deeds", x.accused(0, 0), 35);
            Check.same("knows", x.accused(0, 2), 1);
            Check.same("day", x.count(4), 999);
        }
        String[] law = {"wear", "30", "if", "not", "(", "knows", "or", "1", "+", "jerk", "<", "3", "+", "worn", ")", "and",
            "slot", ">", "999", ";", "ease", "0"};
        for (String between : new String[] {" ", "  ", "     "}) {
            law(between + String.join(between, law) + between, NONE);
        }
        law("wear 30if not(knows or 1+jerk<3+worn)and slot>999;ease 0", NONE);
        // No other sign is a blank.
        for (int sign : new int[] {0, 9, 10, 13, 31, 33, 127, 160, 255}) {
            court("day" + (char) sign + "7", 3);
            court((char) sign + "day 7", 0);
            court("day 7" + (char) sign, 5);
            law("ease 7" + (char) sign, 6);
        }
    }

    private static void emptyTexts() {
        Check.sentence("A text that is empty, or blanks alone, has no LINE.");
        for (int many : new int[] {0, 1, 20, 399, 400}) {
            GhostAssize x = Check.court("day 5");
            Check.law(x, "fright 5");
            Check.tape(x, Check.times(many, " ", ""));
            Check.same("a court of " + many + " blanks", x.court(), 2);
            Check.same("nothing is wrong", x.fault(), NONE);
            Check.same("day", x.count(4), 5);
            Check.same("the law stays", x.count(3), 1);
            Check.tape(x, Check.times(many, " ", ""));
            Check.same("a law of " + many + " blanks", x.law(), 0);
            Check.same("nothing is wrong", x.fault(), NONE);
            Check.same("lines", x.count(3), 0);
        }
        court(";", 0);
        court(" ; ", 1);
        law(";", 0);
        law(" ; ", 1);
    }

    private static void deep() {
        Check.sentence("( and not within one another at most 6 deep.");
        for (int many = 5; many <= 7; many++) {
            for (int mix = 0; mix < 1 << many; mix++) {
                StringBuilder s = new StringBuilder("wear 1 if ");
                int sixth = 0;
                int open = 0;
                for (int i = 0; i < many; i++) {
                    sixth = i < 6 ? sixth : s.length();
                    boolean isNot = (mix >> i & 1) == 1;
                    s.append(isNot ? "not " : "(");
                    open += isNot ? 0 : 1;
                }
                s.append("guilty").append(Check.times(open, ")", ""));
                law(s.toString(), many <= 6 ? NONE : sixth);
            }
        }
    }

    private static void deepAgain() {
        Check.sentence("the ( or not that is a 7th one deep;");
        String six = "((((((knows))))))";
        String nots = "not not not not not not knows";
        law("wear 1 if " + six + " and " + six + " or " + six, NONE);
        law("wear 1 if " + nots + " and " + nots + " or " + nots, NONE);
        law("wear 1 if " + six + " or " + nots + ";ease 1 if " + six, NONE);
        law("wear 1 if " + six + " or (" + six + ")", 10 + 17 + 4 + 6);
        law("wear 1 if " + six + " or not " + six, 10 + 17 + 8 + 5);
        law("wear 1 if " + nots + " and not " + nots, 10 + 29 + 9 + 20);
        law("wear 1 if (knows and (((((knows))))) or not not not not not knows)", NONE);
        law("wear 1 if (knows and ((((((knows))))))", 10 + 11 + 5);
        law("wear 1 if (knows or not not not not not not knows)", 10 + 10 + 20);
        law("wear 1 if ((((((not knows))))))", 16);
        law("wear 1 if ((((((1 < 2 and (3 < 4)))))))", 26);
        // What is six deep counts as it must.
        GhostAssize x = Check.court("prop a jerk 0 at 0;accused nerve 1 did a");
        Check.law(x, "fright 1 if ((((((guilty))))));fright 2 if not not not not not not guilty"
                + ";fright 4 if not(not(not(guilty or knows)));fright 8 if (not(not(not guilty)))");
        Check.same("by these", x.fright(0, 0, 0, false), 3);
        Check.law(x, "fright 1 if knows or guilty and (knows or guilty and (knows or guilty and (knows or guilty and"
                + " (knows or guilty and (knows or guilty and (knows or guilty and guilty))))))");
        Check.same("six within one another, each with or and and", x.fright(0, 0, 0, false), 1);
    }

    private static void wrongThings() {
        Check.sentence("The first wrong byte: the begin of the first thing that cannot stand there (a number of more digits,"
                + " or out of its bounds, or that tells none that can be; letters that are none such; a word that is none;");
        court("  day   0001  ", 8);
        court("  day   1000  ", 8);
        court("  calm   10 ;day 1000", 9);
        court("prop a jerk 1 ;accused nerve 5 knows   1 ;day 1000", 39);
        court("accused nerve 5 did   abx ;day 1000", 22);
        court("  bat 5;day 1000", 2);
        court("day 5   bat", 8);
        court("day 5;   bat", 9);
        court("day day", 4);
        court("day 5 5", 6);
        court("day ;", 4);
        court("prop a 5", 7);
        court("prop a jerk 5 jerk 5", 14);
        court("prop a jerk 5 worn 5 at 5", 21);
        court("prop a jerk 5 at 5 at 6", 19);
        court("prop a jerk 5 worn 5 worn 5", 21);
        court("accused did a", 8);
        court("accused nerve 5 nerve 5", 16);
        court("accused nerve 5 did a did b", 22);
        court("prop a jerk 1;accused nerve 5 knows 0 did a", 38);
        law("  fright   0001", 11);
        law("  fright   031;ease 99", 11);
        law("fright 5   knows", 11);
        law("fright 5 if   bat", 14);
        law("fright 5 if knows   guilty", 20);
        law("fright 5 if knows)", 17);
        law("fright 5 if (knows;ease 99", 18);
        law("fright 5 if 1 + < 2", 16);
        law("fright 5 if + 1 < 2", 12);
        law("fright 5 if 1 < 2 < 3", 18);
        law("fright 5 if 1 < 2 +   )", 22);
        law("fright 5 if 1 <> 2", 15);
        law("fright 5 if 1 = 2", 14);
        law("fright 5 if knows + 1 < 2", 18);
        law("fright 5 if (1) < 2", 14);
        law("fright 5 if 1 and 2", 14);
    }

    private static void wrongSigns() {
        Check.sentence("the begin of the first thing that cannot stand there");
        for (int sign = 0; sign < 256; sign++) {
            boolean isBlank = sign == ' ';
            boolean isDigit = sign >= '0' && sign <= '9';
            // Alone only a blank; behind a number digits and blanks, and a ; that asks for more.
            court("" + (char) sign, isBlank ? NONE : 0);
            court("day 1" + (char) sign, isBlank || isDigit ? NONE : sign == ';' ? 6 : 5);
            law("" + (char) sign, isBlank ? NONE : 0);
            law("wear 1" + (char) sign, isBlank || isDigit ? NONE : sign == ';' ? 7 : 6);
            law("wear 1 if 1<2" + (char) sign, isBlank || isDigit ? NONE : sign == ';' || sign == '+' ? 14 : 13);
            boolean goesOn = isBlank || sign == '<' || sign == '>' || sign == '+';
            law("wear 1 if 1  " + (char) sign, goesOn ? 14 : 13);
            law("wear 1 if " + (char) sign + "knows", signAheadOfKnows(sign));
        }
    }

    private static int signAheadOfKnows(int sign) {
        if (sign == ' ') {
            return NONE;
        }
        if (sign == '(') {
            return 16;
        }
        return sign >= '0' && sign <= '9' ? 11 : 10;
    }

    private static void moreMustCome() {
        Check.sentence("or the text's length, if more must come.");
        String[] texts = {"prop", "prop a", "prop a jerk", "prop a jerk 1 at", "prop a jerk 1 worn", "prop a jerk 1 at 1 worn",
            "accused", "accused nerve", "accused nerve 1 did", "accused nerve 1 did a knows", "calm", "echo", "day", "day 1;",
            "day 1;prop", "prop a jerk 1;"};
        String[] laws = {"fright", "ease", "wear", "wear 1 if", "wear 1;", "wear 1 if not", "wear 1 if (", "wear 1 if (knows",
            "wear 1 if knows and", "wear 1 if knows or", "wear 1 if 1", "wear 1 if 1+", "wear 1 if 1<", "wear 1 if 1<1+",
            "wear 1 if (1<1", "wear 1 if knows;", "wear 1 if not (not", "wear 1 if slot", "wear 1 if slot >"};
        for (int blanks = 0; blanks < 3; blanks++) {
            for (String text : texts) {
                String behind = text + Check.times(blanks, " ", "");
                court(behind, behind.length());
            }
            for (String text : laws) {
                String behind = text + Check.times(blanks, " ", "");
                law(behind, behind.length());
            }
        }
        // What need not come: a text may end here.
        for (String text : new String[] {"prop a jerk 1", "prop a jerk 1 at 1", "prop a jerk 1 worn 1", "accused nerve 1",
            "accused nerve 1 did a"}) {
            court(text, NONE);
            court(text + ";", text.length() + 1);
        }
    }

    private static void wholeTape() {
        Check.sentence("NONE, and none come, if it would have more than 400.");
        String blanks = Check.times(394, " ", "");
        court("day 5" + blanks + " ", NONE);
        court("day 5" + blanks + ";", 400);
        court("day 5" + blanks + "x", 399);
        court(blanks + "day " + "55", NONE);
        court(blanks + "  day ", 400);
        court(Check.times(400, "d", ""), 0);
        court("day " + Check.times(396, "5", ""), 4);
        law("wear 5 if 1<2" + Check.times(387, " ", ""), NONE);
        law("wear 5 if 1<2" + Check.times(386, " ", "") + ";", 400);
        law("wear 5 if " + Check.times(389, "(", ""), 16);
        law("wear 5 if 1" + Check.times(193, "+1", "") + "<1", NONE);
        law("wear 5 if 1<" + Check.times(193, "1+", "") + "1", NONE);
        law("wear 5 if 1<2" + Check.times(77, "or1<2", ""), NONE);
        law("wear 5 if 1<2" + Check.times(77, "or1<2", "") + "or", 400);
    }

    private static void nothingStays() {
        Check.sentence("Of a wrong text nothing stays.");
        GhostAssize x = Check.court("prop a jerk 4 at 0;accused nerve 5;accused nerve 7 did a;calm 3;echo 1;day 3");
        Check.law(x, "fright 1;wear 2");
        x.calm(4);
        String ahead = View.ofCourt(x) + View.ofAnswers(x) + View.ofRiddles(x);
        String[] wrong = {"prop b jerk 2 at 1;accused nerve 6 did a;calm 5;echo 5;day 5;bat", "calm 10", "echo 21", "day 1000",
            "prop b jerk 2 at 1 worn 100", "prop b jerk 2 at 10", "accused nerve 6 did aa", "accused nerve 6 knows 1",
            "prop b jerk 2 at 1;accused nerve 6 knows 2", "calm 5;calm", "echo 5;echo", "day 5;day"};
        for (String text : wrong) {
            Check.tape(x, text);
            Check.notThat("court «" + text + "»", () -> x.court());
        }
        // The last of them told more than the court has: a prop, two accused, an echo.
        Check.tape(x, "prop b jerk 2 at 1;accused nerve 6;accused nerve 1 did b;echo 20;bat");
        Check.notThat("court", () -> x.court());
        Check.noOne("no prop of it", () -> x.prop(1, 0));
        Check.noOne("nobody of it", () -> x.accused(2, 0));
        for (String text : new String[] {"fright 2;ease 5;wear 7;bat", "fright 31", "wear 9 if", "wear 9 if (knows"}) {
            Check.tape(x, text);
            Check.notThat("law «" + text + "»", () -> x.law());
        }
        Check.same("all is as it was", View.ofCourt(x) + View.ofAnswers(x) + View.ofRiddles(x), ahead);
        Check.same("the act is remembered", x.count(14), 1);
        GhostAssize empty = new GhostAssize();
        Check.tape(empty, "prop a jerk 9 at 0;accused nerve 5;accused nerve 5;echo 1;calm 1;day 1;bat");
        Check.notThat("court", () -> empty.court());
        GhostAssize other = new GhostAssize();
        Check.same("a new one is as new", View.ofCourt(empty) + View.ofAnswers(empty) + View.ofRiddles(empty),
                View.ofCourt(other) + View.ofAnswers(other) + View.ofRiddles(other));
        // Nor does a wrong text leave anything behind for the right one that follows.
        Check.more(x, "prop c jerk 7;accused nerve 8");
        Check.same("not nailed", x.prop(1, 3), NONE);
        Check.same("not worn", x.prop(1, 2), 0);
        Check.same("knows nothing", x.accused(2, 2), 0);
        Check.same("did nothing", x.accused(2, 0), 0);
        Check.same("the slot is free", x.slot(1), NONE);
        GhostAssize shown = Check.court("prop b jerk 1;accused nerve 5 did ab");
        Check.tape(shown, "prop a jerk 1;prop a jerk 1;bat");
        Check.notThat("court", () -> shown.court());
        Check.same("no prop of it covers a deed", shown.cover(), 1);
    }

    private static void faults() {
        Check.sentence("The first wrong byte of the latest text that was read; NONE without one, and ahead of any.");
        GhostAssize x = new GhostAssize();
        Check.same("ahead of any", x.fault(), NONE);
        x.feed(0x78787878, 0, 0, 0, 0);
        Check.same("fed, not read", x.fault(), NONE);
        Check.courtFault(x, "x", 0);
        Check.courtFault(x, "day 1", NONE);
        Check.courtFault(x, "day", 3);
        Check.lawFault(x, "wear 1", NONE);
        Check.lawFault(x, "wear", 4);
        Check.courtFault(x, "", NONE);
        Check.lawFault(x, "wear 1;", 7);
        Check.tape(x, "\0\0");
        x.found(5, false);
        Check.tape(x, "\0");
        Check.notThat("a tape that is not that", () -> x.ask(5));
        Check.same("neither is a text", x.fault(), 7);
    }
}
