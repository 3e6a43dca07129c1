/** Promises 1 to 6: a new object, the tape, texts of the court and of the law, and where they are wrong. */
final class TextTest {
    private static final int NONE = GhostAssize.NONE;

    public static void main(String[] args) {
        promise1NewObject();
        promise2Feed();
        promise3End();
        promise4CourtRight();
        promise4CourtWrong();
        promise4CourtTooMany();
        promise4CourtTwelveTexts();
        promise5LawRight();
        promise5LawWrong();
        promise5LawDeep();
        promise5LawReplaces();
        promise6Fault();
        Check.close();
    }

    private static void promise1NewObject() {
        GhostAssize x = new GhostAssize();
        int[] due = {0, 0, 0, NONE, 0, 2, 10, 0, 0, 0, 0, 0, 0, 0, 0, NONE};
        for (int what = 0; what < due.length; what++) {
            Check.same("new count " + what, x.count(what), due[what]);
        }
        for (int slot = 0; slot < 10; slot++) {
            Check.same("new slot " + slot, x.slot(slot), NONE);
        }
        Check.same("new fault", x.fault(), NONE);
        Check.same("new log", x.log(0, 0), NONE);
        Check.same("new gap", x.gap(), 0);
        Check.same("new errors", x.errors(true) + x.errors(false), 0);
        Check.same("new swap", x.swap(), NONE);
        Check.same("new next", x.next(), NONE);
        Check.same("new found", x.found(10, false), 64);
        Check.same("new sure", x.found(10, true), 0);
        Check.same("new ask", x.ask(10), NONE);
        Check.same("new cover", x.cover(), 0);
        Check.same("new leave", x.leave(), 0);
        Check.same("new bravest", x.bravest(), NONE);
        Check.same("new alike", x.alike(), 0);
        Check.same("new all", x.all(false) + x.all(true), 0);
        Check.same("new loudest", x.loudest(), NONE);
        Check.same("new trial", x.trial(20), 0);
        Check.same("new span", x.span(20, true), 0);
        Check.same("new undo", x.undo(), false);
        Check.same("new back", x.back(), false);
        Check.same("new mornings", x.mornings(1), 0);
        Check.same("new seed", x.seed(5), 1);
        Check.noOne("new straight", () -> x.straight(0));
        Check.noOne("new prop", () -> x.prop(0, 0));
        GhostAssize y = Check.court("prop a jerk 1");
        Check.same("two objects are two", y.count(0), 1);
        Check.same("two objects are two", x.count(0), 0);
    }

    private static void promise2Feed() {
        GhostAssize x = new GhostAssize();
        for (int i = 1; i <= 20; i++) {
            Check.same("feed " + i, x.feed(i, i, i, i, i), 20 * i);
        }
        Check.same("feed over 400", x.feed(1, 2, 3, 4, 5), NONE);
        Check.same("none came", x.end(401), false);
        Check.same("400 stay", x.end(400), true);
        Check.same("end", x.end(381), true);
        Check.same("feed to 401", x.feed(0, 0, 0, 0, 0), NONE);
        Check.same("end", x.end(380), true);
        Check.same("feed to 400", x.feed(0, 0, 0, 0, 0), 400);
        // The highest byte of a number comes first: "day 7" and " ;day 123 ".
        x.end(0);
        Check.same("feed", x.feed(0x64617920, 0x37203b64, 0x61792031, 0x32332020, 0x20202020), 20);
        Check.same("court", x.court(), 1);
        Check.same("day", x.count(4), 123);
        // Bytes above 127 are 128 to 255: told as a fright of 200 they fit nothing, but are a tape.
        x.feed(0x00c80000, 0, 0, 0, 0);
        x.end(2);
        Check.same("found of a high byte", x.found(5, false), 0);
    }

    private static void promise3End() {
        GhostAssize x = new GhostAssize();
        Check.same("end(0) of none", x.end(0), true);
        Check.same("end(1) of none", x.end(1), false);
        x.feed(0x64617920, 0x37000000, 0, 0, 0);
        Check.same("end(-1)", x.end(-1), false);
        Check.same("end(least)", x.end(Integer.MIN_VALUE), false);
        Check.same("end(most)", x.end(Integer.MAX_VALUE), false);
        Check.same("end(21)", x.end(21), false);
        Check.same("end(20)", x.end(20), true);
        Check.same("end(5)", x.end(5), true);
        Check.same("end(6)", x.end(6), false);
        Check.same("court", x.court(), 1);
        Check.same("the first bytes are read", x.count(4), 7);
    }

    private static void promise4CourtRight() {
        GhostAssize x = new GhostAssize();
        Check.tape(x, "  prop a jerk 5 at 0 ; prop f jerk 20 worn 99;prop b jerk1at9worn7;accused nerve 60 did fa knows 2"
                + ";accused nerve 1;accused nerve007 knows 0; accused nerve 9 did abcdef ;calm 9;echo 20;day 999  ");
        Check.same("court", x.court(), 1);
        Check.same("fault", x.fault(), NONE);
        int[][] props = {{0, 5, 0, 0}, {5, 20, 99, NONE}, {1, 1, 7, 9}};
        int[][] people = {{33, 60, 4, 0}, {0, 1, 0, 0}, {0, 7, 1, 0}, {63, 9, 0, 0}};
        for (int i = 0; i < 12; i++) {
            Check.same("prop " + i, x.prop(i / 4, i % 4), props[i / 4][i % 4]);
        }
        for (int i = 0; i < 16; i++) {
            Check.same("accused " + i, x.accused(i / 4, i % 4), people[i / 4][i % 4]);
        }
        Check.same("calm", x.count(5), 9);
        Check.same("echo", x.count(6), 20);
        Check.same("day", x.count(4), 999);
        Check.same("slots", x.count(7), 513);
        // Texts come one behind another, and one without lines is a text.
        Check.tape(x, "   ");
        Check.same("court of blanks", x.court(), 2);
        Check.more(x, "prop c jerk 3 at 1;accused nerve 3 knows 3;day 0;calm 0;echo 0");
        Check.same("texts", x.count(2), 3);
        Check.same("props", x.count(0), 4);
        Check.same("knows one of this text", x.accused(4, 2), 8);
        Check.same("day", x.count(4), 0);
        Check.same("calm", x.count(5), 0);
        Check.same("echo", x.count(6), 0);
        Check.more(x, "day 1;day 2;day 3;day 4;day 5;day 6;day 7;day 8;day 9;day 10;day 11;day 12;day 13;day 14");
        Check.same("14 lines", x.count(4), 14);
    }

    private static void promise4CourtWrong() {
        GhostAssize x = new GhostAssize();
        Object[][] rows = {{";", 0}, {"  ;", 2}, {"day 5;", 6}, {"day 5; ", 7}, {"day 5;;day 6", 6}, {"day 0999", 4},
            {"day 1000", 4}, {"day", 3}, {"day   ", 6}, {"day x", 4}, {"day -1", 4}, {"Day 1", 0}, {"days 1", 0},
            {"day 1 2", 6}, {"day 1.", 5}, {"day 1:", 5}, {"day /1", 4}, {"day\t1", 3}, {"calm 10", 5}, {"echo 21", 5}, {"echo", 4}, {"1", 0},
            {"prop", 4}, {"prop a", 6}, {"prop a jerk", 11}, {"prop a jerk 21", 12}, {"prop a at 1", 7},
            {"prop g jerk 0", 5}, {"prop ab jerk 0", 5}, {"prop az jerk 0", 5}, {"prop `a jerk 0", 5}, {"prop a{ jerk 0", 6}, {"prop 1 jerk 1", 5}, {"propa jerk 1", 0}, {"prop ajerk 1", 5},
            {"prop a jerk 1 worn 1 at 1", 21}, {"prop a jerk 1 at 1 at 2", 19}, {"prop a jerk 1 at a", 17},
            {"prop a jerk 1 at 10", 17}, {"prop a jerk 1 at", 16}, {"prop a jerk 1 worn", 18},
            {"prop a jerk 1 worn 100", 19}, {"prop a jerk 1 did a", 14}, {"prop a jerk 1 at 3;prop b jerk 1 at 3", 36},
            {"prop a jerk 1 at 3;prop b jerk 1 at 003 worn", 36}, {"accused", 7}, {"accused nerve", 13}, {"accused 5", 8},
            {"accused nerve 0", 14}, {"accused nerve 61", 14}, {"accused nerve 5 did", 19}, {"accused nerve 5 did g", 20},
            {"accused nerve 5 did abca", 20}, {"accused nerve 5 did a b", 22}, {"accused nerve 5 did 1", 20},
            {"accused nerve 5 knows 0", 22}, {"accused nerve 5 knows", 21}, {"xxaccused nerve 1", 0}, {"accused nerve 5 knows 0;prop a jerk 1", 22},
            {"prop a jerk 1;accused nerve 5 knows 1", 36}, {"prop a jerk 1;accused nerve 5 knows 0 did a", 38},
            {"prop a jerk 1;accused nerve 5 knows 0 knows 0", 38}, {"accusedaccused nerve 1", 0},
            {"abcdefghijklmnopqrst", 0}, {"fright 5", 0}, {"day 1" + (char) 255, 5}, {"" + (char) 0, 0}};
        for (Object[] row : rows) {
            Check.courtFault(x, (String) row[0], (Integer) row[1]);
        }
        for (int what = 0; what < 15; what++) {
            Check.same("nothing stays of wrong texts: " + what, x.count(what), new GhostAssize().count(what));
        }
        Check.same("nothing is nailed", x.slot(3), NONE);
    }

    private static void promise4CourtTooMany() {
        GhostAssize x = new GhostAssize();
        Check.more(x, "prop a jerk 1;prop a jerk 1;prop a jerk 1;prop a jerk 1;prop a jerk 1;prop a jerk 1;prop a jerk 1");
        Check.courtFault(x, "prop b jerk 2;  prop b jerk 2", 16);
        Check.courtFault(x, "prop b jerk 2;", 14);
        Check.same("props", x.count(0), 7);
        Check.more(x, "prop b jerk 2");
        Check.courtFault(x, " prop", 1);
        Check.more(x, "accused nerve 1;accused nerve 1;accused nerve 1;accused nerve 1;accused nerve 1;accused nerve 1");
        Check.courtFault(x, "day 7; accused nerve 1", 7);
        Check.same("people", x.count(1), 6);
        Check.same("day", x.count(4), 0);
        String lines = "day 1;day 2;day 3;day 4;day 5;day 6;day 7;day 8;day 9;day 1;day 1;day 2;day 3;day 4;";
        Check.courtFault(x, lines, 84);
        Check.courtFault(x, lines + " day 5", 85);
        Check.courtFault(x, lines + "bat", 84);
    }

    private static void promise4CourtTwelveTexts() {
        GhostAssize x = new GhostAssize();
        for (int i = 1; i <= 12; i++) {
            Check.tape(x, "day " + i);
            Check.same("court " + i, x.court(), i);
        }
        Check.courtFault(x, "bat", 0);
        Check.tape(x, "day 77");
        Check.fails("a 13th", UnsupportedOperationException.class, () -> x.court());
        Check.same("it is used up", x.end(1), false);
        Check.same("it was read and is not wrong", x.fault(), NONE);
        Check.same("texts", x.count(2), 12);
        Check.same("day", x.count(4), 12);
        Check.fails("an empty 13th", UnsupportedOperationException.class, () -> x.court());
    }

    private static void promise5LawRight() {
        String[] texts = {"", "   ", "fright 30", " ease 0 if knows ", "wear 5 if guilty;fright 1", "fright 1if(knows)",
            "fright 1 if not(not(not(knows)))", "fright 1 if ((((((knows))))))", "fright 1 if not not not not not not knows",
            "ease 1 if 1<2or 3>4and 999+0>prop+slot+jerk+worn+tense+nerve", "wear 030 if 000<001",
            "ease 1 if (knows)and(knows)and(knows)and(knows)and(knows)and(knows)and(knows)and not knows or not guilty"};
        int[] lines = {0, 0, 1, 1, 2, 1, 1, 1, 1, 1, 1, 1};
        for (int i = 0; i < texts.length; i++) {
            GhostAssize x = new GhostAssize();
            Check.tape(x, texts[i]);
            Check.same("law «" + texts[i] + "»", x.law(), lines[i]);
            Check.same("fault", x.fault(), NONE);
            Check.same("count(3)", x.count(3), lines[i]);
            Check.same("the tape is used up", x.end(1), false);
        }
    }

    private static void promise5LawWrong() {
        GhostAssize x = new GhostAssize();
        Check.law(x, "fright 7;ease 1");
        Object[][] rows = {{";", 0}, {"fright", 6}, {"fright 31", 7}, {"fright 0030", 7}, {"fright 1;", 9},
            {"fright 1;  ", 11}, {"fright 1 ease 2", 9}, {"fright 1 if knows ease 2", 18},
            {"fright 1,ease 2", 8}, {"fright 1 knows", 9}, {"fright if knows", 7}, {"frights 1", 0}, {"prop a jerk 1", 0},
            {"wear 5 if", 9}, {"fright 1 if knows knows", 18}, {"fright 1 if knows and", 21},
            {"fright 1 if knows or or", 21}, {"fright 1 if (knows", 18}, {"fright 1 if (knows))", 19},
            {"fright 1 if ()", 13}, {"fright 1 if prop", 16}, {"fright 1 if prop <", 18}, {"fright 1 if prop < +", 19},
            {"fright 1 if prop + < 1", 19}, {"fright 1 if prop = 1", 17}, {"fright 1 if 1000 < 1", 12},
            {"fright 1 if 999<1000", 16}, {"fright 1 if 1<2<3", 15}, {"fright 1 if (prop) < 3", 17},
            {"fright 1 if deed < 3", 12}, {"fright 1 if not", 15}, {"fright 1 if knowsand guilty", 12},
            {"fright 1 if knows < 3", 18}, {"fright 1 if 1 < knows", 16}, {"fright 1 if 3", 13},
            {"fright 1 if 3 and knows", 14}, {"fright 1 if 1 < 2 3", 18}, {"fright 1 if and", 12},
            {"fright 1 if if knows", 12}, {"fright 1 if Knows", 12}, {"fright 1 if 1 < -1", 16}};
        for (Object[] row : rows) {
            Check.lawFault(x, (String) row[0], (Integer) row[1]);
            Check.same("the law before stays", x.count(3), 2);
        }
        StringBuilder s = new StringBuilder("ease 5");
        for (int i = 0; i < 11; i++) {
            s.append(";ease 5");
        }
        Check.lawFault(x, s + ";", 84);
        Check.lawFault(x, s + "; ease 5", 85);
        Check.lawFault(x, s.toString(), NONE);
        Check.same("lines", x.count(3), 12);
    }

    private static void promise5LawDeep() {
        GhostAssize x = new GhostAssize();
        Check.lawFault(x, "fright 1 if (((((((knows)))))))", 18);
        Check.lawFault(x, "fright 1 if not not not not not not not knows", 36);
        Check.lawFault(x, "fright 1 if not(not(not(not knows)))", 24);
        Check.lawFault(x, "fright 1 if not(not(not((knows))))", 24);
        Check.lawFault(x, "fright 1 if knows or ((((((knows or (knows)))))))", 36);
        // Those that are closed are within no other.
        Check.lawFault(x, "fright 1 if ((((((knows)))))) and not not not not not not guilty or ((((((1<2))))))", NONE);
    }

    private static void promise5LawReplaces() {
        GhostAssize x = Check.court("prop a jerk 3 at 0;accused nerve 9 did a");
        Check.same("without", x.fright(0, 0, 0, false), 3);
        Check.law(x, "fright 4");
        Check.same("the first", x.fright(0, 0, 0, false), 7);
        Check.law(x, "ease 1;wear 6");
        Check.same("the second in its place", x.fright(0, 0, 0, false), 2);
        Check.same("its wear", x.fright(0, 0, 0, true), 7);
        Check.law(x, "");
        Check.same("none", x.fright(0, 0, 0, false), 3);
        Check.same("a law of no lines is one", x.count(3), 0);
    }

    private static void promise6Fault() {
        GhostAssize x = new GhostAssize();
        Check.same("ahead of any", x.fault(), NONE);
        Check.courtFault(x, "day 5 x", 6);
        x.calm(3);
        x.undo();
        x.image();
        x.back();
        Check.same("it stays", x.fault(), 6);
        Check.notThat("a tape that is no text", () -> x.found(0, true));
        Check.same("it is of texts alone", x.fault(), 6);
        Check.law(x, "");
        Check.same("of the latest", x.fault(), NONE);
        Check.lawFault(x, "x", 0);
        Check.more(x, "");
        Check.same("of the latest", x.fault(), NONE);
    }
}
