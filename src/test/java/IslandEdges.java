/** Boundary cases of THE ISLAND's minute, LAWS and worths, undone and KEPT (promises 15 to 18, 31, 32). */
public final class IslandEdges {
    private static final int BAD = -1, NO = -2, FULL = -3;
    private static final String PLAIN = Sentences.PLAIN, ACT = Sentences.ACT;
    private static final int[] FAR = {Integer.MIN_VALUE, Integer.MAX_VALUE, 1 << 30, -1000};

    private static final Sentences look = new Sentences();

    public static void main(String[] args) {
        pass();
        doActRange();
        doActNotLawful();
        doActTakes();
        doActWorths();
        allow();
        allowLaws();
        undo();
        undoEach();
        undoEight();
        undoRing();
        undoCutOff();
        undoYear();
        keep();
        back();
        backState();
        look.end();
    }

    private static void pass() {
        look.of(15, "n minutes (1 to 9999) go by: its minute. BAD.");
        TwoKings x = look.island(PLAIN + ACT);
        int[] wrong = {0, -1, -9999, 10000, 10001};
        for (int n : wrong) look.due("pass(" + n + ")", x.pass(n), BAD);
        for (int n : FAR) look.due("pass(" + n + ")", x.pass(n), BAD);
        look.due("nothing to be UNDONE", x.count(5), 0);
        look.due("n 1", x.pass(1), 1);
        look.due("n 9999", x.pass(9999), 10000);
        look.due("n 9998", x.pass(9998), 19998);
        for (int n : wrong) look.due("pass(" + n + ")", x.pass(n), BAD);
        look.due("none went by", x.pass(2), 20000);
        look.due("four can be UNDONE", x.count(5), 4);
        TwoKings far = new TwoKings();
        long minute = 0;
        for (int i = 1; i <= 500; i++) minute = far.pass(9999);
        look.due("500 times 9999", minute, 4999500);
    }

    private static void doActRange() {
        look.of(16, "An ACT is done: its minute then. BAD; NO: it is not LAWFUL.");
        TwoKings x = look.island(PLAIN + ACT + ACT);
        look.due("ACT -1", x.doAct(-1), BAD);
        look.due("ACT 2 of two", x.doAct(2), BAD);
        for (int a : FAR) look.due("ACT " + a, x.doAct(a), BAD);
        look.due("NO in the turn", x.doAct(0), NO);
        look.due("BAD ahead of NO", x.doAct(2), BAD);
        look.due("BAD ahead of NO, -1", x.doAct(-1), BAD);
        look.due("nothing to be UNDONE", x.count(5), 0);
        look.due("no worth", x.count(6), 1000000);
        look.due("no minute went by", x.pass(1), 1);
        look.due("LAWFUL now", x.doAct(1), 2);
        look.due("by two steps", x.count(5), 2);
    }

    private static void doActNotLawful() {
        look.of(16, "an ACT is done, if it is LAWFUL then");
        TwoKings x = look.island(PLAIN + "a0,1,1,51,50;a0,2,1,51,50;a1,1,2,51,50;a2,2,9,51,50;a3,3,1,51,50;a4,1,1,51,50;");
        // At 0 the turn, at 9 HIGH's last, at 10 the turn, at 19 LOW's last.
        int[] minutes = {0, 9, 10, 19};
        String[] done = {"5", "04", "5", "134"};
        int now = 0;
        for (int i = 0; i < minutes.length; i++) {
            if (minutes[i] > now) x.pass(minutes[i] - now);
            now = minutes[i];
            for (int a = 0; a < 6; a++) {
                boolean is = done[i].indexOf('0' + a) >= 0;
                long due = is ? now + (a == 3 ? 9 : 1) : NO;
                look.due("ACT " + a + " at " + now, x.doAct(a), due);
                if (is) x.undo();
            }
        }
        TwoKings y = look.island(PLAIN + "a1,1,9,51,50;");
        y.pass(1);
        look.due("LASTING all of HIGH's", y.doAct(0), 10);
        y.undo();
        y.pass(1);
        look.due("LASTING a minute late", y.doAct(0), NO);
        y.allow(0, 0, false);
        y.pass(19);
        look.due("forbidden", y.doAct(0), NO);
        y.allow(0, 0, true);
        look.due("allowed", y.doAct(0), 30);
    }

    private static void doActTakes() {
        look.of(16, "its minutes go by, and both KINGS have its worth more");
        int[] taken = {1, 9, 99, 1, 1};
        int[] lasts = {99, 9, 99, 99, 99};
        for (int kind = 0; kind < 5; kind++) {
            TwoKings x = look.island(PLAIN + "a" + kind + ",3," + lasts[kind] + ",61,42;");
            int begin = kind == 4 ? 20 : 21;
            x.pass(begin);
            look.due("KIND " + kind, x.doAct(0), begin + taken[kind]);
            look.due("KIND " + kind + " to HIGH", x.count(6), 1000011);
            look.due("KIND " + kind + " to LOW", x.count(7), 999992);
        }
        TwoKings y = look.island(PLAIN + "a1,1,1,50,50;a2,1,1,50,50;");
        y.pass(1);
        look.due("LASTING of 1", y.doAct(0), 2);
        look.due("BEGUN of 1", y.doAct(1), 3);
    }

    private static void doActWorths() {
        look.of(16, "worth U less 50 to HIGH, V less 50 to LOW");
        int[][] worths = {{0, 99}, {99, 0}, {50, 50}, {49, 51}, {51, 49}};
        for (int[] w : worths) {
            TwoKings x = look.island("t999,1,19,20;a0,1,1," + w[0] + "," + w[1] + ";");
            x.pass(1);
            for (int i = 1; i <= 3; i++) {
                x.doAct(0);
                look.due("U " + w[0] + ", " + i + " times", x.count(6), 1000000 + i * (w[0] - 50));
                look.due("V " + w[1] + ", " + i + " times", x.count(7), 1000000 + i * (w[1] - 50));
            }
        }
    }

    private static void allow() {
        look.of(17, "An ACT is allowed to a KING (0, 1), or forbidden: 1, 0 as it was. BAD.");
        TwoKings x = look.island(ACT + "a0,2,1,1,1;");
        for (int is = 0; is < 2; is++) {
            look.due("ACT -1", x.allow(-1, 0, is == 1), BAD);
            look.due("ACT 2 of two", x.allow(2, 0, is == 1), BAD);
            look.due("KING -1", x.allow(0, -1, is == 1), BAD);
            look.due("KING 2", x.allow(0, 2, is == 1), BAD);
            for (int n : FAR) {
                look.due("ACT " + n, x.allow(n, 0, is == 1), BAD);
                look.due("KING " + n, x.allow(0, n, is == 1), BAD);
            }
        }
        look.due("nothing to be UNDONE", x.count(5), 0);
        look.due("LAWS as they were", x.act(0, 1) * 10 + x.act(1, 1), 12);
        look.due("it was lawful", x.allow(0, 0, true), 1);
        look.due("it was not", x.allow(0, 1, true), 0);
        look.due("it was, to be forbidden", x.allow(0, 1, false), 1);
        look.due("it was not, to be forbidden", x.allow(0, 1, false), 0);
        look.due("each is one to be UNDONE", x.count(5), 4);
    }

    private static void allowLaws() {
        look.of(17, "an ACT is allowed to a KING (lawful for him), or forbidden");
        for (int laws = 0; laws < 4; laws++) {
            for (int king = 0; king < 2; king++) {
                for (int is = 0; is < 2; is++) {
                    TwoKings x = look.island("a0,1,1,1,1;a0," + laws + ",1,1,1;a0,2,1,1,1;");
                    String call = "allow(1, " + king + ", " + is + ") of " + laws;
                    look.due(call, x.allow(1, king, is == 1), laws >> king & 1);
                    int want = laws & ~(1 << king) | is << king;
                    look.due(call + ": LAWS", x.act(1, 1), want);
                    look.due(call + ": the others", x.act(0, 1) * 10 + x.act(2, 1), 12);
                    look.due(call + ": undo()", x.undo(), 0);
                    look.due(call + ": LAWS again", x.act(1, 1), laws);
                }
            }
        }
        TwoKings six = look.island("a0,0,1,1,1;".repeat(6));
        look.due("ACT 5 of six", six.allow(5, 1, true), 0);
        look.due("ACT 5 of six is lawful", six.act(5, 1), 2);
        look.due("ACT 4 is not", six.act(4, 1), 0);
        look.due("ACT 6 of six", six.allow(6, 1, true), BAD);
    }

    private static void undo() {
        look.of(18, "UNDONE: how many more can be. NO.");
        TwoKings x = look.island(PLAIN + ACT);
        look.due("nothing", x.undo(), NO);
        x.pass(1);
        look.due("one", x.undo(), 0);
        look.due("nothing more", x.undo(), NO);
        look.due("nothing more, again", x.undo(), NO);
        look.due("minute 0", x.pass(5), 5);
        x.pass(0);
        x.pass(10000);
        x.doAct(9);
        x.allow(0, 2, true);
        look.due("refused calls are none to be UNDONE", x.undo(), 0);
        look.due("minute 0 again", x.pass(1), 1);
        x.pass(9);
        look.due("NO", x.doAct(0), NO);
        look.due("what was not done", x.undo(), 1);
        look.due("minute 1", x.pass(1), 2);
    }

    private static void undoEach() {
        look.of(18, "UNDONE is the latest of these");
        TwoKings x = look.island(PLAIN + "a2,1,99,99,0;");
        x.pass(3);
        x.doAct(0);
        x.allow(0, 1, true);
        look.due("allow()", x.undo(), 2);
        look.due("allow(): LAWS", x.act(0, 1), 1);
        look.due("allow(): worths stay", x.count(6), 1000049);
        look.due("doAct()", x.undo(), 1);
        look.due("doAct(): HIGH", x.count(6), 1000000);
        look.due("doAct(): LOW", x.count(7), 1000000);
        look.due("doAct(): the minute", x.pass(1), 4);
        look.due("pass()", x.undo(), 1);
        look.due("pass() ahead of it", x.undo(), 0);
        look.due("pass(): the minute", x.pass(1), 1);
        x.tell(0);
        x.line(1, 0);
        x.keep();
        x.wipe();
        look.due("undo()", x.undo(), 0);
        look.due("the row stays", x.count(3), 1);
        look.due("the TABLE stays", x.count(4), 1);
        look.due("what is KEPT stays", x.count(8), 1);
        look.due("THE TEXT stays wiped", x.count(1), 0);
    }

    private static void undoEight() {
        look.of(18, "the last 8 can be");
        for (int steps = 1; steps <= 20; steps++) {
            TwoKings x = new TwoKings();
            for (int i = 0; i < steps; i++) {
                x.pass(1);
                look.due("count(5)", x.count(5), Math.min(i + 1, 8));
            }
            int can = Math.min(steps, 8);
            for (int i = can - 1; i >= 0; i--) look.due("undo() of " + steps, x.undo(), i);
            look.due("no more of " + steps, x.undo(), NO);
            look.due("the minute behind " + steps, x.pass(1), steps - can + 1);
        }
    }

    private static void undoRing() {
        look.of(18, "(the last 8 can be; none of those ahead of back(), lay())");
        // Steps and undoing by turns, against a plain row of minutes.
        TwoKings x = new TwoKings();
        long[] past = new long[200];
        int steps = 0;
        int can = 0;
        long now = 0;
        int[] plan = {8, -5, 5, -8, -1, 3, -2, 9, -4, 1, -1, 6, -8, -1, 17, -8, -1, 2, -1};
        for (int part : plan) {
            for (int i = 0; i < Math.abs(part); i++) {
                if (part > 0) {
                    past[steps++] = now;
                    can = Math.min(can + 1, 8);
                    now += steps;
                    look.due("pass(" + steps + ")", x.pass(steps), now);
                } else if (can == 0) {
                    look.due("undo()", x.undo(), NO);
                } else {
                    can--;
                    now = past[--steps];
                    look.due("undo()", x.undo(), can);
                }
                look.due("count(5)", x.count(5), can);
            }
        }
        look.due("the minute at last", x.pass(1), now + 1);
    }

    private static void undoCutOff() {
        look.of(18, "none of those ahead of back(), lay()");
        TwoKings x = look.island(PLAIN + ACT);
        for (int i = 0; i < 9; i++) x.pass(1);
        x.keep();
        look.due("keep() cuts nothing off", x.count(5), 8);
        x.pass(1);
        look.due("back()", x.back(), 0);
        look.due("behind back()", x.undo(), NO);
        look.due("count(5)", x.count(5), 0);
        look.due("back() to minute 9", x.pass(1), 10);
        look.due("what came behind back()", x.undo(), 0);
        look.due("no more", x.undo(), NO);
        x.pass(2);
        look.due("a refused back()", x.back(), NO);
        look.due("cuts nothing off", x.undo(), 0);
        for (int i = 0; i < 9; i++) x.pass(1);
        x.lay();
        look.due("behind lay()", x.undo(), NO);
        x.pass(3);
        x.write(1, 'x');
        look.due("a refused lay()", x.lay(), NO);
        look.due("cuts nothing off", x.undo(), 0);
        look.due("minute 0", x.pass(1), 1);
    }

    private static void undoYear() {
        look.of(18, "THE ISLAND has its minute: n minutes go by");
        TwoKings x = look.island(PLAIN + "s1;" + ACT);
        x.pass(3);
        x.year(7);
        look.due("undo()", x.undo(), 0);
        look.due("year() is none of these", x.count(2), 7);
        x.year(8);
        look.due("year() alone", x.undo(), NO);
    }

    private static void keep() {
        look.of(31, "KEPT: how many. FULL.");
        TwoKings x = look.island(PLAIN + ACT);
        look.due("one", x.keep(), 1);
        look.due("two", x.keep(), 2);
        look.of(31, "KEPT are LAWS, the minute, the YEAR, worths had: 2 at most.");
        look.due("three", x.keep(), FULL);
        look.due("two stay", x.count(8), 2);
        x.pass(5);
        look.due("still three", x.keep(), FULL);
        look.due("the second one is as it was", x.back(), 1);
        look.due("minute 0", x.pass(1), 1);
        look.due("room for one", x.keep(), 2);
        look.due("for no more", x.keep(), FULL);
        look.due("minute 1", x.back() * 10 + x.pass(1), 12);
        look.due("the first one", x.back(), 0);
        look.due("minute 0 there", x.pass(1), 1);
        for (int i = 0; i < 5; i++) {
            look.due("one", x.keep(), 1);
            look.due("two", x.keep(), 2);
            look.due("one left", x.back(), 1);
            look.due("none left", x.back(), 0);
        }
    }

    private static void back() {
        look.of(32, "As KEPT last (it is KEPT no more then): how many are left. NO.");
        TwoKings x = look.island(PLAIN + ACT);
        look.due("none", x.back(), NO);
        x.pass(1);
        x.keep();
        x.pass(1);
        x.keep();
        x.pass(1);
        look.due("the last one", x.back(), 1);
        look.due("minute 2", x.pass(10), 12);
        look.due("the one ahead", x.back(), 0);
        look.due("minute 1", x.pass(10), 11);
        look.due("none left", x.back(), NO);
        look.due("NO changes nothing", x.pass(10), 21);
        look.due("NO changes nothing to be UNDONE", x.count(5), 2);
        x.keep();
        x.lay();
        look.due("none behind lay()", x.back(), NO);
    }

    private static void backState() {
        look.of(32, "KEPT are LAWS, the minute, the YEAR, worths had");
        TwoKings x = look.island(PLAIN + "a0,1,1,99,0;a0,2,1,50,50;");
        x.year(99);
        x.pass(1);
        x.doAct(0);
        x.allow(1, 0, true);
        x.keep();
        x.year(0);
        x.doAct(0);
        x.allow(1, 0, false);
        x.allow(0, 1, true);
        x.wipe();
        x.tell(0);
        x.line(0, 0);
        look.due("back()", x.back(), 0);
        look.due("LAWS of ACT 0", x.act(0, 1), 1);
        look.due("LAWS of ACT 1", x.act(1, 1), 3);
        look.due("the YEAR", x.count(2), 99);
        look.due("HIGH's worth", x.count(6), 1000049);
        look.due("LOW's worth", x.count(7), 999950);
        look.due("the minute", x.pass(1), 3);
        look.due("THE TEXT is not KEPT", x.count(1), 0);
        look.due("the row is not KEPT", x.count(3), 1);
        look.due("the TABLE is not KEPT", x.count(4), 1);
    }
}
