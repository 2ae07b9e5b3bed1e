/** Boundary cases of GAINS, RESTS, treaties and bargains (promises 19 to 24), a sentence at a time. */
public final class KingEdges {
    private static final int BAD = -1, NONE = -4;
    private static final int HIGH = 0, LOW = 1;
    private static final long LAST = Sentences.LAST;
    private static final String PLAIN = Sentences.PLAIN;
    private static final int[] FAR = {Integer.MIN_VALUE, Integer.MAX_VALUE, 1 << 30, -1000};

    private static final Sentences look = new Sentences();

    public static void main(String[] args) {
        gain();
        gainOfLaws();
        forbidRange();
        forbidNone();
        forbidForHimself();
        restsRange();
        restsCounted();
        restsFirst();
        firmRange();
        firmOrNot();
        treatyRange();
        treatyChosen();
        treatyLowest();
        bargainRange();
        bargainFirst();
        bargainNone();
        look.end();
    }

    private static void gain() {
        look.of(19, "GAIN and 1000. BAD.");
        TwoKings x = look.island("a0,1,1,60,30;");
        look.due("KING -1", x.gain(-1), BAD);
        look.due("KING 2", x.gain(2), BAD);
        for (int n : FAR) look.due("KING " + n, x.gain(n), BAD);
        look.due("HIGH", x.gain(HIGH), 1010);
        look.due("LOW", x.gain(LOW), 980);
        TwoKings least = look.island("a0,3,1,0,0;".repeat(6));
        look.due("the least, HIGH", least.gain(HIGH), 700);
        look.due("the least, LOW", least.gain(LOW), 700);
        TwoKings most = look.island("a0,3,1,99,99;".repeat(6));
        look.due("the most, HIGH", most.gain(HIGH), 1294);
        look.due("the most, LOW", most.gain(LOW), 1294);
    }

    private static void gainOfLaws() {
        look.of(19, "GAIN of a KING: what all ACTS are worth to him that are lawful for one or both.");
        int[] due = {1000, 1010, 1010, 1010};
        for (int laws = 0; laws < 4; laws++) {
            TwoKings x = look.island("a0," + laws + ",1,60,30;");
            look.due("lawful for " + laws + ", HIGH", x.gain(HIGH), due[laws]);
            look.due("lawful for " + laws + ", LOW", x.gain(LOW), laws == 0 ? 1000 : 980);
        }
        TwoKings y = look.island("a0,1,1,60,30;a4,2,1,51,51;a3,1,1,52,52;");
        look.due("of all KINDS, though OF BOTH is lawful for one", y.gain(HIGH), 1013);
        y.allow(0, 0, false);
        look.due("forbidden", y.gain(HIGH), 1003);
        y.allow(0, 1, true);
        look.due("allowed to the other", y.gain(HIGH), 1013);
        y.undo();
        y.undo();
        look.due("undone", y.gain(LOW), 983);
        y.pass(1);
        y.doAct(0);
        look.due("what he has makes no difference", y.gain(HIGH), 1013);
    }

    private static void forbidRange() {
        look.of(20, "if HIGH forbids ACT a, LOW ACT b (-1: none). BAD.");
        TwoKings x = look.island("a0,1,1,60,30;a0,2,1,55,99;");
        int[] wrong = {-2, 2, 3, Integer.MIN_VALUE, Integer.MAX_VALUE, 1 << 30};
        for (int n : wrong) {
            look.due("HIGH's ACT " + n, x.forbid(n, -1, HIGH), BAD);
            look.due("LOW's ACT " + n, x.forbid(-1, n, HIGH), BAD);
            look.due("both " + n, x.forbid(n, n, HIGH), BAD);
        }
        look.due("KING -1", x.forbid(0, 0, -1), BAD);
        look.due("KING 2", x.forbid(0, 0, 2), BAD);
        for (int n : FAR) look.due("KING " + n, x.forbid(-1, -1, n), BAD);
        TwoKings six = look.island("a0,3,1,60,60;".repeat(6));
        look.due("ACT 5 of six", six.forbid(5, 5, HIGH), 1050);
        look.due("ACT 6 of six", six.forbid(6, 5, HIGH), BAD);
        look.due("LOW's ACT 6 of six", six.forbid(5, 6, HIGH), BAD);
        look.due("each another one of six", six.forbid(0, 5, HIGH), 1060);
    }

    private static void forbidNone() {
        look.of(20, "HIGH forbids one ACT or none, LOW one or none");
        TwoKings x = look.island("a0,1,1,60,30;a0,2,1,55,99;");
        look.due("none, HIGH", x.forbid(-1, -1, HIGH), 1015);
        look.due("none, LOW", x.forbid(-1, -1, LOW), 1029);
        look.due("HIGH one, LOW none", x.forbid(0, -1, HIGH), 1005);
        look.due("HIGH none, LOW one", x.forbid(-1, 1, HIGH), 1010);
        look.due("each one, HIGH", x.forbid(0, 1, HIGH), 1000);
        look.due("each one, LOW", x.forbid(0, 1, LOW), 1000);
        look.due("nothing changes", x.gain(HIGH), 1015);
        look.due("nothing to be UNDONE", x.count(5), 0);
    }

    private static void forbidForHimself() {
        look.of(20, "(as if it were lawful for himself no more): GAINS then.");
        // For each of LAWS 0 to 3: none forbids, HIGH, LOW, both.
        int[][] due = {{1000, 1000, 1000, 1000}, {1010, 1000, 1010, 1000}, {1010, 1010, 1000, 1000}, {1010, 1010, 1010, 1000}};
        for (int laws = 0; laws < 4; laws++) {
            TwoKings x = look.island("a0," + laws + ",1,60,60;");
            for (int both = 0; both < 4; both++) {
                int a = (both & 1) == 1 ? 0 : -1;
                int b = (both & 2) == 2 ? 0 : -1;
                for (int king = 0; king < 2; king++) {
                    look.due("lawful for " + laws + ": forbid(" + a + ", " + b + ", " + king + ")", x.forbid(a, b, king), due[laws][both]);
                }
            }
        }
    }

    private static void restsRange() {
        look.of(21, "NONE (1, 2: he forbids none, or there is no rest); BAD.");
        TwoKings x = look.island("a0,1,1,40,60;");
        look.due("what -1", x.rests(-1), BAD);
        look.due("what 3", x.rests(3), BAD);
        for (int n : FAR) look.due("what " + n, x.rests(n), BAD);
        look.due("HIGH forbids ACT 0", x.rests(1), 0);
        look.due("LOW forbids none", x.rests(2), NONE);
        TwoKings y = look.island("a0,2,1,60,40;");
        look.due("HIGH forbids none", y.rests(1), NONE);
        look.due("LOW forbids ACT 0", y.rests(2), 0);
        TwoKings z = look.island("a0,1,1,60,60;");
        look.due("neither forbids, HIGH", z.rests(1), NONE);
        look.due("neither forbids, LOW", z.rests(2), NONE);
        TwoKings six = look.island("a0,1,1,60,60;".repeat(5) + "a0,1,1,0,0;");
        look.due("ACT 5 of six", six.rests(1), 5);
        TwoKings other = look.island("a0,2,1,60,60;".repeat(5) + "a0,2,1,0,0;");
        look.due("LOW's ACT 5 of six", other.rests(2), 5);
    }

    private static void restsCounted() {
        look.of(21, "RESTS: pairs of such choices by which neither would have more GAIN by another choice of his alone: how many");
        // Choices are none and each ACT: two for each KING with one ACT.
        look.due("worth nothing: all", look.island("a0,3,1,50,50;").rests(0), 4);
        look.due("lawful for none: all", look.island("a0,0,1,0,0;").rests(0), 4);
        look.due("HIGH's own, harms him: he forbids it", look.island("a0,1,1,49,50;").rests(0), 2);
        look.due("HIGH's own, suits him: he does not", look.island("a0,1,1,51,50;").rests(0), 2);
        look.due("HIGH's own, harms LOW alone: LOW can't", look.island("a0,1,1,50,0;").rests(0), 4);
        look.due("LOW's own, harms him: he forbids it", look.island("a0,2,1,50,49;").rests(0), 2);
        // Neither ends it alone, and when both do, neither is the worse for it.
        look.due("both harmed: none, or both", look.island("a0,3,1,49,49;").rests(0), 2);
        // When one forbids, the other would bring it back or keep it by not forbidding.
        look.due("suits both: none, or one of them", look.island("a0,3,1,51,51;").rests(0), 3);
        look.due("suits HIGH, harms LOW: HIGH does not", look.island("a0,3,1,51,49;").rests(0), 2);
        look.due("all 49 with six ACTS worth nothing", look.island("a0,3,1,50,50;".repeat(6)).rests(0), 49);
        TwoKings x = look.island("a0,3,1,49,49;");
        x.allow(0, 1, false);
        look.due("as LAWS are now", x.rests(0), 2);
        look.due("as LAWS are now, HIGH's", x.rests(1), 0);
    }

    private static void restsFirst() {
        look.of(21, "the first (by HIGH's choice, then LOW's; none ahead of ACTS 0, 1, ..): the ACT of each; none.");
        // HIGH's ACTS 1 and 2 harm him alike; LOW's 3 and 4 harm him alike.
        TwoKings x = look.island("a0,1,1,60,60;a0,1,1,40,50;a0,1,1,40,50;a0,2,1,50,40;a0,2,1,50,40;a0,2,1,60,60;");
        look.due("four of them", x.rests(0), 4);
        look.due("HIGH's lower one", x.rests(1), 1);
        look.due("LOW's lower one", x.rests(2), 3);
        // None for both is a rest, and so is ACT 0 by both.
        TwoKings y = look.island("a0,3,1,40,40;");
        look.due("none ahead of ACT 0, HIGH", y.rests(1), NONE);
        look.due("none ahead of ACT 0, LOW", y.rests(2), NONE);
        // LOW has to forbid his ACT 1 by whatever HIGH does, for whom all choices are one.
        TwoKings z = look.island("a0,2,1,50,60;a0,2,1,50,40;");
        look.due("three, by HIGH's choice", z.rests(0), 3);
        look.due("HIGH's none ahead of his ACTS", z.rests(1), NONE);
        look.due("LOW's ACT 1", z.rests(2), 1);
        // The one that harms him most.
        TwoKings w = look.island("a0,1,1,49,50;a0,1,1,48,50;a0,1,1,49,50;");
        look.due("HIGH's worst one", w.rests(1), 1);
        // By HIGH's choice first: (none, ACT 1) is ahead of (ACT 0, none), were both rests.
        TwoKings v = look.island("a0,3,1,60,50;a0,2,1,50,40;");
        look.due("HIGH's", v.rests(1), NONE);
        look.due("LOW's", v.rests(2), 1);
    }

    private static void firmRange() {
        look.of(22, "Whether a set is FIRM: 1, 0. BAD.");
        int[] ends = {2, 4, 8, 16, 32, 64};
        for (int n = 1; n <= 6; n++) {
            TwoKings x = look.island("a0,0,1,50,50;".repeat(n));
            look.due("all of " + n, x.firm(ends[n - 1] - 1), 1);
            look.due("one more than all of " + n, x.firm(ends[n - 1]), BAD);
            look.due("-1 with " + n, x.firm(-1), BAD);
            look.due("0 with " + n, x.firm(0), 1);
            for (int set : FAR) look.due(set + " with " + n, x.firm(set), BAD);
            look.due("the highest bit with " + n, x.firm(1 << 31 | 1), BAD);
        }
    }

    private static void firmOrNot() {
        look.of(22, "It is FIRM, if no KING would have more GAIN, if some one of them were lawful for none.");
        int[][] worths = {{50, 50, 1}, {49, 50, 0}, {50, 49, 0}, {49, 99, 0}, {99, 49, 0}, {99, 99, 1}, {0, 0, 0}, {51, 50, 1}};
        for (int[] w : worths) {
            for (int laws = 0; laws < 4; laws++) {
                TwoKings x = look.island("a0," + laws + ",1," + w[0] + "," + w[1] + ";a0,3,1,0,0;a0,0,1,99,99;");
                look.due("worth " + w[0] + ", " + w[1] + " lawful for " + laws, x.firm(1), w[2]);
                look.due("with one that suits both", x.firm(5), w[2]);
                look.due("with one that harms both", x.firm(3), 0);
            }
        }
        look.of(22, "(the empty one is)");
        look.due("though all harm both", look.island("a0,3,1,0,0;".repeat(6)).firm(0), 1);
        look.due("though all suit both", look.island("a0,0,1,99,99;".repeat(6)).firm(0), 1);
    }

    private static void treatyRange() {
        look.of(23, "TREATY: the set (what = 0), GAINS together and 2000 (1). BAD.");
        TwoKings x = look.island("a0,0,1,60,51;");
        look.due("what -1", x.treaty(-1), BAD);
        look.due("what 2", x.treaty(2), BAD);
        for (int n : FAR) look.due("what " + n, x.treaty(n), BAD);
        look.due("the set", x.treaty(0), 1);
        look.due("GAINS", x.treaty(1), 2011);
        TwoKings most = look.island("a0,0,1,99,99;".repeat(6));
        look.due("the greatest set", most.treaty(0), 63);
        look.due("the greatest GAINS", most.treaty(1), 2588);
        TwoKings least = look.island("a0,3,1,0,0;".repeat(6));
        look.due("the least GAINS, by the empty set", least.treaty(0), 0);
        look.due("the least GAINS", least.treaty(1), 1400);
        look.due("nothing to be UNDONE", most.count(5), 0);
        look.due("LAWS stay", most.act(5, 1), 0);
    }

    private static void treatyChosen() {
        look.of(23, "TREATY: a set of ACTS is lawful for both, all else as it is.");
        // ACT 1 would be worth 48 together, but harms HIGH by 1; ACT 2 is lawful as it is.
        TwoKings x = look.island("a0,0,1,51,51;a0,0,1,49,99;a0,1,1,0,60;a0,0,1,50,51;");
        look.due("those that suit both", x.treaty(0), 9);
        look.due("2, 1, and what is lawful as it is: -40", x.treaty(1), 1963);
        x.allow(3, 1, true);
        look.due("as LAWS are now", x.treaty(0), 1);
        look.due("as LAWS are now, the GAINS", x.treaty(1), 1963);
        look.of(23, "Of all FIRM sets (the empty one is) that of the greatest GAINS of both together");
        look.due("no other is FIRM", look.island("a0,0,1,49,99;a0,0,1,99,49;").treaty(0), 0);
        look.due("no other is FIRM, GAINS", look.island("a0,0,1,49,99;a0,0,1,99,49;").treaty(1), 2000);
        look.due("FIRM with nothing to one", look.island("a0,0,1,50,51;a0,0,1,49,99;").treaty(0), 1);
        look.due("one by one", look.island("a0,0,1,51,50;".repeat(6)).treaty(0), 63);
    }

    private static void treatyLowest() {
        look.of(23, "of several the lowest (bits): it; these GAINS.");
        look.due("worth nothing: the empty set", look.island("a0,0,1,50,50;".repeat(6)).treaty(0), 0);
        look.due("lawful as they are: the empty set", look.island("a0,1,1,60,60;a0,2,1,60,60;a0,3,1,60,60;").treaty(0), 0);
        TwoKings x = look.island("a0,0,1,50,50;a0,0,1,60,60;a0,3,1,60,60;a0,0,1,50,50;a0,0,1,51,50;a0,1,1,50,50;");
        look.due("just those that add", x.treaty(0), 18);
        look.due("these GAINS", x.treaty(1), 2041);
    }

    private static void bargainRange() {
        look.of(24, "NONE; BAD (one twice, too).");
        TwoKings x = look.island(PLAIN + "a0,1,1,1,1;a3,3,1,1,1;a0,2,1,1,1;");
        for (int a = 0; a < 3; a++) {
            look.due("ACT " + a + " twice", x.bargain(a, a, 1), BAD);
            look.due("ACT 3 of three with " + a, x.bargain(3, a, 1), BAD);
            look.due(a + " with ACT 3 of three", x.bargain(a, 3, 1), BAD);
            look.due("ACT -1 with " + a, x.bargain(-1, a, 1), BAD);
            look.due(a + " with ACT -1", x.bargain(a, -1, 1), BAD);
        }
        look.due("-1 twice", x.bargain(-1, -1, 1), BAD);
        for (int n : FAR) {
            look.due("ACT " + n, x.bargain(n, 0, 1), BAD);
            look.due("with ACT " + n, x.bargain(0, n, 1), BAD);
        }
        long[] wrong = {-1, LAST + 1, Long.MIN_VALUE, Long.MAX_VALUE};
        for (long m : wrong) look.due("m " + m, x.bargain(0, 1, m), BAD);
        for (long m : wrong) look.due("BAD ahead of NONE, m " + m, x.bargain(0, 2, m), BAD);
        look.due("m 0", x.bargain(0, 1, 0), 1);
        look.due("m the last minute", x.bargain(0, 1, LAST), LAST + 1);
        look.due("of one ACT alone", new TwoKings().bargain(0, 1, 1), BAD);
    }

    private static void bargainFirst() {
        look.of(24, "BARGAIN of two ACTS: the first minute of m to m and 5000 in which both are LAWFUL");
        TwoKings x = look.island(PLAIN + "a0,1,1,1,1;a3,3,1,1,1;a1,3,6,1,1;a4,1,1,1,1;a4,2,1,1,1;a2,2,99,1,1;");
        for (int m = 0; m <= 20; m++) {
            look.due("0 with 1 from " + m, x.bargain(0, 1, m), m < 1 ? 1 : m < 10 ? m : 21);
            look.due("1 with 0 from " + m, x.bargain(1, 0, m), m < 1 ? 1 : m < 10 ? m : 21);
            look.due("0 with 2 from " + m, x.bargain(0, 2, m), m < 1 ? 1 : m < 5 ? m : 21);
            look.due("2 with 5 from " + m, x.bargain(2, 5, m), m < 11 ? 11 : m < 15 ? m : 31);
            look.due("3 with 4 from " + m, x.bargain(3, 4, m), m < 1 ? 0 : m < 11 ? 10 : 20);
        }
        // A round of TIDES lasts 999 minutes at most, so this is as far as a BARGAIN ever is.
        look.due("998 later", look.island("t999,1,1,20;a1,1,48,1,1;a0,3,1,1,1;").bargain(0, 1, 2), 1000);
        look.due("420 later", look.island("t421,20,1,20;a0,1,1,1,1;a3,3,1,1,1;a1,1,1,1,1;").bargain(0, 2, 401), 821);
    }

    private static void bargainNone() {
        look.of(24, "to m and 5000 in which both are LAWFUL; none.");
        TwoKings x = look.island(PLAIN + "a0,1,1,1,1;a0,2,1,1,1;a4,3,1,1,1;a1,3,10,1,1;a0,0,1,1,1;a3,3,1,1,1;");
        int[][] never = {{0, 1}, {0, 2}, {1, 2}, {0, 3}, {0, 4}, {2, 5}, {3, 5}, {4, 5}, {2, 4}, {3, 4}};
        for (int[] pair : never) {
            look.due("bargain(" + pair[0] + ", " + pair[1] + ", 0)", x.bargain(pair[0], pair[1], 0), NONE);
            look.due("bargain(" + pair[1] + ", " + pair[0] + ", 5)", x.bargain(pair[1], pair[0], 5), NONE);
            look.due("the last minute, " + pair[0] + " with " + pair[1], x.bargain(pair[0], pair[1], LAST), NONE);
        }
        x.allow(1, 0, true);
        look.due("as LAWS are now", x.bargain(0, 1, 0), 1);
    }
}
