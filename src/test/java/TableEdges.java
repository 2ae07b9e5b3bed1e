/** Boundary cases of tables, wrecks, draws and counts (promises 25 to 30, 33), a sentence at a time. */
public final class TableEdges {
    private static final int BAD = -1, FULL = -3, NONE = -4;
    private static final int HIGH = 0, LOW = 1, TURN = 2;
    private static final long LAST = Sentences.LAST;
    private static final String PLAIN = Sentences.PLAIN, ACT = Sentences.ACT;
    /** TIDES of 200 minutes: 0 turn, 1 to 99 HIGH, 100 turn, 101 to 199 LOW. */
    private static final String LONG = "t200,1,1,2;";
    private static final int[] FAR = {Integer.MIN_VALUE, Integer.MAX_VALUE, 1 << 30, -1000};

    private static final Sentences look = new Sentences();

    public static void main(String[] args) {
        line();
        tenLines();
        noTable();
        forged();
        shiftRange();
        shiftFarthest();
        shiftZeroAtLeast();
        shiftNearest();
        wreckRange();
        wreckLowestTerms();
        wreckNone();
        drawnRange();
        drawnMinutes();
        count();
        countFull();
        look.end();
    }

    private static void line() {
        look.of(25, "A line more of the TABLE (m 0 to 1000000): how many. BAD; FULL.");
        TwoKings x = look.island(PLAIN + ACT);
        int[] wrong = {-1, 1000001, 1000002, Integer.MIN_VALUE, Integer.MAX_VALUE};
        for (int m : wrong) look.due("m " + m, x.line(m, 0), BAD);
        look.due("no line", x.count(4), 0);
        look.due("m 0", x.line(0, TURN), 1);
        look.due("m 1000000", x.line(1000000, TURN), 2);
        look.due("both are so", x.forged(), 0);
        look.due("a line twice", x.line(0, TURN), 3);
        look.of(25, "lines that say minute m (0 to 1000000) is r (0 to 2).");
        look.due("r -1", x.line(0, -1), BAD);
        look.due("r 3", x.line(0, 3), BAD);
        for (int r : FAR) look.due("r " + r, x.line(0, r), BAD);
        look.due("no line of these", x.count(4), 3);
        look.due("r 0", x.line(1, HIGH), 4);
        look.due("r 1", x.line(11, LOW), 5);
        look.due("r 2", x.line(10, TURN), 6);
        look.due("all are so", x.forged(), 0);
    }

    private static void tenLines() {
        look.of(25, "A TABLE (10 at most)");
        TwoKings x = look.island(PLAIN + ACT);
        for (int i = 1; i <= 10; i++) look.due("line " + i, x.line(5, HIGH), i);
        look.due("line 11", x.line(5, LOW), FULL);
        look.due("line 12", x.line(5, LOW), FULL);
        look.due("BAD ahead of FULL, m", x.line(-1, 0), BAD);
        look.due("BAD ahead of FULL, m too far", x.line(1000001, 0), BAD);
        look.due("BAD ahead of FULL, r", x.line(5, 3), BAD);
        look.due("ten stay", x.count(4), 10);
        look.due("as they are", x.forged(), 0);
    }

    private static void noTable() {
        look.of(26, "No TABLE: how many lines it had.");
        TwoKings x = look.island(PLAIN + ACT);
        look.due("none", x.noTable(), 0);
        x.line(5, LOW);
        look.due("one", x.noTable(), 1);
        look.due("none now", x.noTable(), 0);
        for (int i = 0; i < 10; i++) x.line(5, LOW);
        look.due("ten", x.noTable(), 10);
        look.due("no lines", x.count(4), 0);
        look.due("none is forged", x.forged(), 0);
        look.due("none is so", x.shift(0), 0);
        look.due("room again", x.line(5, HIGH), 1);
        look.due("the old ones are gone", x.forged(), 0);
    }

    private static void forged() {
        look.of(27, "FORGED, as bits.");
        look.due("without a TABLE", new TwoKings().forged(), 0);
        for (int wrong = 0; wrong < 10; wrong++) {
            TwoKings x = look.island(PLAIN + ACT);
            TwoKings y = look.island(PLAIN + ACT);
            for (int i = 0; i < 10; i++) {
                x.line(5, i == wrong ? TURN : HIGH);
                y.line(15, i == wrong ? LOW : HIGH);
            }
            look.due("line " + wrong + " alone", x.forged(), 1 << wrong);
            look.due("all but line " + wrong, y.forged(), 1023 - (1 << wrong));
        }
        look.of(27, "FORGED: lines (bits) that are not so.");
        // At minutes of HIGH, LOW, THE TURN what says 0, 1, 2.
        TwoKings x = look.island(PLAIN + "s10;" + ACT);
        int[] minutes = {9, 11, 10};
        for (int m : minutes) for (int r = 0; r < 3; r++) x.line(m, r);
        look.due("each by each", x.forged(), 0b011_101_110);
        x.year(1);
        // HIGH begins at 10 now: 9 is LOW's, 11 HIGH's, 10 the turn.
        look.due("as the YEAR is now", x.forged(), 0b011_110_101);
    }

    private static void shiftRange() {
        look.of(28, "SHIFT: how many (what = 0), d and 30 (1). BAD.");
        TwoKings x = look.island(LONG + ACT);
        look.due("what -1", x.shift(-1), BAD);
        look.due("what 2", x.shift(2), BAD);
        for (int n : FAR) look.due("what " + n, x.shift(n), BAD);
        look.due("without a TABLE, how many", x.shift(0), 0);
        look.due("without a TABLE, d", x.shift(1), 30);
        for (int i = 0; i < 10; i++) x.line(50, HIGH);
        look.due("all ten", x.shift(0), 10);
        look.due("all ten, d", x.shift(1), 30);
    }

    private static TwoKings withLines(String text, int... lines) {
        TwoKings x = look.island(text + ACT);
        for (int i = 0; i < lines.length; i += 2) x.line(lines[i], lines[i + 1]);
        return x;
    }

    private static void shiftFarthest() {
        look.of(28, "of d from -30 to 30 that by which most lines are so, if d is added to their minutes");
        for (int d = -32; d <= 32; d++) {
            boolean within = d >= -30 && d <= 30;
            TwoKings x = withLines(LONG, 100 - d, TURN);
            look.due("how many by " + d, x.shift(0), within ? 1 : 0);
            look.due("d by " + d, x.shift(1), within ? d + 30 : 30);
        }
        // 1000000 is a begin; what lies behind it is looked at all the same.
        TwoKings end = withLines(LONG, 1000000, HIGH, 999999, TURN);
        look.due("behind minute 1000000", end.shift(0), 2);
        look.due("behind minute 1000000, d", end.shift(1), 31);
        TwoKings farEnd = withLines("t200,1,1,2;o30;", 1000000, TURN);
        look.due("at minute 1000030", farEnd.shift(1), 60);
        TwoKings most = withLines(LONG, 100, TURN, 105, TURN, 305, TURN);
        look.due("two by -5 rather than one by 0", most.shift(0), 2);
        look.due("two by -5, d", most.shift(1), 25);
    }

    private static void shiftZeroAtLeast() {
        look.of(28, "(0 at least)");
        TwoKings x = withLines(LONG, 10, TURN, 20, TURN);
        look.due("10 and 20 by -20 are minute 0", x.shift(0), 2);
        look.due("10 and 20 by -20, d", x.shift(1), 10);
        // The TIDE begins at -1, which is no minute: 0 is HIGH's.
        TwoKings y = withLines("t200,1,1,2;o199;", 5, TURN);
        look.due("-1 is no turn", y.shift(0), 0);
        look.due("-1 is no turn, d", y.shift(1), 30);
        TwoKings w = withLines(LONG, 0, TURN, 30, TURN);
        look.due("0 stays 0 by -30", w.shift(0), 2);
        look.due("0 stays 0 by -30, d", w.shift(1), 0);
    }

    private static void shiftNearest() {
        look.of(28, "of several the nearest to 0, then the lower: how many; d and 30.");
        look.due("all d: 0", withLines(LONG, 50, HIGH).shift(1), 30);
        // Turns at 0, 10, 20: 5 ahead and 5 behind.
        look.due("-5 ahead of 5", withLines(PLAIN, 115, TURN).shift(1), 25);
        look.due("4 ahead of -6", withLines(PLAIN, 116, TURN).shift(1), 34);
        look.due("-4 ahead of 6", withLines(PLAIN, 114, TURN).shift(1), 26);
        look.due("-1 ahead of 9", withLines(PLAIN, 111, TURN).shift(1), 29);
        look.due("1 ahead of -9", withLines(PLAIN, 119, TURN).shift(1), 31);
        look.due("0 ahead of 10", withLines(PLAIN, 110, TURN).shift(1), 30);
        // TIDES of 60: turns at 0, 30, 60.
        look.due("0 ahead of -30 and 30", withLines("t60,1,1,2;", 90, TURN).shift(1), 30);
        look.due("-15 ahead of 15", withLines("t60,1,1,2;", 105, TURN).shift(1), 15);
        // TIDES of 120: turns at 0, 60, 120.
        look.due("-30 ahead of 30", withLines("t120,1,1,2;", 90, TURN).shift(1), 0);
    }

    private static void wreckRange() {
        look.of(29, "A WRECK: above (part = 0), below (1). NONE; BAD.");
        TwoKings x = look.island(PLAIN + ACT);
        look.due("part -1", x.wreck(1, 5, 0, -1), BAD);
        look.due("part 2", x.wreck(1, 5, 0, 2), BAD);
        look.due("KING -1", x.wreck(1, 5, -1, 0), BAD);
        look.due("KING 2: THE TURN is none", x.wreck(1, 5, 2, 0), BAD);
        for (int n : FAR) {
            look.due("part " + n, x.wreck(1, 5, 0, n), BAD);
            look.due("KING " + n, x.wreck(1, 5, n, 0), BAD);
        }
        long[] wrong = {-1, LAST + 1, Long.MIN_VALUE, Long.MAX_VALUE};
        for (long m : wrong) look.due("m " + m, x.wreck(m, 5, 0, 0), BAD);
        look.due("m 0", x.wreck(0, 2, HIGH, 0), 1);
        look.due("m the last minute", x.wreck(LAST, 2, HIGH, 0), 1);
        look.due("BAD ahead of NONE, KING", x.wreck(10, 1, 2, 0), BAD);
        look.due("BAD ahead of NONE, part", x.wreck(10, 1, 0, 2), BAD);
        look.due("BAD ahead of NONE, n", x.wreck(10, 0, 0, 0), BAD);
        look.of(29, "A WRECK struck in one of the n minutes (1 to 10000) from m on");
        look.due("n 0", x.wreck(1, 0, 0, 0), BAD);
        look.due("n -1", x.wreck(1, -1, 0, 0), BAD);
        look.due("n 10001", x.wreck(1, 10001, 0, 0), BAD);
        for (int n : FAR) look.due("n " + n, x.wreck(1, n, 0, 0), BAD);
        look.due("n 1", x.wreck(1, 1, HIGH, 0) * 10 + x.wreck(1, 1, HIGH, 1), 11);
        look.due("n 10000, above", x.wreck(1, 10000, HIGH, 0), 1);
        look.due("n 10000, below", x.wreck(1, 10000, HIGH, 1), 2);
        // 499 TIDES and the 19 minutes 11 to 29: 9 of LOW's, the turn, 9 of HIGH's.
        look.due("n 9999", x.wreck(11, 9999, LOW, 0) * 10 + x.wreck(11, 9999, LOW, 1), 12);
        // 499 TIDES have 4491 each; the 18 minutes 11 to 28 have 9 of LOW's and 8 of HIGH's.
        look.due("n 9998, above", x.wreck(11, 9998, LOW, 0), 4500);
        look.due("n 9998, below", x.wreck(11, 9998, LOW, 1), 8999);
    }

    private static void wreckLowestTerms() {
        look.of(29, "the part of a KING: his of these by those of both, in lowest terms");
        TwoKings x = look.island(PLAIN + ACT);
        // From 10 - k on, k of HIGH's, the turn, then of LOW's.
        for (int high = 1; high <= 9; high++) {
            for (int low = 1; low <= 9; low++) {
                int common = 1;
                for (int c = 2; c <= 9; c++) if (high % c == 0 && low % c == 0) common = c;
                int n = high + 1 + low;
                String what = high + " of HIGH's, " + low + " of LOW's";
                long parts = x.wreck(10 - high, n, HIGH, 0) * 100L + x.wreck(10 - high, n, HIGH, 1);
                look.due(what, parts, high / common * 100L + (high + low) / common);
                if (low > 2) continue;
                look.due(what + ", LOW above", x.wreck(10 - high, n, LOW, 0), low / common);
                look.due(what + ", LOW below", x.wreck(10 - high, n, LOW, 1), (high + low) / common);
            }
        }
        TwoKings y = look.island(PLAIN + ACT);
        look.due("none of his: 0 by 1, above", y.wreck(1, 9, LOW, 0), 0);
        look.due("none of his: 0 by 1, below", y.wreck(1, 9, LOW, 1), 1);
        look.due("all of them his: 1 by 1, above", y.wreck(1, 9, HIGH, 0), 1);
        look.due("all of them his: 1 by 1, below", y.wreck(1, 9, HIGH, 1), 1);
        look.due("turns beside", y.wreck(0, 11, HIGH, 0) * 10 + y.wreck(0, 11, HIGH, 1), 11);
        // 10 TIDES of 999, of which HIGH has 48, and 9 minutes more, of which he has 8; 21 turns: 488 by 9978.
        TwoKings z = look.island("t999,1,1,20;" + ACT);
        look.due("large ones, above", z.wreck(0, 9999, HIGH, 0), 244);
        look.due("large ones, below", z.wreck(0, 9999, HIGH, 1), 4989);
    }

    private static void wreckNone() {
        look.of(29, "in lowest terms; none (of neither).");
        TwoKings x = look.island(PLAIN + ACT);
        TwoKings thin = look.island("t20,1,1,20;" + ACT);
        for (int king = 0; king < 2; king++) {
            for (int part = 0; part < 2; part++) {
                look.due("a turn alone", x.wreck(10, 1, king, part), NONE);
                look.due("a turn alone, the last minute", x.wreck(LAST, 1, king, part), NONE);
                look.due("two turns alone", thin.wreck(0, 2, king, part), NONE);
                look.due("two turns and LOW", thin.wreck(0, 3, king, part), part == 1 || king == LOW ? 1 : 0);
            }
        }
        look.due("a turn and HIGH", x.wreck(0, 2, HIGH, 0), 1);
    }

    private static void drawnRange() {
        look.of(30, "ACTS BY DRAWS. BAD.");
        TwoKings x = look.island(PLAIN + ACT);
        for (int n : FAR) {
            look.due("z " + n, x.drawn(n, 1), BAD);
            look.due("n " + n, x.drawn(0, n), BAD);
        }
        look.of(30, "ACTS BY DRAWS by z (0 to 9999)");
        look.due("z -1", x.drawn(-1, 1), BAD);
        look.due("z 10000", x.drawn(10000, 1), BAD);
        // x 1: minute 1, HIGH's. x 79182082: modulo 65521 it is 32714, its square 51303, HIGH's.
        look.due("z 0", x.drawn(0, 1), 1);
        look.due("z 9999", x.drawn(9999, 1), 1);
        look.of(30, "i 0 to n less 1 (n 1 to 200): how many are LAWFUL.");
        look.due("n 0", x.drawn(0, 0), BAD);
        look.due("n -1", x.drawn(0, -1), BAD);
        look.due("n 201", x.drawn(0, 201), BAD);
        look.due("n 1", x.drawn(0, 1), 1);
        // AT THE TURN, for none: none is ever LAWFUL.
        look.due("none", look.island("a4,0,1,1,1;").drawn(7, 200), 0);
        TwoKings all = look.island("a3,3,1,1,1;");
        int turns = look.island("a4,3,1,1,1;").drawn(7, 200);
        look.due("all but the turns", all.drawn(7, 200), 200 - turns);
    }

    private static void drawnMinutes() {
        look.of(30, "ACT i modulo how many there are at minute ((x times x) modulo 65521), x being 7919 z, 6151 i and 1 together");
        String text = "a0,1,1,1,1;a0,2,1,1,1;a4,3,1,1,1;a1,1,5,1,1;a1,2,3,1,1;a3,3,1,1,1;";
        int[] draws = {0, 1, 271, 272, 5000, 9998, 9999};
        for (int acts = 1; acts <= 6; acts++) {
            String some = PLAIN + text.substring(0, acts * 11);
            for (int z : draws) {
                TwoKings x = look.island(some);
                int sum = 0;
                for (int i = 0; i < 200; i++) {
                    // The square of the remainder: no number here is near to what an int can hold.
                    long r = (7919L * z + 6151L * i + 1) % 65521;
                    sum += x.lawful(i % acts, r * r % 65521);
                    if (i > 2 && i < 197) continue;
                    look.due(acts + " ACTS: drawn(" + z + ", " + (i + 1) + ")", x.drawn(z, i + 1), sum);
                }
            }
        }
    }

    private static void count() {
        look.of(33, "6 what HIGH has of worth and 1000000, 7 LOW, 8 KEPT. BAD.");
        TwoKings x = new TwoKings();
        look.due("what -1", x.count(-1), BAD);
        look.due("what 9", x.count(9), BAD);
        for (int n : FAR) look.due("what " + n, x.count(n), BAD);
        int[] first = {1, 0, 0, 0, 0, 0, 1000000, 1000000, 0};
        for (int i = 0; i < 9; i++) look.due("at first, count(" + i + ")", x.count(i), first[i]);
        TwoKings y = look.island("t999,1,19,20;a0,1,1,0,0;");
        y.pass(1);
        for (int i = 0; i < 400; i++) y.doAct(0);
        look.due("less than nothing, HIGH", y.count(6), 980000);
        look.due("less than nothing, LOW", y.count(7), 980000);
    }

    private static void countFull() {
        look.of(33, "How many: 0 ACTS, 1 bytes of THE TEXT, 2 the YEAR, 3 of the row, 4 lines, 5 that can be UNDONE");
        TwoKings x = look.island("a0,1,1,99,0;".repeat(6));
        for (int i = 0; i < 41; i++) x.write(8, 0);
        x.year(99);
        for (int i = 0; i < 9; i++) x.tell(0);
        for (int i = 0; i < 11; i++) x.line(0, 0);
        x.pass(1);
        for (int i = 0; i < 9; i++) x.doAct(5);
        for (int i = 0; i < 3; i++) x.keep();
        int[] full = {6, 400, 99, 8, 10, 8, 1000441, 999550, 2};
        for (int i = 0; i < 9; i++) look.due("all full, count(" + i + ")", x.count(i), full[i]);
        for (int i = 0; i < 9; i++) look.due("again, count(" + i + ")", x.count(i), full[i]);
    }
}
