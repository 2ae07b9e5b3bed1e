/** Boundary cases of minutes, of LAWFUL ACTS and of told rows (promises 8 to 14), a sentence at a time. */
public final class MinuteEdges {
    private static final int BAD = -1, FULL = -3, NONE = -4;
    private static final int HIGH = 0, LOW = 1, TURN = 2;
    private static final long LAST = Sentences.LAST;
    private static final String PLAIN = Sentences.PLAIN, ACT = Sentences.ACT;
    /** HIGH and LOW of a minute each are all turn: 0 and 1 turn, 2 to 19 LOW; 0 to 18 HIGH but for 0. */
    private static final String THIN_HIGH = "t20,1,1,20;", THIN_LOW = "t20,1,19,20;";
    private static final long[] NO_MINUTES = {-1, -2, LAST + 1, LAST + 2, Long.MIN_VALUE, Long.MAX_VALUE};
    private static final int[] FAR = {Integer.MIN_VALUE, Integer.MAX_VALUE, 1 << 30, -1000};

    private static final Sentences look = new Sentences();

    public static void main(String[] args) {
        rules();
        turnBegins();
        partsOfTide();
        minutesRange();
        minutesCounted();
        next();
        nextNone();
        lawfulRange();
        lawfulTable();
        lasting();
        told();
        noRow();
        soonRange();
        soonBegins();
        soonTakes();
        soonWithoutRow();
        soonNone();
        soonFarthest();
        look.end();
    }

    private static void rules() {
        look.of(8, "Minutes are 0 to 1000000000000 (10 to the 12th).");
        TwoKings x = look.island(PLAIN + ACT);
        look.due("rules(0)", x.rules(0), TURN);
        look.due("rules(1)", x.rules(1), HIGH);
        // 10 to the 12th is a multiple of 20.
        look.due("rules of the last minute", x.rules(LAST), TURN);
        look.due("rules ahead of it", x.rules(LAST - 1), LOW);
        look.of(8, "Who rules minute m. BAD.");
        for (long m : NO_MINUTES) look.due("rules(" + m + ")", x.rules(m), BAD);
        look.due("2 to the 32nd is 16 behind a begin", x.rules(1L << 32), LOW);
    }

    private static void turnBegins() {
        look.of(8, "A minute m is THE TURN (2), if HIGH or LOW begins at m or behind that, ahead of m and 1");
        TwoKings x = look.island(PLAIN + ACT);
        look.due("begins at m", Sentences.rulers(x, 0, 21), "THHHHHHHHHTLLLLLLLLLT");
        // HIGH ends 1 1/400 behind each begin; the first begins are 0 and 20 1/20.
        look.due("begins 1/400 behind m", Sentences.rulers(look.island("t401,20,1,20;" + ACT), 0, 3), "TTL");
        // TIDE 19 begins at 380 19/20, its HIGH ends 19 19/400 behind that, at 399 399/400; the next begins at 401.
        TwoKings late = look.island("t401,20,19,20;" + ACT);
        look.due("begins 1/400 ahead of m and 1", Sentences.rulers(late, 398, 5), "HTLTH");
        // LOW of TIDE 18 lasts from 379 379/400 to 380 19/20.
        look.due("LOW without a minute of its own", Sentences.rulers(late, 378, 5), "HTTHH");
        // 401 times 2493765586 is 999999999986.
        look.due("far off", Sentences.rulers(late, 999999999983L, 6), "HTLTHH");
        look.due("far off, the last minute", late.rules(LAST), HIGH);
        TwoKings halves = look.island("t41,2,1,2;" + ACT);
        look.due("a begin within a minute", Sentences.rulers(halves, 19, 4), "LTHH");
        look.due("a HIGH of one minute", Sentences.rulers(look.island(THIN_HIGH + "o1;" + ACT), 0, 4), "LTTL");
    }

    private static void partsOfTide() {
        look.of(8, "P by Q of it are HIGH, the first part");
        look.due("the least", Sentences.rulers(look.island(THIN_HIGH + ACT), 0, 22), "TTLLLLLLLLLLLLLLLLLLTT");
        look.due("the most", Sentences.rulers(look.island(THIN_LOW + ACT), 0, 22), "THHHHHHHHHHHHHHHHHHTTH");
        TwoKings x = look.island("t999,1,1,20;" + ACT);
        look.due("the longest TIDE, HIGH's end at 49 19/20", Sentences.rulers(x, 48, 3), "HTL");
        look.due("the longest TIDE, its end", Sentences.rulers(x, 998, 3), "LTH");
        TwoKings y = look.island("t400,20,1,2;" + ACT);
        look.due("20 TIDES of 20", Sentences.rulers(y, 0, 21), "THHHHHHHHHTLLLLLLLLLT");
        look.of(8, "HIGH ends P by Q of a TIDE behind that, LOW with the TIDE.");
        look.due("HIGH's last minute, then LOW's first", Sentences.rulers(look.island("t60,1,2,3;" + ACT), 39, 3), "HTL");
        look.due("LOW's last minute, then HIGH's first", Sentences.rulers(look.island("t60,1,2,3;" + ACT), 59, 3), "LTH");
    }

    private static void minutesRange() {
        look.of(9, "MINUTES of one of the three. BAD.");
        TwoKings x = look.island(PLAIN + ACT);
        look.due("who -1", x.minutes(0, 20, -1), BAD);
        look.due("who 3", x.minutes(0, 20, 3), BAD);
        for (int n : FAR) look.due("who " + n, x.minutes(0, 20, n), BAD);
        for (long m : NO_MINUTES) look.due("m " + m, x.minutes(m, 20, 0), BAD);
        look.due("m BAD with n 0", x.minutes(-1, 0, 0), BAD);
        look.due("m 0", x.minutes(0, 20, HIGH) * 10000 + x.minutes(0, 20, LOW) * 100 + x.minutes(0, 20, TURN), 90902);
        look.due("m the last minute, HIGH's behind it", x.minutes(LAST, 20, HIGH), 9);
        look.due("m the last minute, turns", x.minutes(LAST, 21, TURN), 3);
        look.of(9, "MINUTES: of the n (0 to 100000) from m on");
        look.due("n -1", x.minutes(0, -1, 0), BAD);
        look.due("n 100001", x.minutes(0, 100001, 0), BAD);
        for (int n : FAR) look.due("n " + n, x.minutes(0, n, 0), BAD);
        for (int who = 0; who < 3; who++) {
            look.due("n 0", x.minutes(5, 0, who), 0);
            look.due("n 1", x.minutes(5, 1, who), who == HIGH ? 1 : 0);
        }
        look.due("n 100000, HIGH", x.minutes(0, 100000, HIGH), 45000);
        look.due("n 100000, LOW", x.minutes(LAST, 100000, LOW), 45000);
        look.due("n 100000, turns", x.minutes(0, 100000, TURN), 10000);
        // 99999 are 4999 TIDES and the 19 minutes from 11 on: 9 of LOW, the turn, 9 of HIGH.
        look.due("n 99999, LOW", x.minutes(11, 99999, LOW), 45000);
        look.due("n 99999, turns", x.minutes(11, 99999, TURN), 9999);
    }

    private static void minutesCounted() {
        look.of(9, "from m on how many are HIGH's, LOW's, THE TURN.");
        TwoKings x = look.island("t41,2,1,2;" + ACT);
        String round = "THHHHHHHHHTLLLLLLLLLTHHHHHHHHHTLLLLLLLLLL";
        for (int n = 0; n <= 44; n++) {
            int[] sums = new int[3];
            for (int i = 0; i < n; i++) sums["HLT".indexOf(round.charAt((7 + i) % 41))]++;
            for (int who = 0; who < 3; who++) look.due("minutes(7, " + n + ", " + who + ")", x.minutes(7, n, who), sums[who]);
        }
        TwoKings thin = look.island(THIN_HIGH + ACT);
        look.due("none of HIGH's", thin.minutes(0, 100000, HIGH), 0);
        look.due("LOW's then", thin.minutes(0, 100000, LOW), 90000);
        look.due("turns then", thin.minutes(0, 100000, TURN), 10000);
        look.due("none of LOW's", look.island(THIN_LOW + ACT).minutes(0, 100000, LOW), 0);
    }

    private static void next() {
        look.of(10, "NEXT. NONE; BAD.");
        TwoKings x = look.island(PLAIN + ACT);
        look.due("who -1", x.next(0, -1), BAD);
        look.due("who 3", x.next(0, 3), BAD);
        for (int n : FAR) look.due("who " + n, x.next(0, n), BAD);
        for (long m : NO_MINUTES) look.due("m " + m, x.next(m, HIGH), BAD);
        TwoKings thin = look.island(THIN_HIGH + ACT);
        look.due("BAD ahead of NONE, m -1", thin.next(-1, HIGH), BAD);
        look.due("BAD ahead of NONE, m too far", thin.next(LAST + 1, HIGH), BAD);
        look.of(10, "NEXT: the first such one of m to m and 2000");
        for (int m = 0; m <= 20; m++) {
            look.due("next(" + m + ", HIGH)", x.next(m, HIGH), m < 1 ? 1 : m < 10 ? m : 21);
            look.due("next(" + m + ", LOW)", x.next(m, LOW), m < 11 ? 11 : m < 20 ? m : 31);
            look.due("next(" + m + ", TURN)", x.next(m, TURN), m < 1 ? 0 : m < 11 ? 10 : 20);
        }
        look.due("behind the last minute", x.next(LAST, HIGH), LAST + 1);
        look.due("behind the last minute, LOW", x.next(LAST, LOW), LAST + 11);
        look.due("the last minute itself", x.next(LAST, TURN), LAST);
        // A round of TIDES lasts 999 minutes at most, so this is as far as NEXT ever is.
        look.due("HIGH 951 later", look.island("t999,1,1,20;" + ACT).next(49, HIGH), 1000);
        look.due("LOW 950 later", look.island("t999,1,19,20;" + ACT).next(999, LOW), 1949);
        look.due("the turn 949 later", look.island("t999,1,1,20;" + ACT).next(50, TURN), 999);
        // HIGH lasts 1 21/400 minutes; of 20 TIDES only that which begins at 399 19/20 has a minute of it.
        TwoKings seldom = look.island("t421,20,1,20;" + ACT);
        look.due("in one of 20 TIDES", seldom.next(0, HIGH), 400);
        look.due("itself", seldom.next(400, HIGH), 400);
        look.due("20 TIDES later", seldom.next(401, HIGH), 821);
    }

    private static void nextNone() {
        look.of(10, "one of m to m and 2000; none.");
        TwoKings high = look.island(THIN_HIGH + ACT);
        TwoKings low = look.island(THIN_LOW + ACT);
        for (int m = 0; m <= 20; m++) {
            look.due("HIGH never, from " + m, high.next(m, HIGH), NONE);
            look.due("LOW never, from " + m, low.next(m, LOW), NONE);
        }
        look.due("HIGH never, from the last minute", high.next(LAST, HIGH), NONE);
        look.due("but LOW", high.next(0, LOW), 2);
        look.due("but HIGH", low.next(0, HIGH), 1);
        // Whole TIDES of 21: HIGH's end at 1 1/20 leaves minute 1 to the turn.
        look.due("HIGH never, TIDES of 21", look.island("t420,20,1,20;" + ACT).next(0, HIGH), NONE);
    }

    private static void lawfulRange() {
        look.of(11, "Whether an ACT is LAWFUL at m: 1, 0. BAD.");
        TwoKings x = look.island(PLAIN + ACT + ACT);
        for (long m : NO_MINUTES) look.due("m " + m, x.lawful(0, m), BAD);
        for (int a : FAR) look.due("ACT " + a, x.lawful(a, 1), BAD);
        look.due("ACT -1", x.lawful(-1, 1), BAD);
        look.due("ACT 2 of two", x.lawful(2, 1), BAD);
        look.due("ACT 1 of two", x.lawful(1, 1), 1);
        look.due("minute 0", x.lawful(0, 0), 0);
        look.due("the last minute", x.lawful(0, LAST), 0);
        look.due("the last minute but 19", x.lawful(0, LAST - 19), 1);
        TwoKings y = look.island(ACT.repeat(6));
        look.due("ACT 5 of six", y.lawful(5, 1), 1);
        look.due("ACT 6 of six", y.lawful(6, 1), BAD);
        look.due("ACT 1 of one", new TwoKings().lawful(1, 1), BAD);
    }

    private static void lawfulTable() {
        String byKing = "000 100 010 110";
        look.of(11, "MOMENT and BEGUN, if a KING rules m for whom it is lawful");
        lawfulOfKind(0, byKing, "11");
        lawfulOfKind(2, byKing, "11");
        look.of(11, "LASTING, if that is so of all minutes");
        lawfulOfKind(1, byKing, "00");
        look.of(11, "OF BOTH, if it is lawful for both, and a KING rules m");
        lawfulOfKind(3, "000 000 000 110", "11");
        look.of(11, "AT THE TURN, if m is THE TURN, and it is lawful for one or both.");
        lawfulOfKind(4, "000 001 001 001", "00");
    }

    /** By LAWS 0 to 3: at minutes of HIGH, LOW, THE TURN; and for both in the last minutes of HIGH, LOW. */
    private static void lawfulOfKind(int kind, String due, String dueInLast) {
        for (int laws = 0; laws < 4; laws++) {
            String want = due.split(" ")[laws];
            String what = "KIND " + kind + " lawful for " + laws;
            TwoKings x = look.island(PLAIN + "a" + kind + "," + laws + ",3,1,1;");
            look.due(what, "" + x.lawful(0, 5) + x.lawful(0, 15) + x.lawful(0, 10), want);
            look.due(what + ", first minutes", "" + x.lawful(0, 1) + x.lawful(0, 11) + x.lawful(0, 0), want);
            TwoKings y = look.island(PLAIN + "a" + kind + "," + (3 - laws) + ",3,1,1;");
            for (int king = 0; king < 2; king++) y.allow(0, king, (laws >> king & 1) == 1);
            look.due(what + " now", "" + y.lawful(0, 5) + y.lawful(0, 15) + y.lawful(0, 10), want);
        }
        TwoKings z = look.island(PLAIN + "a" + kind + ",3,2,1,1;");
        look.due("KIND " + kind + " in the last minutes", "" + z.lawful(0, 9) + z.lawful(0, 19), dueInLast);
    }

    private static void lasting() {
        look.of(11, "that is so of all minutes m to m and M less 1");
        for (int lasts = 1; lasts <= 11; lasts++) {
            TwoKings x = look.island(PLAIN + "a1,3," + lasts + ",1,1;");
            for (int m = 0; m <= 20; m++) {
                boolean high = m >= 1 && m + lasts - 1 <= 9;
                boolean low = m >= 11 && m + lasts - 1 <= 19;
                look.due("M " + lasts + " at " + m, x.lawful(0, m), high || low ? 1 : 0);
            }
        }
        TwoKings y = look.island("t200,1,1,2;a1,1,99,1,1;a1,1,98,1,1;a1,2,99,1,1;");
        look.due("M 99 in all 99 minutes", y.lawful(0, 1), 1);
        look.due("M 99, a minute late", y.lawful(0, 2), 0);
        look.due("M 99 from the turn on", y.lawful(0, 0), 0);
        look.due("M 98, a minute late", y.lawful(1, 2), 1);
        look.due("M 99 in LOW's", y.lawful(2, 101), 1);
        look.due("M 99 in LOW's, a minute late", y.lawful(2, 102), 0);
        // 10 to the 12th is a multiple of 200: HIGH has 99 minutes from it on by o199, 98 by o198.
        look.due("behind the last minute", look.island("t200,1,1,2;o199;a1,1,99,1,1;").lawful(0, LAST), 1);
        look.due("too long behind the last minute", look.island("t200,1,1,2;o198;a1,1,99,1,1;").lawful(0, LAST), 0);
        TwoKings halves = look.island("t41,2,1,2;a1,1,9,1,1;a1,2,10,1,1;");
        // HIGH from 20 1/2 to 30 3/4 has 21 to 29, LOW from 30 3/4 to 41 has 31 to 40.
        look.due("HIGH's nine", halves.lawful(0, 21), 1);
        look.due("not the turn's tenth", halves.lawful(0, 22), 0);
        look.due("LOW's ten", halves.lawful(1, 31), 1);
        look.due("LOW's ten of nine", halves.lawful(1, 11), 0);
    }

    private static void told() {
        look.of(12, "An ACT more of the told row: how many. BAD; FULL.");
        TwoKings x = look.island(PLAIN + ACT + "a0,2,1,1,1;");
        look.due("ACT -1", x.tell(-1), BAD);
        look.due("ACT 2 of two", x.tell(2), BAD);
        for (int a : FAR) look.due("ACT " + a, x.tell(a), BAD);
        look.due("the row is empty", x.count(3), 0);
        look.due("ACT 0", x.tell(0), 1);
        look.due("ACT 0 again", x.tell(0), 2);
        look.of(12, "a told row of ACTS (8 at most)");
        x.noRow();
        for (int i = 1; i <= 8; i++) look.due("the " + i + ". one", x.tell(i == 8 ? 1 : 0), i);
        look.due("the 9. one", x.tell(0), FULL);
        look.due("the 10. one", x.tell(1), FULL);
        look.due("BAD ahead of FULL", x.tell(2), BAD);
        look.due("BAD ahead of FULL, -1", x.tell(-1), BAD);
        look.due("eight stay", x.count(3), 8);
        look.due("the 7. stays", x.soon(1, 6), 7);
        look.due("the 8. stays", x.soon(1, 7), 11);
    }

    private static void noRow() {
        look.of(13, "No row: how many it had.");
        TwoKings x = look.island(PLAIN + ACT);
        look.due("none", x.noRow(), 0);
        x.tell(0);
        look.due("one", x.noRow(), 1);
        look.due("none now", x.noRow(), 0);
        for (int i = 0; i < 8; i++) x.tell(0);
        look.due("eight", x.noRow(), 8);
        look.due("count(3)", x.count(3), 0);
        look.due("no i-th", x.soon(0, 0), BAD);
        look.due("the end is m", x.soon(0, -1), 0);
        look.due("room again", x.tell(0), 1);
    }

    private static void soonRange() {
        look.of(14, "NONE; BAD (i: of the row).");
        TwoKings x = look.island(PLAIN + ACT + "a0,0,1,1,1;");
        look.due("i 0 without a row", x.soon(0, 0), BAD);
        look.due("i -2 without a row", x.soon(0, -2), BAD);
        for (int n = 1; n <= 8; n++) {
            x.tell(0);
            look.due("i of the last one", x.soon(1, n - 1), n);
            look.due("i behind the last one", x.soon(1, n), BAD);
        }
        look.due("i -1", x.soon(1, -1), 9);
        look.due("i -2", x.soon(1, -2), BAD);
        for (int i : FAR) look.due("i " + i, x.soon(1, i), BAD);
        for (long m : NO_MINUTES) {
            look.due("m " + m, x.soon(m, 0), BAD);
            look.due("m " + m + ", the end", x.soon(m, -1), BAD);
        }
        x.noRow();
        x.tell(1);
        look.due("never", x.soon(0, 0), NONE);
        look.due("BAD ahead of NONE, i", x.soon(0, 1), BAD);
        look.due("BAD ahead of NONE, i -2", x.soon(0, -2), BAD);
        look.due("BAD ahead of NONE, m", x.soon(-1, 0), BAD);
        look.due("BAD ahead of NONE, m too far", x.soon(LAST + 1, -1), BAD);
    }

    private static void soonBegins() {
        look.of(14, "each begins in the first minute, from that behind the last one of the ACT ahead on (the first one from m on)");
        TwoKings x = look.island(PLAIN + "a0,1,1,1,1;a1,1,3,1,1;a4,3,1,1,1;");
        x.tell(0);
        for (int m = 0; m <= 20; m++) look.due("the first from " + m, x.soon(m, 0), m < 1 ? 1 : m < 10 ? m : 21);
        x.tell(0);
        look.due("at once behind it", x.soon(1, 1), 2);
        look.due("9 is the last one, then the next TIDE", x.soon(9, 1), 21);
        x.noRow();
        x.tell(1);
        x.tell(1);
        x.tell(1);
        x.tell(2);
        look.due("three by three", x.soon(1, 2), 7);
        look.due("then the turn at once", x.soon(1, 3), 10);
        look.due("the end", x.soon(1, -1), 11);
        look.due("two from 2 on", x.soon(2, 1), 5);
        look.due("the third is too late", x.soon(2, 2), 21);
        look.due("the turn behind that", x.soon(2, 3), 30);
        look.due("from the last minute on", x.soon(LAST, 0), LAST + 1);
        look.due("from the last minute on, the end", x.soon(LAST, -1), LAST + 11);
    }

    private static void soonTakes() {
        look.of(14, "LASTING and BEGUN take M minutes, the others 1.");
        int[] taken = {1, 7, 7, 1, 1};
        for (int kind = 0; kind < 5; kind++) {
            TwoKings x = look.island(PLAIN + "a" + kind + ",3,7,1,1;");
            x.tell(0);
            int begin = kind == 4 ? 0 : 1;
            look.due("KIND " + kind + " begins", x.soon(0, 0), begin);
            look.due("KIND " + kind + " ends", x.soon(0, -1), begin + taken[kind]);
        }
        TwoKings y = look.island(PLAIN + "a2,1,99,1,1;");
        for (int i = 0; i < 8; i++) y.tell(0);
        // 1 and 99 are 100, a turn: 101, and so on.
        look.due("eight of 99 minutes, the last one begins", y.soon(0, 7), 701);
        look.due("eight of 99 minutes, the end", y.soon(0, -1), 800);
    }

    private static void soonWithoutRow() {
        look.of(14, "the minute behind the last one of all (m without a row); none.");
        TwoKings x = look.island(PLAIN + "a0,0,1,1,1;a0,3,1,1,1;");
        look.due("0", x.soon(0, -1), 0);
        look.due("77", x.soon(77, -1), 77);
        look.due("the last minute", x.soon(LAST, -1), LAST);
        x.tell(1);
        look.due("one", x.soon(0, -1), 2);
        x.tell(0);
        look.due("none", x.soon(0, -1), NONE);
    }

    private static void soonNone() {
        look.of(14, "SOON from m on: the end (i = -1), when the i-th begins.");
        TwoKings x = look.island(PLAIN + "a0,3,1,1,1;a1,3,10,1,1;a3,1,1,1,1;a4,0,1,1,1;a1,0,1,1,1;a2,0,5,1,1;");
        for (int never = 1; never < 6; never++) {
            x.noRow();
            x.tell(0);
            x.tell(never);
            x.tell(0);
            look.due("ahead of ACT " + never, x.soon(0, 0), 1);
            look.due("ACT " + never, x.soon(0, 1), NONE);
            look.due("behind ACT " + never, x.soon(0, 2), NONE);
            look.due("the end with ACT " + never, x.soon(0, -1), NONE);
        }
        x.allow(2, 1, true);
        x.noRow();
        x.tell(2);
        look.due("as LAWS are now", x.soon(0, 0), 1);
    }

    private static void soonFarthest() {
        look.of(14, "to 5000 later, in which it is LAWFUL");
        // A round of TIDES lasts 999 minutes at most, so what is not LAWFUL within one is never.
        TwoKings x = look.island("t999,1,1,20;a0,1,1,1,1;a1,1,48,1,1;a1,1,49,1,1;");
        x.tell(0);
        look.due("951 later", x.soon(49, 0), 1000);
        x.noRow();
        x.tell(1);
        look.due("all 48 of HIGH", x.soon(0, 0), 1);
        look.due("998 later", x.soon(2, 0), 1000);
        for (int i = 1; i < 8; i++) x.tell(1);
        look.due("each to 5000 later, not all", x.soon(2, 7), 1000 + 7 * 999);
        look.due("the end", x.soon(2, -1), 1048 + 7 * 999);
        x.noRow();
        x.tell(2);
        look.due("49 of 48", x.soon(0, 0), NONE);
        TwoKings seldom = look.island("t421,20,1,20;a0,1,1,1,1;");
        for (int i = 0; i < 8; i++) seldom.tell(0);
        look.due("once in 421 minutes", seldom.soon(0, 0), 400);
        look.due("eight times that", seldom.soon(0, 7), 400 + 7 * 421);
    }
}
