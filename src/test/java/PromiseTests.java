import java.util.ArrayList;
import java.util.List;

/** Each promise by calls whose answers were worked out by hand from the document. */
public final class PromiseTests {
    private static final int BAD = -1, NO = -2, FULL = -3, NONE = -4;
    private static final long LAST = 1000000000000L;
    /** TIDES of 20 minutes: 0 turn, 1 to 9 HIGH, 10 turn, 11 to 19 LOW. */
    private static final String PLAIN = "t20,1,1,2;";
    /** TIDES of 20 1/2 minutes: turns at 0, 10 1/4, 20 1/2, 30 3/4, 41. */
    private static final String BROKEN = "t41,2,1,2;";

    private static int wrong = 0;
    private static int looked = 0;

    public static void main(String[] args) {
        newObject();
        write();
        wipe();
        faultOfForm();
        faultOfNumbers();
        faultPlace();
        lay();
        layRefused();
        act();
        year();
        rules();
        rulesFarOff();
        minutes();
        next();
        lawful();
        tellAndNoRow();
        soon();
        pass();
        doAct();
        allow();
        undo();
        gainAndForbid();
        rests();
        firm();
        treaty();
        bargain();
        lineAndNoTable();
        forged();
        shift();
        wreck();
        drawn();
        keepAndBack();
        count();
        extremeArguments();
        System.out.println(looked + " answers looked at, " + wrong + " wrong");
        if (wrong != 0) System.exit(1);
    }

    private static void due(String call, long got, long want) {
        looked++;
        if (got == want) return;
        wrong++;
        System.out.println(call + " answered " + got + ", due is " + want);
    }

    private static void put(TwoKings x, String text) {
        for (int i = 0; i < text.length(); i++) x.write(1, text.charAt(i));
    }

    private static TwoKings island(String text) {
        TwoKings x = new TwoKings();
        put(x, text);
        due("fault of " + text, x.fault(), NONE);
        if (x.lay() < 1) due("lay of " + text, 0, 1);
        return x;
    }

    private static int faultOf(String text) {
        TwoKings x = new TwoKings();
        put(x, text);
        return x.fault();
    }

    private static void newObject() {
        TwoKings x = new TwoKings();
        int[] counts = {1, 0, 0, 0, 0, 0, 1000000, 1000000, 0};
        for (int i = 0; i < counts.length; i++) due("1: count(" + i + ")", x.count(i), counts[i]);
        int[] numbers = {0, 1, 1, 55, 55};
        for (int i = 0; i < numbers.length; i++) due("1: act(0, " + i + ")", x.act(0, i), numbers[i]);
        due("1: begin of the first TIDE", x.rules(0), 2);
        due("1: HIGH", x.rules(371), 0);
        due("1: HIGH ends at 372 1/2", x.rules(372), 2);
        due("1: LOW", x.rules(744), 1);
        due("1: TIDE of 745", x.rules(745), 2);
        due("1: no shift by years", x.year(50), 0);
        due("1: no shift by years", x.rules(745), 2);
        due("1: empty text", x.fault(), NONE);
        due("1: minute 0", x.pass(1), 1);
        due("1: nothing kept", x.back(), NO);
    }

    private static void write() {
        TwoKings x = new TwoKings();
        due("2: n 0", x.write(0, 1), BAD);
        due("2: n 9", x.write(9, 1), BAD);
        due("2: n -1", x.write(-1, 1), BAD);
        due("2: nothing written", x.count(1), 0);
        due("2: highest first", x.write(3, 0x6F373BL), 3);
        due("2: o7; is no fault", x.fault(), NONE);
        due("2: lowest n bytes alone", x.write(3, 0x4141416F383BL), 6);
        due("2: o8; is no fault", x.fault(), NONE);
        due("2: eight bytes", x.write(8, 0x6F3030313B6F323BL), 14);
        due("2: eight bytes", x.fault(), NONE);
        due("2: a byte over 127", x.write(8, -1L), 22);
        due("2: a byte over 127", x.fault(), 14);
        for (int i = 0; i < 47; i++) x.write(8, 0);
        due("2: 398 bytes", x.count(1), 398);
        due("2: 401 bytes", x.write(3, 0), FULL);
        due("2: BAD ahead of FULL", x.write(9, 0), BAD);
        due("2: nothing changed", x.count(1), 398);
        due("2: 400 bytes", x.write(2, 0), 400);
        due("2: no more", x.write(1, 0), FULL);
        due("2: 400 bytes stay", x.wipe(), 400);
    }

    private static void wipe() {
        TwoKings x = new TwoKings();
        due("3: empty", x.wipe(), 0);
        put(x, "x;");
        due("3: two bytes", x.wipe(), 2);
        due("3: none left", x.count(1), 0);
        due("3: no fault left", x.fault(), NONE);
        put(x, "a1,2,3,4,5;");
        x.lay();
        x.wipe();
        due("3: what is LAID stays", x.act(0, 4), 5);
    }

    private static void faultOfForm() {
        String[] faulty = {
            "x", ";", ",", "1", "T20,1,1,2;", "t", "t;", "t20", "t20,1,1,2", "t20,1,1;", "t20,1,1,2,;",
            "t20,1,1,2,3;", "t20,,1,2;", "t20.1,1,2;", "t 20,1,1,2;", "t-20,1,1,2;", "t+20,1,1,2;", "t0020,1,1,2;",
            "t20,1,1,0002;", "o", "o;", "o1", "o1,", "o1,2;", "o1000;", "o0001;", "s", "s;", "s1", "s1,1;",
            "a", "a1,1,1,1;", "a1,1,1,1,1,1;", "a1,1,1,1,1", "a,1,1,1,1;", "a1,1,1,1,;", "oo1;", "o1:", "o1/;",
            " o1;", "b1,1,1,1,1;", "a1;1;1;1;1;"
        };
        for (String text : faulty) due("4: fault of " + text, faultOf(text), 0);
        String[] fine = {
            "", "o1;", "o01;", "o001;", "o000;", "s9;", "s009;", "t020,01,001,02;", "a000,001,002,003,004;",
            "o1;o2;o3;", "s1;s2;", "t20,1,1,2;t21,1,1,2;"
        };
        for (String text : fine) due("4: fault of " + text, faultOf(text), NONE);
    }

    private static void faultOfNumbers() {
        String[] faulty = {
            "t19,1,1,2;", "t39,2,1,2;", "t399,20,1,2;", "t500,21,1,2;", "t20,0,1,2;", "t20,1,0,2;", "t20,1,2,2;",
            "t20,1,1,1;", "t20,1,1,21;", "t20,1,20,20;", "t20,1,3,2;", "s100;", "s999;", "a5,1,1,1,1;", "a0,4,1,1,1;",
            "a0,1,0,1,1;", "a0,1,100,1,1;", "a0,1,1,100,1;", "a0,1,1,1,100;", "t0,0,0,0;", "t20,1,1,0;"
        };
        for (String text : faulty) due("4: fault of " + text, faultOf(text), 0);
        String[] fine = {
            "t20,1,1,2;", "t40,2,1,2;", "t400,20,1,2;", "t999,20,19,20;", "t999,1,1,20;", "o0;", "o999;", "s0;",
            "s99;", "a0,0,1,0,0;", "a4,3,99,99,99;"
        };
        for (String text : fine) due("4: fault of " + text, faultOf(text), NONE);
    }

    private static void faultPlace() {
        due("4: second ITEM", faultOf("o1;s100;"), 3);
        due("4: the first of two", faultOf("o1;s100;x"), 3);
        due("4: half an ITEM at the end", faultOf("o1;s1;t20,1,1"), 6);
        due("4: an earlier one of several such", faultOf("t19,1,1,2;t20,1,1,2;"), 0);
        String act = "a0,1,1,1,1;";
        due("4: six ACTS", faultOf(act.repeat(6)), NONE);
        due("4: the seventh ACT", faultOf(act.repeat(7)), 66);
        due("4: the seventh ACT behind others", faultOf("o1;" + act.repeat(6) + "s1;" + act), 72);
        TwoKings x = new TwoKings();
        put(x, "o1;x");
        due("4: a fault", x.fault(), 3);
        due("4: asked again", x.fault(), 3);
        put(x, ";");
        due("4: the text went on", x.fault(), 3);
        x.wipe();
        put(x, "o1");
        due("4: nothing behind the end counts", x.fault(), 0);
        x.wipe();
        put(x, "s01;".repeat(99) + "o123");
        due("4: half an ITEM as byte 400", x.fault(), 396);
        x.wipe();
        put(x, "s01;".repeat(99) + "o12;");
        due("4: an ITEM as far as byte 400", x.fault(), NONE);
    }

    private static void lay() {
        TwoKings x = island(PLAIN + "a0,3,1,60,60;a1,1,5,0,99;");
        due("5: ACTS", x.count(0), 2);
        due("5: THE TEXT stays", x.count(1), 35);
        x.year(9);
        x.pass(5);
        x.doAct(0);
        x.tell(1);
        x.line(3, 1);
        x.keep();
        x.allow(0, 0, false);
        due("5: ACTS again", x.lay(), 2);
        int[] counts = {2, 35, 0, 0, 0, 0, 1000000, 1000000, 0};
        for (int i = 0; i < counts.length; i++) due("5: count(" + i + ")", x.count(i), counts[i]);
        due("5: LAWS as told", x.act(0, 1), 3);
        due("5: nothing to be UNDONE", x.undo(), NO);
        due("5: nothing KEPT", x.back(), NO);
        due("5: minute 0", x.pass(7), 7);
        TwoKings last = island("t30,1,1,3;o5;s7;a0,1,1,1,1;t40,2,1,2;o3;s2;");
        due("5: the last tN and oO count", last.rules(3), 2);
        due("5: the last tN counts", last.rules(13), 2);
        last.year(1);
        due("5: the last sS counts", last.rules(5), 2);
        TwoKings without = island("a0,1,1,1,1;");
        due("5: TIDES without", without.rules(372), 2);
        last.wipe();
        put(last, "a0,1,1,1,1;");
        last.lay();
        due("5: TIDES of the TEXT before are gone", last.rules(372), 2);
        due("5: its begin is gone", last.rules(0), 2);
        last.year(9);
        due("5: its silt is gone", last.rules(0), 2);
    }

    private static void layRefused() {
        TwoKings x = island(PLAIN + "a0,3,1,60,60;a1,1,5,0,99;");
        x.year(4);
        x.pass(5);
        x.tell(1);
        x.line(3, 1);
        x.keep();
        put(x, "o");
        due("5: with a FAULT", x.lay(), NO);
        x.wipe();
        due("5: an empty text", x.lay(), NO);
        put(x, "o1;t20,1,1,2;");
        due("5: without an ACT", x.lay(), NO);
        int[] counts = {2, 13, 4, 1, 1, 1, 1000000, 1000000, 1};
        for (int i = 0; i < counts.length; i++) due("5: nothing changed, count(" + i + ")", x.count(i), counts[i]);
        due("5: the ACTS stay", x.act(1, 4), 99);
        due("5: the TIDES stay", x.rules(20), 2);
        put(x, "a2,2,2,2,2;");
        due("5: an ACT alone", x.lay(), 1);
        due("5: the new ACT", x.act(0, 0), 2);
        due("5: no second ACT", x.act(1, 0), BAD);
    }

    private static void act() {
        TwoKings x = island("a4,0,99,0,98;a3,2,7,41,42;");
        int[][] numbers = {{4, 0, 99, 0, 98}, {3, 2, 7, 41, 42}};
        for (int a = 0; a < 2; a++) {
            for (int i = 0; i < 5; i++) due("6: act(" + a + ", " + i + ")", x.act(a, i), numbers[a][i]);
            due("6: what -1", x.act(a, -1), BAD);
            due("6: what 5", x.act(a, 5), BAD);
        }
        due("6: ACT -1", x.act(-1, 0), BAD);
        due("6: ACT 2", x.act(2, 0), BAD);
        x.allow(0, 1, true);
        due("6: lawful for, as it is now", x.act(0, 1), 2);
    }

    private static void year() {
        TwoKings x = island(PLAIN + "s3;o4;a0,1,1,1,1;");
        due("7: YEAR -1", x.year(-1), BAD);
        due("7: YEAR 100", x.year(100), BAD);
        due("7: begin in YEAR 0", x.rules(4), 2);
        due("7: it was 0", x.year(99), 0);
        due("7: begin at 4 and 297", x.rules(301), 2);
        due("7: TIDES ahead of that, too", x.rules(1), 2);
        due("7: it was 99", x.year(1), 99);
        due("7: begin at 7", x.rules(7), 2);
        due("7: no begin at 4", x.rules(4), 1);
        due("7: it was 1", x.count(2), 1);
    }

    private static void rules() {
        TwoKings x = island(BROKEN + "a0,1,1,1,1;");
        for (int m = 0; m < 82; m++) {
            int in = m % 41;
            int want = in % 10 == 0 && in != 40 ? 2 : in < 10 || in > 20 && in < 30 ? 0 : 1;
            due("8: rules(" + m + ")", x.rules(m), want);
        }
        due("8: ahead of 0", x.rules(-1), BAD);
        due("8: behind the last", x.rules(LAST + 1), BAD);
        TwoKings thin = island("t20,1,1,20;a0,1,1,1,1;");
        due("8: HIGH of just a minute", thin.rules(0), 2);
        due("8: LOW begins at 1", thin.rules(1), 2);
        due("8: LOW", thin.rules(2), 1);
        due("8: LOW", thin.rules(19), 1);
        TwoKings late = island("t20,1,19,20;o999;a0,1,1,1,1;");
        due("8: LOW begins at 18", late.rules(18), 2);
        due("8: TIDE begins at 19", late.rules(19), 2);
        due("8: HIGH", late.rules(20), 0);
    }

    private static void rulesFarOff() {
        TwoKings x = island(BROKEN + "a0,1,1,1,1;");
        // 41 * 24390243902 is 999999999982.
        due("8: far off, begin", x.rules(999999999982L), 2);
        due("8: far off, HIGH", x.rules(999999999983L), 0);
        due("8: far off, 10 1/4 later", x.rules(999999999992L), 2);
        due("8: far off, LOW", x.rules(999999999993L), 1);
        due("8: the last minute", x.rules(LAST), 1);
        TwoKings thirds = island("t61,3,2,3;a0,1,1,1,1;");
        // 61 * 16393442622 is 999999999942; HIGH ends 13 5/9 behind each begin.
        due("8: ninths far off", thirds.rules(999999999942L), 2);
        due("8: ninths far off, HIGH", thirds.rules(999999999954L), 0);
        due("8: ninths far off, turn", thirds.rules(999999999955L), 2);
        due("8: ninths far off, LOW", thirds.rules(999999999956L), 1);
        due("8: second TIDE begins at 20 1/3", thirds.rules(999999999962L), 2);
        due("8: its HIGH ends at 33 8/9", thirds.rules(999999999975L), 2);
    }

    private static void minutes() {
        TwoKings x = island(PLAIN + "a0,1,1,1,1;");
        due("9: a TIDE, HIGH", x.minutes(0, 20, 0), 9);
        due("9: a TIDE, LOW", x.minutes(0, 20, 1), 9);
        due("9: a TIDE, turns", x.minutes(0, 20, 2), 2);
        due("9: none", x.minutes(5, 0, 0), 0);
        due("9: one", x.minutes(5, 1, 0), 1);
        due("9: from within", x.minutes(5, 10, 0), 5);
        due("9: from within, LOW", x.minutes(5, 10, 1), 4);
        due("9: the most", x.minutes(7, 100000, 1), 45000);
        due("9: behind the last minute", x.minutes(LAST, 21, 2), 3);
        due("9: n -1", x.minutes(0, -1, 0), BAD);
        due("9: n 100001", x.minutes(0, 100001, 0), BAD);
        due("9: m -1", x.minutes(-1, 1, 0), BAD);
        due("9: m too far", x.minutes(LAST + 1, 1, 0), BAD);
        due("9: who -1", x.minutes(0, 1, -1), BAD);
        due("9: who 3", x.minutes(0, 1, 3), BAD);
        TwoKings y = island(BROKEN + "a0,1,1,1,1;");
        due("9: two TIDES, HIGH", y.minutes(0, 41, 0), 18);
        due("9: two TIDES, LOW", y.minutes(0, 41, 1), 19);
        due("9: two TIDES, turns", y.minutes(0, 41, 2), 4);
        due("9: 100 rounds and 10 minutes", y.minutes(0, 4110, 0), 1809);
    }

    private static void next() {
        TwoKings x = island(PLAIN + "a0,1,1,1,1;");
        due("10: itself", x.next(5, 0), 5);
        due("10: LOW", x.next(5, 1), 11);
        due("10: turn", x.next(5, 2), 10);
        due("10: HIGH again", x.next(10, 0), 21);
        due("10: behind the last minute", x.next(LAST, 1), LAST + 11);
        due("10: m -1", x.next(-1, 0), BAD);
        due("10: m too far", x.next(LAST + 1, 0), BAD);
        due("10: who -1", x.next(0, -1), BAD);
        due("10: who 3", x.next(0, 3), BAD);
        due("10: a HIGH of turns", island("t20,1,1,20;a0,1,1,1,1;").next(0, 0), NONE);
        due("10: a LOW of turns", island("t20,1,19,20;a0,1,1,1,1;").next(0, 1), NONE);
        due("10: a long TIDE", island("t999,1,19,20;a0,1,1,1,1;").next(1, 1), 950);
        // HIGH lasts 1 1/50 minutes, and no TIDE begins less than 1/50 ahead of a minute.
        due("10: a HIGH of turns for long", island("t102,5,1,20;a0,1,1,1,1;").next(1, 0), NONE);
        // HIGH lasts 2 minutes less 1/200: from 0 on it has no minute, from 39 9/10 on it has 40.
        due("10: seldom HIGH", island("t399,10,1,20;a0,1,1,1,1;").next(2, 0), 40);
    }

    private static void lawful() {
        TwoKings x = island(PLAIN + "a0,1,9,1,1;a0,2,9,1,1;a1,1,9,1,1;a1,3,5,1,1;a2,2,50,1,1;a3,3,9,1,1;");
        due("11: MOMENT in the turn", x.lawful(0, 0), 0);
        due("11: MOMENT by HIGH", x.lawful(0, 9), 1);
        due("11: MOMENT not by LOW", x.lawful(0, 11), 0);
        due("11: MOMENT by LOW", x.lawful(1, 11), 1);
        due("11: MOMENT not by HIGH", x.lawful(1, 9), 0);
        due("11: LASTING all of HIGH", x.lawful(2, 1), 1);
        due("11: LASTING too late", x.lawful(2, 2), 0);
        due("11: LASTING from the turn on", x.lawful(2, 0), 0);
        due("11: LASTING for both", x.lawful(3, 5), 1);
        due("11: LASTING into the turn", x.lawful(3, 6), 0);
        due("11: LASTING for both by LOW", x.lawful(3, 15), 1);
        due("11: BEGUN ends whenever", x.lawful(4, 19), 1);
        due("11: BEGUN not by HIGH", x.lawful(4, 1), 0);
        due("11: OF BOTH by HIGH", x.lawful(5, 1), 1);
        due("11: OF BOTH by LOW", x.lawful(5, 11), 1);
        due("11: OF BOTH in the turn", x.lawful(5, 10), 0);
        due("11: far off", x.lawful(0, LAST), 0);
        due("11: ACT -1", x.lawful(-1, 1), BAD);
        due("11: ACT 6", x.lawful(6, 1), BAD);
        due("11: m -1", x.lawful(0, -1), BAD);
        due("11: m too far", x.lawful(0, LAST + 1), BAD);
        TwoKings y = island(PLAIN + "a3,1,1,1,1;a4,0,1,1,1;a4,1,9,1,1;a4,2,1,1,1;a4,3,1,1,1;a0,0,1,1,1;");
        due("11: OF BOTH for one", y.lawful(0, 1), 0);
        due("11: AT THE TURN for none", y.lawful(1, 10), 0);
        due("11: AT THE TURN for HIGH", y.lawful(2, 10), 1);
        due("11: AT THE TURN for LOW", y.lawful(3, 0), 1);
        due("11: AT THE TURN for both", y.lawful(4, 20), 1);
        due("11: AT THE TURN behind it", y.lawful(4, 21), 0);
        due("11: MOMENT for none", y.lawful(5, 1), 0);
        y.allow(5, 1, true);
        due("11: LAWS as they are now", y.lawful(5, 11), 1);
    }

    private static void tellAndNoRow() {
        TwoKings x = island(PLAIN + "a0,1,1,1,1;a0,2,1,1,1;");
        due("12: ACT -1", x.tell(-1), BAD);
        due("12: ACT 2", x.tell(2), BAD);
        due("13: no row", x.noRow(), 0);
        for (int i = 1; i <= 8; i++) due("12: tell", x.tell(i % 2), i);
        due("12: nine", x.tell(0), FULL);
        due("12: BAD ahead of FULL", x.tell(2), BAD);
        due("12: eight stay", x.count(3), 8);
        due("12: the order", x.soon(0, 7) - x.soon(0, 6), 10);
        due("13: eight", x.noRow(), 8);
        due("13: none left", x.count(3), 0);
        due("12: from the begin again", x.tell(1), 1);
        due("13: one", x.noRow(), 1);
    }

    private static void soon() {
        TwoKings x = island(PLAIN + "a0,1,9,1,1;a1,2,6,1,1;a2,1,30,1,1;a4,3,9,1,1;a1,3,10,1,1;");
        due("14: without a row", x.soon(77, -1), 77);
        due("14: without a row", x.soon(77, 0), BAD);
        x.tell(0);
        x.tell(1);
        x.tell(2);
        x.tell(3);
        due("14: the first", x.soon(0, 0), 1);
        due("14: the second", x.soon(0, 1), 11);
        due("14: behind its minutes", x.soon(0, 2), 21);
        due("14: BEGUN takes 30", x.soon(0, 3), 60);
        due("14: the turn takes 1", x.soon(0, -1), 61);
        due("14: from there on", x.soon(9, 0), 9);
        due("14: LASTING in LOW's rest", x.soon(9, 1), 11);
        due("14: i 4", x.soon(0, 4), BAD);
        due("14: i -2", x.soon(0, -2), BAD);
        due("14: m -1", x.soon(-1, 0), BAD);
        due("14: m too far", x.soon(LAST + 1, 0), BAD);
        due("14: behind the last minute", x.soon(LAST, 1), LAST + 11);
        x.tell(4);
        x.tell(0);
        due("14: never", x.soon(0, 4), NONE);
        due("14: behind one that is never", x.soon(0, 5), NONE);
        due("14: no end", x.soon(0, -1), NONE);
        due("14: ahead of one that is never", x.soon(0, 3), 60);
        due("14: BAD ahead of NONE", x.soon(0, 6), BAD);
        x.noRow();
        x.tell(0);
        x.tell(0);
        due("14: from the minute behind on", x.soon(3, 1), 4);
        x.pass(50);
        due("14: not from THE ISLAND's minute on", x.soon(3, 0), 3);
    }

    private static void pass() {
        TwoKings x = new TwoKings();
        due("15: n 0", x.pass(0), BAD);
        due("15: n 10000", x.pass(10000), BAD);
        due("15: n -1", x.pass(-1), BAD);
        due("15: nothing to be UNDONE", x.count(5), 0);
        due("15: n 9999", x.pass(9999), 9999);
        due("15: n 1", x.pass(1), 10000);
        due("15: can be UNDONE", x.count(5), 2);
    }

    private static void doAct() {
        TwoKings x = island(PLAIN + "a0,1,7,50,0;a1,1,4,60,45;a2,2,33,99,50;a3,3,9,0,99;a4,2,5,52,53;");
        due("16: ACT -1", x.doAct(-1), BAD);
        due("16: ACT 5", x.doAct(5), BAD);
        due("16: not LAWFUL", x.doAct(0), NO);
        due("16: nothing to be UNDONE", x.count(5), 0);
        due("16: AT THE TURN takes 1", x.doAct(4), 1);
        due("16: HIGH has", x.count(6), 1000002);
        due("16: LOW has", x.count(7), 1000003);
        due("16: MOMENT takes 1", x.doAct(0), 2);
        due("16: less than nothing", x.count(7), 999953);
        due("16: LASTING takes 4", x.doAct(1), 6);
        due("16: LASTING once more fits", x.doAct(1), 10);
        due("16: no KING rules", x.doAct(3), NO);
        x.pass(1);
        due("16: OF BOTH takes 1", x.doAct(3), 12);
        due("16: BEGUN takes 33", x.doAct(2), 45);
        due("16: HIGH has", x.count(6), 1000021);
        due("16: LOW has", x.count(7), 999992);
        due("16: can be UNDONE", x.count(5), 7);
    }

    private static void allow() {
        TwoKings x = island(PLAIN + "a0,1,1,1,1;a0,2,1,1,1;");
        due("17: ACT -1", x.allow(-1, 0, true), BAD);
        due("17: ACT 2", x.allow(2, 0, true), BAD);
        due("17: KING -1", x.allow(0, -1, true), BAD);
        due("17: KING 2", x.allow(0, 2, true), BAD);
        due("17: nothing to be UNDONE", x.count(5), 0);
        due("17: allowed to LOW", x.allow(0, 1, true), 0);
        due("17: lawful for both", x.act(0, 1), 3);
        due("17: forbidden by HIGH", x.allow(0, 0, false), 1);
        due("17: lawful for LOW", x.act(0, 1), 2);
        due("17: the other stays", x.act(1, 1), 2);
        due("17: allowed twice", x.allow(0, 1, true), 1);
        due("17: forbidden twice", x.allow(1, 0, false), 0);
        due("17: no change", x.act(0, 1) * 4 + x.act(1, 1), 10);
        due("17: each can be UNDONE", x.count(5), 4);
        due("17: it is LAWFUL now", x.lawful(0, 11), 1);
        due("17: it is not now", x.lawful(0, 1), 0);
    }

    private static void undo() {
        TwoKings x = island(PLAIN + "s1;a2,1,5,60,30;");
        due("18: nothing", x.undo(), NO);
        x.pass(3);
        x.doAct(0);
        x.year(5);
        x.allow(0, 0, false);
        due("18: allow", x.undo(), 2);
        due("18: allow", x.act(0, 1), 1);
        due("18: not the YEAR", x.count(2), 5);
        due("18: doAct", x.undo(), 1);
        due("18: worth of HIGH", x.count(6), 1000000);
        due("18: worth of LOW", x.count(7), 1000000);
        due("18: not the YEAR", x.count(2), 5);
        due("18: minute 3", x.pass(1), 4);
        due("18: pass", x.undo(), 1);
        due("18: pass", x.undo(), 0);
        due("18: nothing more", x.undo(), NO);
        due("18: minute 0", x.pass(2), 2);
        for (int i = 0; i < 20; i++) x.pass(1);
        due("18: eight at most", x.count(5), 8);
        for (int i = 7; i >= 0; i--) due("18: the last eight", x.undo(), i);
        due("18: no ninth", x.undo(), NO);
        due("18: minute 14", x.pass(1), 15);
        x.keep();
        x.pass(1);
        x.tell(0);
        x.line(0, 0);
        due("18: KEPT, row and TABLE stay", x.undo() + x.count(8) + x.count(3) + x.count(4), 4);
        x.back();
        due("18: none ahead of back()", x.undo(), NO);
        x.pass(1);
        x.lay();
        due("18: none ahead of lay()", x.undo(), NO);
    }

    private static void gainAndForbid() {
        TwoKings x = island("a0,1,1,60,30;a0,2,1,55,99;a0,3,1,0,70;a0,0,1,99,99;");
        due("19: HIGH: 10, 5, -50", x.gain(0), 965);
        due("19: LOW: -20, 49, 20", x.gain(1), 1049);
        due("19: KING -1", x.gain(-1), BAD);
        due("19: KING 2", x.gain(2), BAD);
        due("20: none", x.forbid(-1, -1, 0), 965);
        due("20: HIGH's own", x.forbid(0, -1, 0), 955);
        due("20: HIGH's own, to LOW", x.forbid(0, -1, 1), 1069);
        due("20: not lawful for HIGH", x.forbid(1, -1, 0), 965);
        due("20: LOW's own", x.forbid(-1, 1, 0), 960);
        due("20: not lawful for LOW", x.forbid(-1, 0, 1), 1049);
        due("20: by one of two", x.forbid(2, -1, 0), 965);
        due("20: by the other of two", x.forbid(-1, 2, 0), 965);
        due("20: by both", x.forbid(2, 2, 0), 1015);
        due("20: by both, to LOW", x.forbid(2, 2, 1), 1029);
        due("20: each his own", x.forbid(0, 1, 1), 1020);
        due("20: one lawful for none", x.forbid(3, 3, 0), 965);
        due("20: ACT -2", x.forbid(-2, 0, 0), BAD);
        due("20: ACT 4", x.forbid(4, 0, 0), BAD);
        due("20: LOW's ACT -2", x.forbid(0, -2, 0), BAD);
        due("20: LOW's ACT 4", x.forbid(0, 4, 0), BAD);
        due("20: KING -1", x.forbid(0, 0, -1), BAD);
        due("20: KING 2", x.forbid(0, 0, 2), BAD);
        due("20: the LAWS stay", x.act(0, 1) + 4 * x.act(1, 1) + 16 * x.act(2, 1), 57);
        x.allow(3, 0, true);
        due("19: LAWS as they are now", x.gain(0), 1014);
        due("19: the least", island("a0,1,1,0,0;".repeat(6)).gain(1), 700);
        due("19: the most", island("a0,1,1,99,99;".repeat(6)).gain(1), 1294);
    }

    private static void rests() {
        // HIGH forbids ACT 1, that harms him; LOW has nothing of his own.
        TwoKings x = island("a0,1,1,60,60;a0,1,1,40,40;");
        due("21: LOW's choices are all one", x.rests(0), 3);
        due("21: HIGH's ACT", x.rests(1), 1);
        due("21: LOW forbids none", x.rests(2), NONE);
        due("21: what -1", x.rests(-1), BAD);
        due("21: what 3", x.rests(3), BAD);
        // Each forbids his own that harms himself.
        TwoKings y = island("a0,1,1,40,60;a0,2,1,60,40;");
        due("21: one alone", y.rests(0), 1);
        due("21: HIGH's own", y.rests(1), 0);
        due("21: LOW's own", y.rests(2), 1);
        // Harms both, lawful for both: neither alone can end it, both together do.
        TwoKings z = island("a0,3,1,40,40;");
        due("21: none, and both", z.rests(0), 2);
        due("21: the first is none", z.rests(1), NONE);
        due("21: the first is none", z.rests(2), NONE);
        // Suits HIGH, harms LOW, lawful for both; of HIGH's own choices none helps him but to keep it.
        TwoKings w = island("a0,3,1,60,40;");
        due("21: HIGH keeps it", w.rests(0), 2);
        w.allow(0, 1, false);
        due("21: LAWS as they are now", w.rests(0), 2);
        // By both together just what suits one alone is forbidden: HIGH may choose none or ACT 0,
        // LOW none or ACT 1; by any other choice the other KING would join in.
        TwoKings v = island("a0,3,1,40,60;a0,3,1,60,40;");
        due("21: two choices each", v.rests(0), 4);
    }

    private static void firm() {
        TwoKings x = island("a0,0,1,50,50;a0,0,1,49,99;a0,1,1,99,49;a0,2,1,60,60;");
        due("22: the empty set", x.firm(0), 1);
        due("22: worth nothing to both", x.firm(1), 1);
        due("22: harms HIGH", x.firm(2), 0);
        due("22: harms LOW", x.firm(4), 0);
        due("22: suits both", x.firm(8), 1);
        due("22: two", x.firm(9), 1);
        due("22: one of them harms", x.firm(11), 0);
        due("22: all", x.firm(15), 0);
        due("22: ACT 0 alone harms", island("a0,3,1,40,60;").firm(1), 0);
        due("22: -1", x.firm(-1), BAD);
        due("22: 16", x.firm(16), BAD);
        TwoKings six = island("a0,0,1,50,50;".repeat(6));
        due("22: 63 of six", six.firm(63), 1);
        due("22: 64 of six", six.firm(64), BAD);
    }

    private static void treaty() {
        TwoKings x = island("a0,0,1,50,50;a0,0,1,49,99;a0,1,1,99,48;a0,0,1,60,60;a0,2,1,70,70;a0,0,1,55,50;");
        due("23: 3 and 5, the lowest", x.treaty(0), 40);
        due("23: 47, 20, 40, 5", x.treaty(1), 2112);
        due("23: what -1", x.treaty(-1), BAD);
        due("23: what 2", x.treaty(2), BAD);
        due("23: the LAWS stay", x.act(3, 1), 0);
        x.allow(3, 1, true);
        due("23: LAWS as they are now", x.treaty(0), 32);
        due("23: the same GAINS", x.treaty(1), 2112);
        TwoKings first = island("a0,0,1,60,51;a0,0,1,40,99;");
        due("23: ACT 0 alone", first.treaty(0), 1);
        due("23: ACT 0 alone, 11", first.treaty(1), 2011);
        TwoKings y = island("a0,1,1,0,0;a0,0,1,40,99;");
        due("23: the empty set", y.treaty(0), 0);
        due("23: less than nothing", y.treaty(1), 1900);
        due("23: the most", island("a0,0,1,99,99;".repeat(6)).treaty(1), 2588);
        due("23: all of them", island("a0,0,1,99,99;".repeat(6)).treaty(0), 63);
    }

    private static void bargain() {
        TwoKings x = island(PLAIN + "a0,1,1,1,1;a3,3,1,1,1;a1,3,6,1,1;a4,1,1,1,1;a0,2,1,1,1;a4,2,1,1,1;");
        due("24: both at once", x.bargain(0, 1, 0), 1);
        due("24: the other way round", x.bargain(1, 0, 0), 1);
        due("24: itself", x.bargain(0, 1, 9), 9);
        due("24: behind the turns", x.bargain(0, 1, 10), 21);
        due("24: LASTING is too late", x.bargain(0, 2, 5), 21);
        due("24: LASTING by LOW", x.bargain(2, 1, 5), 11);
        due("24: two at the turn", x.bargain(3, 5, 1), 10);
        due("24: never both", x.bargain(0, 4, 0), NONE);
        due("24: never in the turn", x.bargain(0, 3, 0), NONE);
        due("24: behind the last minute", x.bargain(4, 1, LAST), LAST + 11);
        due("24: one twice", x.bargain(1, 1, 0), BAD);
        due("24: ACT -1", x.bargain(-1, 1, 0), BAD);
        due("24: ACT 6", x.bargain(6, 1, 0), BAD);
        due("24: the other -1", x.bargain(1, -1, 0), BAD);
        due("24: the other 6", x.bargain(1, 6, 0), BAD);
        due("24: m -1", x.bargain(0, 1, -1), BAD);
        due("24: m too far", x.bargain(0, 1, LAST + 1), BAD);
        due("24: BAD ahead of NONE", x.bargain(0, 4, -1), BAD);
    }

    private static void lineAndNoTable() {
        TwoKings x = new TwoKings();
        due("26: no TABLE", x.noTable(), 0);
        due("25: m -1", x.line(-1, 0), BAD);
        due("25: m 1000001", x.line(1000001, 0), BAD);
        due("25: r -1", x.line(0, -1), BAD);
        due("25: r 3", x.line(0, 3), BAD);
        for (int i = 1; i <= 10; i++) due("25: line", x.line(i == 1 ? 0 : 1000000, i % 3), i);
        due("25: eleven", x.line(0, 0), FULL);
        due("25: BAD ahead of FULL", x.line(0, 3), BAD);
        due("25: ten stay", x.count(4), 10);
        due("26: ten", x.noTable(), 10);
        due("26: none left", x.count(4), 0);
        due("26: none is forged", x.forged(), 0);
        due("25: from the begin again", x.line(0, 0), 1);
    }

    private static void forged() {
        TwoKings x = island(PLAIN + "s1;a0,1,1,1,1;");
        due("27: no TABLE", x.forged(), 0);
        x.line(0, 2);
        x.line(1, 2);
        x.line(1, 0);
        x.line(11, 0);
        x.line(11, 1);
        x.line(1000000, 2);
        x.line(999999, 2);
        due("27: lines 1, 3, 6", x.forged(), 74);
        x.year(1);
        due("27: in YEAR 1", x.forged(), 125);
        x.year(0);
        for (int i = 0; i < 3; i++) x.line(5, 1);
        due("27: ten lines", x.forged(), 74 + 128 + 256 + 512);
    }

    private static void shift() {
        TwoKings x = island("t100,1,1,2;a0,1,1,1,1;");
        due("28: no TABLE", x.shift(0), 0);
        due("28: no TABLE", x.shift(1), 30);
        due("28: what -1", x.shift(-1), BAD);
        due("28: what 2", x.shift(2), BAD);
        TwoKings y = island("t200,1,1,2;a0,1,1,1,1;");
        y.line(130, 2);
        due("28: 30 ahead", y.shift(1), 0);
        due("28: one", y.shift(0), 1);
        y.noTable();
        y.line(70, 2);
        due("28: 30 behind", y.shift(1), 60);
        y.noTable();
        y.line(131, 2);
        due("28: 31 ahead is too far", y.shift(0), 0);
        due("28: so it is 0", y.shift(1), 30);
        y.noTable();
        y.line(99, 2);
        due("28: 1 behind", y.shift(1), 31);
        y.noTable();
        y.line(101, 2);
        due("28: 1 ahead", y.shift(1), 29);
        y.year(50);
        due("28: no silt here", y.shift(1), 29);
        x.line(120, 2);
        due("28: 20 ahead and 30 behind", x.shift(1), 10);
        x.noTable();
        x.line(125, 2);
        due("28: the lower of two as near", x.shift(1), 5);
        x.noTable();
        x.line(131, 2);
        due("28: 19 behind", x.shift(1), 49);
        x.noTable();
        x.line(110, 0);
        x.line(140, 0);
        due("28: two as they stand", x.shift(0), 2);
        due("28: the nearest to 0", x.shift(1), 30);
        x.noTable();
        x.line(102, 1);
        x.line(148, 0);
        x.line(160, 1);
        due("28: three by -3", x.shift(0), 3);
        due("28: at -2 is the turn", x.shift(1), 27);
        x.line(103, 1);
        x.line(104, 1);
        due("28: five by -5", x.shift(0), 5);
        due("28: at -4 is the turn", x.shift(1), 25);
        x.noTable();
        x.line(10, 2);
        x.line(20, 2);
        due("28: minutes are 0 at least", x.shift(0), 2);
        due("28: minute 0 by -20 for both", x.shift(1), 10);
    }

    private static void wreck() {
        TwoKings x = island(PLAIN + "a0,1,1,1,1;");
        due("29: a turn alone", x.wreck(10, 1, 0, 0), NONE);
        due("29: a turn alone, below", x.wreck(10, 1, 1, 1), NONE);
        due("29: a TIDE, above", x.wreck(0, 20, 0, 0), 1);
        due("29: a TIDE, below", x.wreck(0, 20, 0, 1), 2);
        due("29: 6 and 3, HIGH above", x.wreck(4, 10, 0, 0), 2);
        due("29: 6 and 3, HIGH below", x.wreck(4, 10, 0, 1), 3);
        due("29: 6 and 3, LOW above", x.wreck(4, 10, 1, 0), 1);
        due("29: 6 and 3, LOW below", x.wreck(4, 10, 1, 1), 3);
        due("29: a minute of his alone", x.wreck(1, 1, 0, 0), 1);
        due("29: 6 and 5, above", x.wreck(4, 12, 0, 0), 6);
        due("29: 6 and 5, below", x.wreck(4, 12, 0, 1), 11);
        due("29: none of his", x.wreck(1, 9, 1, 0), 0);
        due("29: none of his, below", x.wreck(1, 9, 1, 1), 1);
        due("29: all his", x.wreck(1, 9, 0, 0), 1);
        due("29: all his, below", x.wreck(1, 9, 0, 1), 1);
        due("29: the most", x.wreck(1, 10000, 0, 1), 2);
        due("29: behind the last minute", x.wreck(LAST, 11, 0, 0), 1);
        due("29: n 0", x.wreck(0, 0, 0, 0), BAD);
        due("29: n 10001", x.wreck(0, 10001, 0, 0), BAD);
        due("29: m -1", x.wreck(-1, 1, 0, 0), BAD);
        due("29: m too far", x.wreck(LAST + 1, 1, 0, 0), BAD);
        due("29: KING -1", x.wreck(0, 5, -1, 0), BAD);
        due("29: KING 2", x.wreck(0, 5, 2, 0), BAD);
        due("29: part -1", x.wreck(0, 5, 0, -1), BAD);
        due("29: part 2", x.wreck(0, 5, 0, 2), BAD);
        due("29: BAD ahead of NONE", x.wreck(10, 1, 2, 0), BAD);
    }

    private static void drawn() {
        TwoKings x = island(PLAIN + "a0,1,1,1,1;a0,2,1,1,1;");
        // z 0: x 1, minute 1, HIGH; then x 6152, minute 37847104 modulo 65521 = 41487, HIGH, ACT 1.
        due("30: the first", x.drawn(0, 1), 1);
        due("30: the second is not", x.drawn(0, 2), 1);
        // i 2: x 12303, minute 151363809 modulo 65521 = 10299, LOW, ACT 0.
        due("30: the third is not", x.drawn(0, 3), 1);
        // z 1: x 7920, minute 62726400 modulo 65521 = 22803, HIGH, ACT 0.
        due("30: z 1", x.drawn(1, 1), 1);
        // z 9999: x 79182082, x times x is far over 2 to the 31st, modulo 65521 = 51303, HIGH.
        due("30: z 9999", x.drawn(9999, 1), 1);
        for (int z : new int[] {0, 1, 17, 5000, 9999}) due("30: z " + z, x.drawn(z, 200), drawnByHand(x, z, 200, 2));
        // One ACT alone: minutes 1 and 41487 are HIGH's, 10299 is LOW's.
        TwoKings one = island(PLAIN + "a0,1,1,1,1;");
        due("30: one ACT, each time", one.drawn(0, 2), 2);
        due("30: one ACT, the third is not", one.drawn(0, 3), 2);
        one.allow(0, 1, true);
        due("30: LAWS as they are now", one.drawn(0, 3), 3);
        due("30: z -1", x.drawn(-1, 1), BAD);
        due("30: z 10000", x.drawn(10000, 1), BAD);
        due("30: n 0", x.drawn(0, 0), BAD);
        due("30: n 201", x.drawn(0, 201), BAD);
    }

    private static int drawnByHand(TwoKings x, int z, int n, int acts) {
        int sum = 0;
        for (int i = 0; i < n; i++) {
            long residue = (7919L * z + 6151L * i + 1) % 65521;
            sum += x.lawful(i % acts, residue * residue % 65521);
        }
        return sum;
    }

    private static void keepAndBack() {
        TwoKings x = island(PLAIN + "a2,1,4,60,30;");
        due("32: none", x.back(), NO);
        x.pass(1);
        x.doAct(0);
        x.year(7);
        due("31: one", x.keep(), 1);
        due("31: what can be UNDONE stays", x.count(5), 2);
        x.allow(0, 0, false);
        x.allow(0, 1, true);
        x.year(8);
        x.pass(6);
        x.doAct(0);
        due("31: two", x.keep(), 2);
        due("31: three", x.keep(), FULL);
        due("31: two stay", x.count(8), 2);
        x.year(9);
        x.pass(100);
        x.tell(0);
        x.line(5, 0);
        due("32: the last one", x.back(), 1);
        due("32: its YEAR", x.count(2), 8);
        due("32: its LAWS", x.act(0, 1), 2);
        due("32: its worth of HIGH", x.count(6), 1000020);
        due("32: its worth of LOW", x.count(7), 999960);
        due("32: the row stays", x.count(3), 1);
        due("32: the TABLE stays", x.count(4), 1);
        due("32: nothing to be UNDONE", x.count(5), 0);
        due("32: its minute", x.pass(1), 16);
        due("32: the one ahead", x.back(), 0);
        due("32: its YEAR", x.count(2), 7);
        due("32: its LAWS", x.act(0, 1), 1);
        due("32: its worth", x.count(6), 1000010);
        due("32: nothing to be UNDONE", x.undo(), NO);
        due("32: its minute", x.pass(1), 6);
        due("32: none is left", x.back(), NO);
        due("32: NO changes nothing", x.count(5), 1);
        due("31: one again", x.keep(), 1);
        due("31: two again", x.keep(), 2);
    }

    private static void count() {
        TwoKings x = island(PLAIN + "a0,3,1,60,30;a0,3,1,1,1;a4,3,1,1,1;");
        x.pass(1);
        x.doAct(0);
        x.year(42);
        for (int i = 0; i < 4; i++) x.tell(2);
        for (int i = 0; i < 5; i++) x.line(i, 1);
        x.keep();
        int[] counts = {3, 45, 42, 4, 5, 2, 1000010, 999980, 1};
        for (int i = 0; i < counts.length; i++) due("33: count(" + i + ")", x.count(i), counts[i]);
        due("33: -1", x.count(-1), BAD);
        due("33: 9", x.count(9), BAD);
    }

    /** No call may throw by itself, whatever its arguments are. */
    private static void extremeArguments() {
        int[] ints = {Integer.MIN_VALUE, Integer.MAX_VALUE, -1000, 1000000000};
        long[] longs = {Long.MIN_VALUE, Long.MAX_VALUE, -1L, LAST + 1};
        TwoKings x = island(PLAIN + "a0,1,1,1,1;a3,3,1,1,1;");
        List<Long> answers = new ArrayList<>();
        for (int n : ints) {
            answers.add((long) x.write(n, 0));
            answers.add((long) x.act(n, 0));
            answers.add((long) x.act(0, n));
            answers.add((long) x.year(n));
            answers.add((long) x.minutes(0, n, 0));
            answers.add((long) x.minutes(0, 1, n));
            answers.add(x.next(0, n));
            answers.add((long) x.lawful(n, 0));
            answers.add((long) x.tell(n));
            answers.add(x.soon(0, n));
            answers.add(x.pass(n));
            answers.add(x.doAct(n));
            answers.add((long) x.allow(n, 0, true));
            answers.add((long) x.allow(0, n, true));
            answers.add((long) x.gain(n));
            answers.add((long) x.forbid(n, -1, 0));
            answers.add((long) x.forbid(-1, n, 0));
            answers.add((long) x.forbid(-1, -1, n));
            answers.add((long) x.rests(n));
            answers.add((long) x.firm(n));
            answers.add((long) x.treaty(n));
            answers.add(x.bargain(n, 0, 0));
            answers.add(x.bargain(0, n, 0));
            answers.add((long) x.line(n, 0));
            answers.add((long) x.line(0, n));
            answers.add((long) x.shift(n));
            answers.add((long) x.wreck(0, n, 0, 0));
            answers.add((long) x.wreck(0, 5, n, 0));
            answers.add((long) x.wreck(0, 5, 0, n));
            answers.add((long) x.drawn(n, 1));
            answers.add((long) x.drawn(0, n));
            answers.add((long) x.count(n));
        }
        for (long m : longs) {
            answers.add((long) x.rules(m));
            answers.add((long) x.minutes(m, 1, 0));
            answers.add(x.next(m, 0));
            answers.add((long) x.lawful(0, m));
            answers.add(x.soon(m, -1));
            answers.add(x.bargain(0, 1, m));
            answers.add((long) x.wreck(m, 1, 0, 0));
        }
        for (int i = 0; i < answers.size(); i++) due("BAD: wrong input " + i, answers.get(i), BAD);
        int[] counts = {2, 32, 0, 0, 0, 0, 1000000, 1000000, 0};
        for (int i = 0; i < counts.length; i++) due("BAD: nothing changed, count(" + i + ")", x.count(i), counts[i]);
    }
}
