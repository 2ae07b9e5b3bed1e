import java.util.function.ToLongFunction;

/** Refused calls of all promises: which answer comes first, that nothing changes; and calls up to the last one. */
public final class RefusalEdges {
    private static final int BAD = -1, NO = -2, FULL = -3, NONE = -4;
    private static final long LAST = Sentences.LAST;

    private static final Sentences look = new Sentences();

    public static void main(String[] args) {
        actsSuchAsThereAre();
        firstInThisOrder();
        nothingChanges();
        askingChangesNothing();
        lastCalls();
        look.end();
    }

    private static void actsSuchAsThereAre() {
        look.of(0, "BAD: a number is none that is told (ACTS: such as there are).");
        for (int acts = 1; acts <= 6; acts++) {
            TwoKings x = look.island("t999,1,19,20;" + "a0,1,1,1,1;".repeat(acts));
            x.pass(1);
            int last = acts - 1;
            int[] none = {acts, -1, 6, 7};
            for (int a : none) {
                String what = "ACT " + a + " of " + acts + ": ";
                look.due(what + "act()", x.act(a, 0), BAD);
                look.due(what + "lawful()", x.lawful(a, 1), BAD);
                look.due(what + "tell()", x.tell(a), BAD);
                look.due(what + "doAct()", x.doAct(a), BAD);
                look.due(what + "allow()", x.allow(a, 0, true), BAD);
                look.due(what + "bargain()", x.bargain(a, 0, 0), BAD);
                look.due(what + "bargain(), the other", x.bargain(0, a, 0), BAD);
                if (a == -1) continue;
                look.due(what + "forbid()", x.forbid(a, -1, 0), BAD);
                look.due(what + "forbid(), the other", x.forbid(-1, a, 0), BAD);
            }
            String what = "the last of " + acts + ": ";
            look.due(what + "act()", x.act(last, 0), 0);
            look.due(what + "lawful()", x.lawful(last, 1), 1);
            look.due(what + "tell()", x.tell(last), 1);
            look.due(what + "doAct()", x.doAct(last), 2);
            look.due(what + "allow()", x.allow(last, 0, true), 1);
            look.due(what + "forbid()", x.forbid(last, last, 0), 1000 - 49 * (acts - 1));
            if (acts > 1) look.due(what + "bargain()", x.bargain(0, last, 0), 1);
        }
    }

    private static void firstInThisOrder() {
        look.of(0, "Of several the first in this order, whatever the order at a call");
        TwoKings x = look.island("t20,1,1,20;a0,1,1,1,1;a0,2,1,1,1;a4,0,1,1,1;");
        for (int i = 0; i < 8; i++) x.tell(2);
        for (int i = 0; i < 10; i++) x.line(0, 0);
        for (int i = 0; i < 48; i++) x.write(8, 0);
        look.due("write: FULL alone", x.write(8, 0), FULL);
        look.due("write: BAD and FULL", x.write(9, 0), BAD);
        look.due("tell: FULL alone", x.tell(0), FULL);
        look.due("tell: BAD and FULL", x.tell(3), BAD);
        look.due("line: FULL alone", x.line(0, 0), FULL);
        look.due("line: BAD and FULL", x.line(0, 3), BAD);
        look.due("next: NONE alone", x.next(0, 0), NONE);
        look.due("next: BAD and NONE", x.next(LAST + 1, 0), BAD);
        look.due("soon: NONE alone", x.soon(0, 0), NONE);
        look.due("soon: BAD and NONE, m", x.soon(-1, 0), BAD);
        look.due("soon: BAD and NONE, i", x.soon(0, 8), BAD);
        look.due("bargain: NONE alone", x.bargain(0, 1, 0), NONE);
        look.due("bargain: BAD and NONE, m", x.bargain(0, 1, -1), BAD);
        look.due("bargain: BAD and NONE, one twice", x.bargain(2, 2, 0), BAD);
        look.due("wreck: NONE alone", x.wreck(0, 1, 0, 0), NONE);
        look.due("wreck: BAD and NONE", x.wreck(0, 1, 0, 2), BAD);
        look.due("doAct: NO alone", x.doAct(0), NO);
        look.due("doAct: BAD and NO", x.doAct(3), BAD);
    }

    /** An island on which all is in use and there is room yet for all. */
    private static TwoKings halfUsed() {
        TwoKings x = look.island("t20,1,1,2;s3;a0,1,1,60,30;a2,3,4,45,99;a4,2,1,50,50;");
        x.year(5);
        x.pass(6);
        x.doAct(1);
        x.keep();
        x.pass(7);
        x.allow(2, 0, true);
        x.tell(0);
        x.tell(2);
        x.line(3, 0);
        x.line(40, 1);
        x.year(9);
        return x;
    }

    /** The same with a full text, row, TABLE, shelf and all eight that can be UNDONE. */
    private static TwoKings allFull() {
        TwoKings x = halfUsed();
        for (int i = 0; i < 6; i++) x.tell(1);
        for (int i = 0; i < 8; i++) x.line(i, 2);
        x.keep();
        for (int i = 0; i < 6; i++) x.pass(1);
        // By eight bytes first, so that there are calls left to look at it all.
        for (int i = 0; i < 50; i++) if (x.write(8, 0) == FULL) break;
        for (int i = 0; i < 8; i++) if (x.write(1, 0) == FULL) break;
        return x;
    }

    /** The same with an empty text, row, TABLE, shelf and nothing that can be UNDONE. */
    private static TwoKings allEmpty() {
        TwoKings x = look.island("t20,1,1,2;s3;a0,1,1,60,30;a2,3,4,45,99;a4,2,1,50,50;");
        x.pass(6);
        x.year(5);
        x.doAct(1);
        x.keep();
        x.back();
        x.wipe();
        return x;
    }

    /** All that can be seen of an object, to its last minute, LAW and worth; it is used up by that. */
    private static String drained(TwoKings x) {
        StringBuilder all = new StringBuilder();
        tellState(x, all);
        all.append(" rulers ").append(Sentences.rulers(x, 0, 21)).append(" fault ").append(x.fault());
        all.append(" forged ").append(x.forged()).append(" row");
        for (int i = 0; i < 9; i++) all.append(' ').append(x.soon(0, i - 1));
        for (int i = 0; i < 9; i++) {
            all.append(" undo ").append(x.undo());
            tellState(x, all);
        }
        all.append(" minute ").append(x.pass(1));
        for (int i = 0; i < 3; i++) {
            all.append(" back ").append(x.back()).append(" minute ").append(x.pass(1));
            tellState(x, all);
        }
        all.append(" lay ").append(x.lay()).append(" wipe ").append(x.wipe());
        return all.toString();
    }

    private static void tellState(TwoKings x, StringBuilder all) {
        for (int i = 0; i < 9; i++) all.append(' ').append(x.count(i));
        for (int a = 0; a < 3; a++) all.append(' ').append(x.act(a, 1));
    }

    private static void unchanged(String call, long due, ToLongFunction<TwoKings> refused) {
        look.due(call, refused.applyAsLong(halfUsed()), due);
        TwoKings x = halfUsed();
        refused.applyAsLong(x);
        look.due(call + " changes nothing", drained(x), drained(halfUsed()));
        TwoKings y = allFull();
        refused.applyAsLong(y);
        look.due(call + " changes nothing when all is full", drained(y), drained(allFull()));
    }

    private static void nothingChanges() {
        look.of(0, "nothing changes then.");
        unchanged("write(0, ..)", BAD, x -> x.write(0, -1));
        unchanged("write(9, ..)", BAD, x -> x.write(9, -1));
        unchanged("act(3, 1)", BAD, x -> x.act(3, 1));
        unchanged("act(0, 5)", BAD, x -> x.act(0, 5));
        unchanged("year(-1)", BAD, x -> x.year(-1));
        unchanged("year(100)", BAD, x -> x.year(100));
        unchanged("rules(-1)", BAD, x -> x.rules(-1));
        unchanged("minutes(0, 100001, 0)", BAD, x -> x.minutes(0, 100001, 0));
        unchanged("next(0, 3)", BAD, x -> x.next(0, 3));
        unchanged("lawful(3, 0)", BAD, x -> x.lawful(3, 0));
        unchanged("tell(3)", BAD, x -> x.tell(3));
        unchanged("tell(-1)", BAD, x -> x.tell(-1));
        unchanged("soon(0, -2)", BAD, x -> x.soon(0, -2));
        unchanged("pass(0)", BAD, x -> x.pass(0));
        unchanged("pass(10000)", BAD, x -> x.pass(10000));
        unchanged("doAct(3)", BAD, x -> x.doAct(3));
        unchanged("allow(3, 0, true)", BAD, x -> x.allow(3, 0, true));
        unchanged("allow(0, 2, false)", BAD, x -> x.allow(0, 2, false));
        unchanged("allow(0, -1, false)", BAD, x -> x.allow(0, -1, false));
        unchanged("gain(2)", BAD, x -> x.gain(2));
        unchanged("forbid(3, 0, 0)", BAD, x -> x.forbid(3, 0, 0));
        unchanged("rests(3)", BAD, x -> x.rests(3));
        unchanged("firm(8)", BAD, x -> x.firm(8));
        unchanged("treaty(2)", BAD, x -> x.treaty(2));
        unchanged("bargain(0, 0, 0)", BAD, x -> x.bargain(0, 0, 0));
        unchanged("bargain(0, 2, 0)", NONE, x -> x.bargain(0, 2, 0));
        unchanged("line(-1, 0)", BAD, x -> x.line(-1, 0));
        unchanged("line(0, 3)", BAD, x -> x.line(0, 3));
        unchanged("shift(2)", BAD, x -> x.shift(2));
        unchanged("wreck(0, 0, 0, 0)", BAD, x -> x.wreck(0, 0, 0, 0));
        unchanged("drawn(0, 201)", BAD, x -> x.drawn(0, 201));
        unchanged("count(9)", BAD, x -> x.count(9));
        // The minute is 17, and in YEAR 9 HIGH lasts from 7 to 17: it is a turn.
        unchanged("doAct(0)", NO, x -> x.doAct(0));
        refusedWhenFull();
        refusedWhenEmpty();
    }

    private static void refusedWhenFull() {
        fullOne("write(1, ..)", FULL, x -> x.write(1, 0));
        fullOne("write(8, ..)", FULL, x -> x.write(8, 0));
        fullOne("tell(0)", FULL, x -> x.tell(0));
        fullOne("line(0, 0)", FULL, x -> x.line(0, 0));
        fullOne("keep()", FULL, x -> x.keep());
        fullOne("lay()", NO, x -> x.lay());
    }

    private static void fullOne(String call, long due, ToLongFunction<TwoKings> refused) {
        TwoKings x = allFull();
        look.due(call + " when all is full", refused.applyAsLong(x), due);
        look.due(call + " when all is full changes nothing", drained(x), drained(allFull()));
    }

    private static void refusedWhenEmpty() {
        emptyOne("lay()", NO, x -> x.lay());
        emptyOne("undo()", NO, x -> x.undo());
        emptyOne("back()", NO, x -> x.back());
        emptyOne("wipe()", 0, x -> x.wipe());
        emptyOne("noRow()", 0, x -> x.noRow());
        emptyOne("noTable()", 0, x -> x.noTable());
    }

    private static void emptyOne(String call, long due, ToLongFunction<TwoKings> refused) {
        TwoKings x = allEmpty();
        look.due(call + " when all is empty", refused.applyAsLong(x), due);
        look.due(call + " when all is empty changes nothing", drained(x), drained(allEmpty()));
    }

    private static void askingChangesNothing() {
        look.of(0, "who rules a minute however far off, how many minutes each has");
        TwoKings x = halfUsed();
        askAll(x);
        look.due("asking changes nothing", drained(x), drained(halfUsed()));
        TwoKings y = allFull();
        askAll(y);
        look.due("asking changes nothing when all is full", drained(y), drained(allFull()));
        TwoKings z = allEmpty();
        askAll(z);
        look.due("asking changes nothing when all is empty", drained(z), drained(allEmpty()));
    }

    private static void askAll(TwoKings x) {
        x.fault();
        x.act(0, 1);
        x.rules(LAST);
        x.minutes(LAST, 100000, 0);
        x.next(LAST, 2);
        x.lawful(0, 1);
        x.soon(LAST, -1);
        x.gain(0);
        x.forbid(0, 1, 0);
        for (int i = 0; i < 3; i++) x.rests(i);
        x.firm(7);
        x.treaty(0);
        x.treaty(1);
        x.bargain(0, 1, 0);
        x.forged();
        x.shift(0);
        x.shift(1);
        x.wreck(0, 10000, 0, 0);
        x.drawn(9999, 200);
        for (int i = 0; i < 9; i++) x.count(i);
    }

    private static void lastCalls() {
        look.of(0, "An object is used for at most 512 calls after it has been made");
        TwoKings x = new TwoKings();
        long minute = 0;
        for (int i = 0; i < 512; i++) minute = x.pass(9999);
        look.due("the 512th pass(9999)", minute, 512 * 9999);
        // Four calls write the text, one lays it, one goes to HIGH's first minute; two are left to look.
        TwoKings y = look.island("t999,1,19,20;a0,1,1,99,0;");
        y.pass(1);
        for (int i = 0; i < 504; i++) minute = y.doAct(0);
        look.due("the 510th call", minute, 505);
        look.due("the 511th call", y.count(6), 1000000 + 504 * 49);
        look.due("the 512th call", y.count(7), 1000000 - 504 * 50);
        TwoKings z = new TwoKings();
        for (int i = 0; i < 511; i++) z.write(1, 'x');
        look.due("400 of 511 bytes", z.wipe(), 400);
        TwoKings w = new TwoKings();
        int held = 0;
        for (int i = 0; i < 512; i++) held = i % 2 == 0 ? w.keep() : w.back();
        look.due("kept and back by turns", held, 0);
    }
}
