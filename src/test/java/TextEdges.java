/** Boundary cases of THE TEXT and of what is LAID (promises 1 to 7), a sentence at a time. */
public final class TextEdges {
    private static final int BAD = -1, NO = -2, FULL = -3, NONE = -4;
    private static final String PLAIN = Sentences.PLAIN, ACT = Sentences.ACT;
    private static final String[] ITEMS = {"t20,1,1,2;", "o7;", "s7;", "a1,1,1,1,1;"};

    private static final Sentences look = new Sentences();

    public static void main(String[] args) {
        newObject();
        firstIsland();
        writeLengths();
        writeOrder();
        writeFull();
        wipe();
        letters();
        figures();
        commas();
        semicolons();
        tideNumbers();
        otherNumbers();
        actNumbers();
        sixActs();
        faultPlace();
        noFault();
        without();
        lastOneCounts();
        laid();
        layStartsOver();
        layTextStays();
        layRefused();
        act();
        year();
        look.end();
    }

    private static void newObject() {
        look.of(1, "As told; THE TEXT is empty.");
        TwoKings x = new TwoKings();
        look.due("count(1)", x.count(1), 0);
        look.due("fault()", x.fault(), NONE);
        look.due("lay()", x.lay(), NO);
        look.due("wipe()", x.wipe(), 0);
        look.due("YEAR", x.count(2), 0);
        look.due("no row", x.noRow(), 0);
        look.due("no TABLE", x.noTable(), 0);
        look.due("nothing to be UNDONE", x.undo(), NO);
        look.due("nothing KEPT", x.back(), NO);
        look.due("no worth of HIGH", x.count(6), 1000000);
        look.due("no worth of LOW", x.count(7), 1000000);
        look.due("minute 0", x.pass(1), 1);
    }

    private static void firstIsland() {
        look.of(1, "at first a0,1,1,55,55;");
        TwoKings x = new TwoKings();
        int[] numbers = {0, 1, 1, 55, 55};
        for (int i = 0; i < 5; i++) look.due("act(0, " + i + ")", x.act(0, i), numbers[i]);
        look.due("one ACT", x.count(0), 1);
        look.due("no second ACT", x.act(1, 0), BAD);
        look.due("TIDES without tN", Sentences.rulers(x, 370, 5), "HHTLL");
        look.due("they last 745", Sentences.rulers(x, 743, 4), "LLTH");
        look.due("begin at 0", x.rules(0), 2);
        x.year(99);
        look.due("begin at 0 in YEAR 99", x.rules(0), 2);
    }

    private static void writeLengths() {
        look.of(2, "The lowest n bytes (1 to 8) of v");
        int[] wrong = {0, -1, 9, 10, 16, Integer.MIN_VALUE, Integer.MAX_VALUE};
        TwoKings x = new TwoKings();
        for (int n : wrong) look.due("write(" + n + ", ..)", x.write(n, 0x3B3B3B3B3B3B3B3BL), BAD);
        look.due("nothing came", x.count(1), 0);
        for (int n = 1; n <= 8; n++) {
            x.wipe();
            look.due("write(" + n + ", ..)", x.write(n, -1L), n);
            look.due("behind that", x.write(n, 0L), 2 * n);
        }
        // What lies above the lowest n bytes must not come: it would spoil the text.
        for (int n = 1; n < 8; n++) {
            TwoKings y = new TwoKings();
            String text = "a4,3,99,98,97;";
            for (int i = 0; i < text.length(); i += n) {
                int here = Math.min(n, text.length() - i);
                long v = -1L;
                for (int k = 0; k < here; k++) v = v << 8 | text.charAt(i + k);
                y.write(here, v);
            }
            look.due("by " + n + " bytes", y.lay(), 1);
            look.due("by " + n + " bytes, V", y.act(0, 4), 97);
        }
    }

    private static void writeOrder() {
        look.of(2, "the highest of these first, come behind THE TEXT: how long it is.");
        TwoKings x = new TwoKings();
        look.due("a1,2,3,4", x.write(8, 0x61312C322C332C34L), 8);
        look.due(",5;", x.write(3, 0x2C353BL), 11);
        look.due("lay()", x.lay(), 1);
        for (int i = 0; i < 5; i++) look.due("act(0, " + i + ")", x.act(0, i), i + 1);
        // As a signed byte 244 would be -12; as 7 bits it would be t.
        TwoKings y = new TwoKings();
        y.write(1, 0xF4);
        Sentences.put(y, "20,1,1,2;");
        look.due("byte 244 is no t", y.fault(), 0);
    }

    private static void writeFull() {
        look.of(2, "A TEXT is bytes (400 at most)");
        for (int n = 1; n <= 8; n++) {
            TwoKings x = new TwoKings();
            for (int i = 0; i < 49; i++) x.write(8, 0);
            look.due("393 to 400", x.write(n, 0), 392 + n);
            look.due("401 to 408", x.write(8 - n + 1, 0), FULL);
            look.due("none of it came", x.count(1), 392 + n);
            if (n < 8) look.due("just 400", x.write(8 - n, 0), 400);
            look.due("one byte more", x.write(1, 0), FULL);
            look.due("BAD ahead of FULL, 0", x.write(0, 0), BAD);
            look.due("BAD ahead of FULL, 9", x.write(9, 0), BAD);
            look.due("400 stay", x.count(1), 400);
            look.due("wiped", x.wipe(), 400);
            look.due("there is room again", x.write(8, 0), 8);
        }
        TwoKings whole = Sentences.withText("s1;".repeat(129) + ACT);
        look.due("a text of 400 bytes", whole.count(1), 400);
        look.due("a text of 400 bytes is LAID", whole.lay(), 1);
        look.due("its last byte is FULL's neighbour", whole.write(1, ';'), FULL);
        look.due("and is LAID still", whole.lay(), 1);
    }

    private static void wipe() {
        look.of(3, "THE TEXT is empty: how long it was.");
        TwoKings x = new TwoKings();
        look.due("empty", x.wipe(), 0);
        x.write(1, 'o');
        look.due("one byte", x.wipe(), 1);
        look.due("empty now", x.wipe(), 0);
        look.due("nothing of it is left", x.write(2, 0x373B), 2);
        look.due("7; alone is no ITEM", x.fault(), 0);
        x.wipe();
        for (int i = 0; i < 50; i++) x.write(8, 0);
        look.due("full", x.wipe(), 400);
        look.due("no FAULT is left", x.fault(), NONE);
        Sentences.put(x, "a1,2,3,4,5;");
        x.lay();
        x.wipe();
        look.due("what is LAID stays", x.act(0, 4), 5);
        look.due("but can't be LAID again", x.lay(), NO);
    }

    private static void letters() {
        look.of(4, "ITEMS one behind the other, each a letter");
        String[] numbers = {"7;", "20,1;", "20,1,1;", "20,1,1,2;", "1,1,1,1,1;", "1,1,1,1,1,1;", ";", ""};
        for (int letter = 0; letter < 256; letter++) {
            for (String behind : numbers) {
                String item = (char) letter + behind;
                boolean is = "os".indexOf(letter) >= 0 && behind.equals("7;")
                    || letter == 't' && behind.equals("20,1,1,2;") || letter == 'a' && behind.equals("1,1,1,1,1;");
                look.due("fault of byte " + letter + behind, look.faultOf(item), is ? NONE : 0);
            }
        }
        look.due("two letters", look.faultOf("oo7;"), 0);
        look.due("a letter behind", look.faultOf("7o;"), 0);
        look.due("a blank ahead", look.faultOf(" o7;"), 0);
        look.due("a blank between", look.faultOf("o7; o7;"), 3);
        look.due("a line's end behind", look.faultOf("o7;\n"), 3);
    }

    private static void figures() {
        look.of(4, "numbers (one to three figures)");
        for (String item : ITEMS) {
            String letter = item.substring(0, 1);
            String[] numbers = item.substring(1, item.length() - 1).split(",");
            for (int i = 0; i < numbers.length; i++) {
                String told = numbers[i];
                String[] wrong = {"", "0".repeat(4 - told.length()) + told, "00000000" + told, "-" + told, "+" + told,
                    " " + told, told + " ", told + ".0", "x" };
                for (String number : wrong) look.due(number + " in " + item, with(letter, numbers, i, number), 0);
                for (int zeros = 0; zeros <= 3 - told.length(); zeros++) {
                    String number = "0".repeat(zeros) + told;
                    look.due(number + " in " + item, with(letter, numbers, i, number), NONE);
                }
            }
        }
        for (int sign = 0; sign < 256; sign++) {
            if (sign == ';') continue;
            boolean is = sign >= '0' && sign <= '9';
            look.due("byte " + sign + " as first figure", look.faultOf("o" + (char) sign + ";"), is ? NONE : 0);
            look.due("byte " + sign + " as last figure", look.faultOf("o12" + (char) sign + ";"), is ? NONE : 0);
        }
    }

    private static int with(String letter, String[] numbers, int i, String number) {
        String[] all = numbers.clone();
        all[i] = number;
        return look.faultOf(letter + String.join(",", all) + ";");
    }

    private static void commas() {
        look.of(4, "parted by ,");
        for (String item : ITEMS) {
            for (int at = 0; at < item.length(); at++) {
                if (item.charAt(at) != ',') continue;
                String[] instead = {";", ".", " ", ":", ",,", "-"};
                for (String sign : instead) {
                    String text = item.substring(0, at) + sign + item.substring(at + 1);
                    look.due("fault of " + text, look.faultOf(text), 0);
                }
            }
            String last = item.substring(0, item.length() - 1);
            look.due("a , behind the last number", look.faultOf(last + ",;"), 0);
            look.due("a number too many", look.faultOf(last + ",1;"), 0);
            look.due("a , ahead of the first number", look.faultOf(item.charAt(0) + "," + item.substring(1)), 0);
        }
    }

    private static void semicolons() {
        look.of(4, "and ; (behind the last one, too)");
        for (String item : ITEMS) {
            String bare = item.substring(0, item.length() - 1);
            look.due("without ; " + bare, look.faultOf(bare), 0);
            look.due("without ; as the last one", look.faultOf("o7;" + bare), 3);
            look.due("without ; ahead of another", look.faultOf(bare + "o7;"), 0);
            look.due("a , instead", look.faultOf(bare + ","), 0);
            look.due("a : instead", look.faultOf(bare + ":"), 0);
            look.due("byte 0 instead", look.faultOf(bare + (char) 0), 0);
            look.due("twice", look.faultOf(item + ";"), item.length());
        }
        look.due("alone", look.faultOf(";"), 0);
    }

    private static void tideNumbers() {
        look.of(4, "N 20 to 999");
        expect("t0,1,1,2; t1,1,1,2; t19,1,1,2;", "t20,1,1,2; t21,1,1,2; t998,1,1,2; t999,1,1,2;");
        look.of(4, "D 1 to 20");
        expect("t999,0,1,2; t999,21,1,2; t999,22,1,2; t999,49,1,2;", "t999,1,1,2; t999,2,1,2; t999,19,1,2; t999,20,1,2;");
        look.of(4, "N 20 D or more");
        for (int d = 1; d <= 20; d++) {
            expect("t" + (20 * d - 1) + "," + d + ",1,2;", "t" + 20 * d + "," + d + ",1,2; t" + (20 * d + 1) + "," + d + ",1,2;");
        }
        look.of(4, "Q 2 to 20");
        expect("t20,1,1,0; t20,1,1,1; t20,1,1,21; t20,1,1,999; t20,1,0,1; t20,1,0,0;",
            "t20,1,1,2; t20,1,1,3; t20,1,1,19; t20,1,1,20;");
        look.of(4, "P 1 to Q less 1");
        for (int q = 2; q <= 20; q++) {
            String head = "t20,1,";
            expect(head + "0," + q + "; " + head + q + "," + q + "; " + head + (q + 1) + "," + q + ";",
                head + "1," + q + "; " + head + (q - 1) + "," + q + ";");
        }
    }

    private static void otherNumbers() {
        look.of(4, "the first TIDE begins O minutes (0 to 999) behind minute 0");
        expect("o1000; o-1;", "o0; o1; o998; o999; o000;");
        look.due("o0", look.island(PLAIN + "o0;" + ACT).rules(0), 2);
        look.due("o1", Sentences.rulers(look.island(PLAIN + "o1;" + ACT), 0, 3), "LTH");
        look.due("o999", Sentences.rulers(look.island("t999,1,1,2;o999;" + ACT), 998, 3), "LTH");
        look.of(4, "each YEAR it begins S minutes later (0 to 99");
        expect("s100; s101; s999; s-1;", "s0; s1; s98; s99; s099;");
        TwoKings x = look.island("t999,1,1,2;s99;" + ACT);
        x.year(1);
        look.due("s99 in YEAR 1", Sentences.rulers(x, 98, 3), "LTH");
        x.year(99);
        // 99 times 99 is 9801, and 9 TIDES are 8991.
        look.due("s99 in YEAR 99", Sentences.rulers(x, 9800, 3), "LTH");
        look.due("s99 in YEAR 99, 9 TIDES ahead", Sentences.rulers(x, 809, 3), "LTH");
        TwoKings y = look.island("t999,1,1,2;s0;" + ACT);
        y.year(99);
        look.due("s0 in YEAR 99", y.rules(0), 2);
    }

    private static void actNumbers() {
        look.of(4, "KIND K (0 MOMENT, 1 LASTING, 2 BEGUN, 3 OF BOTH, 4 AT THE TURN)");
        expect("a5,1,1,1,1; a6,1,1,1,1; a999,1,1,1,1;", "a0,1,1,1,1; a1,1,1,1,1; a2,1,1,1,1; a3,1,1,1,1; a4,1,1,1,1;");
        look.of(4, "1 HIGH, 2 LOW; 0 to 3)");
        expect("a0,4,1,1,1; a0,5,1,1,1; a0,999,1,1,1;", "a0,0,1,1,1; a0,1,1,1,1; a0,2,1,1,1; a0,3,1,1,1;");
        look.of(4, "lasting M minutes (1 to 99)");
        expect("a0,1,0,1,1; a0,1,000,1,1; a0,1,100,1,1; a0,1,101,1,1; a0,1,999,1,1;", "a0,1,1,1,1; a0,1,2,1,1; a0,1,98,1,1; a0,1,99,1,1;");
        look.of(4, "(U, V 0 to 99 each)");
        expect("a0,1,1,100,1; a0,1,1,999,1; a0,1,1,1,100; a0,1,1,1,999; a0,1,1,100,100;",
            "a0,1,1,0,1; a0,1,1,1,0; a0,1,1,0,0; a0,1,1,99,1; a0,1,1,1,99; a0,1,1,99,99;");
    }

    /** ITEMS with a FAULT, and ITEMS without, parted by blanks. */
    private static void expect(String faulty, String fine) {
        for (String text : faulty.split(" ")) {
            look.due("fault of " + text, look.faultOf(text), 0);
            look.due("fault of " + text + " behind another", look.faultOf("o7;" + text + "o7;"), 3);
        }
        for (String text : fine.split(" ")) {
            look.due("fault of " + text, look.faultOf(text), NONE);
            look.due("fault of " + text + " behind another", look.faultOf("o7;" + text + "o7;"), NONE);
        }
    }

    private static void sixActs() {
        look.of(4, "6 at most, 0, 1, ..");
        for (int n = 1; n <= 6; n++) {
            TwoKings x = look.island(ACT.repeat(n));
            look.due(n + " ACTS", x.count(0), n);
            look.due(n + " ACTS, the last one", x.act(n - 1, 3), 55);
            look.due(n + " ACTS, one behind it", x.act(n, 3), BAD);
        }
        look.due("six", look.faultOf(ACT.repeat(6)), NONE);
        look.due("seven", look.faultOf(ACT.repeat(7)), 6 * ACT.length());
        look.due("eight", look.faultOf(ACT.repeat(8)), 6 * ACT.length());
        look.due("seven are not LAID", Sentences.withText(ACT.repeat(7)).lay(), NO);
        look.due("others behind six", look.faultOf(ACT.repeat(6) + "o1;s1;" + PLAIN), NONE);
        look.due("seven with others between", look.faultOf(ACT.repeat(6) + "o1;" + ACT), 6 * ACT.length() + 3);
        TwoKings y = look.island("a0,0,1,10,20;a1,1,2,11,21;a2,2,3,12,22;a3,3,4,13,23;a4,0,5,14,24;a0,1,6,15,25;");
        for (int a = 0; a < 6; a++) {
            look.due("ACT " + a + ": M", y.act(a, 2), a + 1);
            look.due("ACT " + a + ": U", y.act(a, 3), a + 10);
            look.due("ACT " + a + ": V", y.act(a, 4), a + 20);
        }
        TwoKings z = look.island(ACT.repeat(6));
        look.due("asked twice, six are not twelve", z.fault() * 10 + z.lay(), NONE * 10 + 6);
        look.due("and again", z.lay(), 6);
    }

    private static void faultPlace() {
        look.of(4, "FAULT: the place (from 0 on) of the first byte of the first ITEM that is not so.");
        String text = "o5;t20,1,1,2;s3;a0,1,1,1,1;";
        int begin = 0;
        for (int length = 1; length <= text.length(); length++) {
            boolean whole = text.charAt(length - 1) == ';';
            look.due("fault of " + text.substring(0, length), look.faultOf(text.substring(0, length)), whole ? NONE : begin);
            if (whole) begin = length;
        }
        look.due("the first of two", look.faultOf("o5;s100;x"), 3);
        look.due("by numbers ahead of form", look.faultOf("s100;x"), 0);
        look.due("by form ahead of numbers", look.faultOf("s1;x;s100;"), 3);
        look.due("though a later one of several such counts", look.faultOf("o5;t19,1,1,2;t20,1,1,2;"), 3);
        look.due("as byte 399", look.faultOf("s1;".repeat(133) + "o"), 399);
        look.due("of an ITEM that byte 400 cuts", look.faultOf("s01;".repeat(99) + "o123"), 396);
        look.due("of an ITEM that ends with byte 400", look.faultOf("s01;".repeat(99) + "o12;"), NONE);
        TwoKings x = Sentences.withText("o7;");
        x.wipe();
        Sentences.put(x, "o");
        look.due("bytes that were wiped don't count", x.fault(), 0);
        Sentences.put(x, "7");
        look.due("nor does their ;", x.fault(), 0);
        Sentences.put(x, ";");
        look.due("THE TEXT can be gone on with", x.fault(), NONE);
    }

    private static void noFault() {
        look.of(4, "FAULT. NONE.");
        look.due("an empty text", look.faultOf(""), NONE);
        look.due("a text without an ACT", look.faultOf("o1;"), NONE);
        TwoKings x = Sentences.withText("o1;x");
        look.due("asked", x.fault(), 3);
        look.due("asked again", x.fault(), 3);
        x.wipe();
        look.due("wiped", x.fault(), NONE);
        TwoKings y = look.island(PLAIN + "a2,3,4,5,6;");
        y.wipe();
        Sentences.put(y, "t30,1,1,3;o4;a1,1,1,1,1;a1,1,1,1,1;");
        look.due("asked, not LAID", y.fault(), NONE);
        look.due("asked, not LAID: ACTS", y.count(0), 1);
        look.due("asked, not LAID: M", y.act(0, 2), 4);
        look.due("asked, not LAID: TIDES", Sentences.rulers(y, 0, 12), "THHHHHHHHHTL");
    }

    private static void without() {
        look.of(5, "745, 1, 1, 2 without");
        TwoKings x = look.island(PLAIN + "o3;s5;" + ACT);
        x.wipe();
        Sentences.put(x, "o0;" + ACT);
        x.lay();
        look.due("TIDES", Sentences.rulers(x, 370, 5), "HHTLL");
        look.due("the next one", Sentences.rulers(x, 743, 4), "LLTH");
        look.of(5, "TIDES go on ahead of that, too; 0 without");
        x = look.island(PLAIN + "o3;s5;" + ACT);
        look.due("ahead of o3", Sentences.rulers(x, 0, 5), "LLLTH");
        look.due("ahead of o999, at -1", Sentences.rulers(look.island(PLAIN + "o999;" + ACT), 0, 20), "HHHHHHHHHTLLLLLLLLLT");
        x.wipe();
        Sentences.put(x, PLAIN + ACT);
        x.lay();
        look.due("O without", Sentences.rulers(x, 0, 2), "TH");
        look.of(5, "(0 to 99; 0 without;");
        x = look.island(PLAIN + "o3;s5;" + ACT);
        x.year(1);
        look.due("s5 in YEAR 1", Sentences.rulers(x, 7, 3), "LTH");
        x.wipe();
        Sentences.put(x, PLAIN + ACT);
        x.lay();
        x.year(1);
        look.due("S without, in YEAR 1", Sentences.rulers(x, 0, 2), "TH");
        x.year(99);
        look.due("S without, in YEAR 99", Sentences.rulers(x, 0, 2), "TH");
    }

    private static void lastOneCounts() {
        look.of(5, "1, 1, 2 without; of several such the last one counts) oO");
        look.due("tN", Sentences.rulers(look.island("t999,1,1,3;t30,1,1,3;" + PLAIN + ACT), 9, 12), "HTLLLLLLLLLT");
        look.due("tN behind an ACT", Sentences.rulers(look.island("t30,1,1,3;" + ACT + PLAIN), 9, 12), "HTLLLLLLLLLT");
        look.due("all four numbers", Sentences.rulers(look.island("t60,3,2,4;t21,1,1,3;" + ACT), 6, 17), "HTLLLLLLLLLLLLLTH");
        look.of(5, "0 without; of several such the last one counts) sS");
        look.due("oO", Sentences.rulers(look.island(PLAIN + "o9;o8;o2;" + ACT), 0, 4), "LLTH");
        look.due("o0 as the last one", Sentences.rulers(look.island(PLAIN + "o9;" + ACT + "o0;"), 0, 2), "TH");
        look.of(5, "0 without; of several such the last one counts) aK");
        TwoKings x = look.island(PLAIN + "s9;s8;s2;" + ACT);
        x.year(1);
        look.due("sS", Sentences.rulers(x, 0, 4), "LLTH");
        x = look.island(PLAIN + "s9;" + ACT + "s0;");
        x.year(1);
        look.due("s0 as the last one", Sentences.rulers(x, 0, 2), "TH");
    }

    private static void laid() {
        look.of(5, "LAID is a TEXT without FAULT, of an ACT at least (NO else");
        look.due("empty", new TwoKings().lay(), NO);
        look.due("without an ACT", Sentences.withText(PLAIN + "o1;s1;").lay(), NO);
        look.due("an ACT alone", Sentences.withText(ACT).lay(), 1);
        look.due("a FAULT behind an ACT", Sentences.withText(ACT + "x").lay(), NO);
        look.due("a FAULT ahead of an ACT", Sentences.withText("x" + ACT).lay(), NO);
        look.due("half an ACT", Sentences.withText(ACT.substring(0, ACT.length() - 1)).lay(), NO);
        look.due("an ACT and a half", Sentences.withText(ACT + "a0,1").lay(), NO);
        look.due("a number that is not told", Sentences.withText(ACT + "s100;").lay(), NO);
    }

    /** Everything that can be full is full, and nothing is as it was at first. */
    private static TwoKings used() {
        TwoKings x = look.island(PLAIN + "a0,3,1,60,30;a4,3,1,99,0;");
        x.pass(1);
        x.doAct(0);
        x.keep();
        x.year(99);
        x.keep();
        for (int i = 0; i < 10; i++) x.line(i, 1);
        for (int i = 0; i < 8; i++) x.tell(1);
        for (int i = 0; i < 8; i++) x.allow(1, i % 2, false);
        return x;
    }

    private static void layStartsOver() {
        look.of(5, "LAID: how many ACTS; YEAR 0, minute 0, no worths, no row, no TABLE, nothing to be UNDONE, KEPT");
        TwoKings x = used();
        int[] full = {2, 35, 99, 8, 10, 8, 1000010, 999980, 2};
        for (int i = 0; i < 9; i++) look.due("ahead of it count(" + i + ")", x.count(i), full[i]);
        look.due("lay()", x.lay(), 2);
        int[] fresh = {2, 35, 0, 0, 0, 0, 1000000, 1000000, 0};
        for (int i = 0; i < 9; i++) look.due("count(" + i + ")", x.count(i), fresh[i]);
        look.due("LAWS as told", x.act(1, 1), 3);
        look.due("no row", x.soon(5, -1), 5);
        look.due("no TABLE", x.forged(), 0);
        look.due("nothing to be UNDONE", x.undo(), NO);
        look.due("nothing KEPT", x.back(), NO);
        look.due("room in the row", x.tell(0), 1);
        look.due("room in the TABLE", x.line(0, 2), 1);
        look.due("room to be KEPT", x.keep(), 1);
        look.due("minute 0", x.pass(1), 1);
        x.wipe();
        Sentences.put(x, ACT);
        look.due("fewer ACTS", x.lay(), 1);
        look.due("the one that is gone", x.tell(1), BAD);
        Sentences.put(x, ACT);
        look.due("more ACTS", x.lay(), 2);
        look.due("the one that came", x.tell(1), 1);
    }

    private static void layTextStays() {
        look.of(5, "THE TEXT stays. NO.");
        TwoKings x = look.island(ACT);
        look.due("bytes", x.count(1), ACT.length());
        look.due("LAID again", x.lay(), 1);
        look.due("more comes behind", x.write(1, 'o'), ACT.length() + 1);
        look.due("not LAID", x.lay(), NO);
        look.due("it stays then, too", x.wipe(), ACT.length() + 1);
    }

    private static void layRefused() {
        look.of(5, "NO: not as things stand.");
        TwoKings x = used();
        String[] texts = {"", PLAIN, "t30,1,1,3;o5;s5;" + ACT + "x", ACT.repeat(7)};
        for (String text : texts) {
            x.wipe();
            Sentences.put(x, text);
            look.due("lay of " + text, x.lay(), NO);
            int[] full = {2, text.length(), 99, 8, 10, 8, 1000010, 999980, 2};
            for (int i = 0; i < 9; i++) look.due("nothing changes: count(" + i + ")", x.count(i), full[i]);
            look.due("nothing changes: the ACTS", x.act(0, 3) * 100 + x.act(1, 4), 6000);
            look.due("nothing changes: the LAWS", x.act(1, 1), 0);
            look.due("nothing changes: the TIDES", Sentences.rulers(x, 9, 12), "HTLLLLLLLLLT");
        }
        look.due("nothing changes: the last one KEPT", x.back(), 1);
        look.due("nothing changes: the minute", x.pass(1), 3);
    }

    private static void act() {
        look.of(6, "KIND (what = 0), lawful for (1), M (2), U (3), V (4). BAD.");
        TwoKings x = look.island("a4,0,99,0,98;a0,3,1,99,0;");
        int[][] numbers = {{4, 0, 99, 0, 98}, {0, 3, 1, 99, 0}};
        for (int a = 0; a < 2; a++) {
            for (int what = 0; what < 5; what++) look.due("act(" + a + ", " + what + ")", x.act(a, what), numbers[a][what]);
        }
        int[] far = {-1, Integer.MIN_VALUE, Integer.MAX_VALUE, 1 << 30, -(1 << 30), 858993460};
        for (int n : far) {
            look.due("act(" + n + ", 0)", x.act(n, 0), BAD);
            look.due("act(0, " + n + ")", x.act(0, n), BAD);
        }
        look.due("the ACT behind the last one", x.act(2, 0), BAD);
        look.due("what 5", x.act(0, 5), BAD);
        look.due("what 5 is not the next ACT's KIND", x.act(0, 5), BAD);
        look.due("what -1 is not the V of the one ahead", x.act(1, -1), BAD);
        x.allow(1, 0, false);
        look.due("lawful for, now", x.act(1, 1), 2);
    }

    private static void year() {
        look.of(7, "It is YEAR y (0 to 99): which it was. BAD.");
        TwoKings x = look.island(PLAIN + "s1;" + ACT);
        int[] wrong = {-1, 100, 101, Integer.MIN_VALUE, Integer.MAX_VALUE};
        for (int y : wrong) look.due("year(" + y + ")", x.year(y), BAD);
        look.due("it was 0", x.year(99), 0);
        for (int y : wrong) look.due("year(" + y + ")", x.year(y), BAD);
        look.due("it stays 99", x.count(2), 99);
        look.due("it was 99", x.year(99), 99);
        look.due("it was 99 still", x.year(0), 99);
        look.due("it was 0", x.year(1), 0);
        look.due("TIDES of YEAR 1", Sentences.rulers(x, 0, 3), "LTH");
        look.due("no minute goes by, nothing can be UNDONE", x.undo(), NO);
        look.of(7, "In YEAR y (0 to 99) a TIDE begins at minute O and S y and each whole number (also below 0) of times N by D more");
        TwoKings far = look.island("t41,2,1,2;o999;s99;" + ACT);
        // 999 less 49 TIDES of 20 1/2 is -5 1/2; HIGH ends at 4 3/4, the TIDE at 15.
        look.due("ahead of 0, in halves", Sentences.rulers(far, 0, 17), "HHHHTLLLLLLLLLLTH");
        far.year(99);
        // 10800 less 526 TIDES is 17, less 527 is -3 1/2; HIGH ends at 6 3/4.
        look.due("far ahead of 10800", Sentences.rulers(far, 0, 19), "HHHHHHTLLLLLLLLLLTH");
        look.due("at 10800", Sentences.rulers(far, 10799, 3), "LTH");
    }
}
