import java.math.BigInteger;
import java.util.ArrayList;
import java.util.Arrays;
import java.util.List;
import java.util.Random;

/**
 * Long runs of calls, wrong ones among them, against a second program that follows the
 * document minute by minute and in fractions, with no thought for speed.
 */
public final class ModelRuns {
    private static final int BAD = -1, NO = -2, FULL = -3, NONE = -4;
    private static final long LAST = 1000000000000L;
    private static final int RUNS = 400, CALLS = 500;

    public static void main(String[] args) {
        int wrong = 0;
        for (int seed = 0; seed < RUNS && wrong < 5; seed++) {
            String told = run(new Random(seed));
            if (told == null) continue;
            wrong++;
            System.out.println("run " + seed + ": " + told);
        }
        System.out.println(RUNS + " runs of " + CALLS + " calls against the model, " + wrong + " wrong");
        if (wrong != 0) System.exit(1);
    }

    /** The first call of a run that is answered wrongly; null if there is none. */
    private static String run(Random dice) {
        TwoKings x = new TwoKings();
        Model y = new Model();
        String lastCall = "";
        for (int calls = 0; calls < CALLS; ) {
            if (calls == 0 || dice.nextInt(60) == 0) {
                String text = randomText(dice);
                calls += 3 + text.length();
                if (calls > CALLS) break;
                String told = layBoth(x, y, text);
                if (told != null) return told;
                continue;
            }
            Object[] call = randomCall(dice, y);
            long got = Calls.answer(x, call);
            long want = y.answer(call);
            calls++;
            if (got != want) {
                return Arrays.toString(call) + " answered " + got + ", due is " + want + ", behind " + lastCall
                    + ", text " + y.text;
            }
            lastCall = Arrays.toString(call);
        }
        return null;
    }

    private static String layBoth(TwoKings x, Model y, String text) {
        x.wipe();
        y.text.clear();
        for (int i = 0; i < text.length(); i += 8) {
            int n = Math.min(8, text.length() - i);
            long v = 0;
            for (int k = 0; k < n; k++) v = v << 8 | text.charAt(i + k);
            x.write(n, v);
            for (int k = 0; k < n; k++) y.text.add((int) text.charAt(i + k));
        }
        if (x.fault() != y.fault()) return "fault of " + text + " is " + x.fault() + ", due is " + y.fault();
        int got = x.lay();
        int want = y.lay();
        return got == want ? null : "lay of " + text + " answered " + got + ", due is " + want;
    }

    private static String randomText(Random dice) {
        StringBuilder text = new StringBuilder();
        int items = 1 + dice.nextInt(5);
        if (dice.nextInt(8) > 0) text.append(randomTide(dice));
        for (int i = 0; i < items; i++) {
            int kind = dice.nextInt(10);
            if (kind == 0) text.append('o').append(dice.nextInt(1000)).append(';');
            else if (kind == 1) text.append('s').append(dice.nextInt(100)).append(';');
            else if (kind == 2) text.append(randomTide(dice));
            else text.append(randomAct(dice));
        }
        if (dice.nextInt(8) == 0 && text.length() > 0) spoil(dice, text);
        return text.toString();
    }

    private static String randomTide(Random dice) {
        int d = 1 + dice.nextInt(20);
        int n = dice.nextInt(3) == 0 ? 20 * d + dice.nextInt(20) : 20 * d + dice.nextInt(1000 - 20 * d);
        int q = 2 + dice.nextInt(19);
        int p = dice.nextInt(4) == 0 ? 1 : 1 + dice.nextInt(q - 1);
        return "t" + n + "," + d + "," + p + "," + q + ";";
    }

    private static String randomAct(Random dice) {
        int lasts = dice.nextBoolean() ? 1 + dice.nextInt(20) : 1 + dice.nextInt(99);
        int about = dice.nextBoolean() ? 50 : 100;
        int u = about == 50 ? 47 + dice.nextInt(7) : dice.nextInt(100);
        int v = about == 50 ? 47 + dice.nextInt(7) : dice.nextInt(100);
        return "a" + dice.nextInt(5) + "," + dice.nextInt(4) + "," + lasts + "," + u + "," + v + ";";
    }

    private static void spoil(Random dice, StringBuilder text) {
        int at = dice.nextInt(text.length());
        String signs = "tosa,;0123459x ";
        int way = dice.nextInt(3);
        char sign = signs.charAt(dice.nextInt(signs.length()));
        if (way == 0) text.setCharAt(at, sign);
        else if (way == 1) text.insert(at, sign);
        else text.deleteCharAt(at);
    }

    private static final String[] NAMES = {
        "write", "wipe", "fault", "lay", "act", "year", "rules", "minutes", "next", "lawful", "tell", "noRow", "soon",
        "pass", "doAct", "allow", "undo", "gain", "forbid", "rests", "firm", "treaty", "bargain", "line", "noTable",
        "forged", "shift", "wreck", "drawn", "keep", "back", "count"
    };

    private static Object[] randomCall(Random dice, Model y) {
        String name = NAMES[dice.nextInt(NAMES.length)];
        if ((name.equals("wipe") || name.equals("noRow") || name.equals("noTable") || name.equals("lay"))
            && dice.nextInt(5) > 0) {
            name = name.equals("noRow") ? "tell" : name.equals("noTable") ? "line" : "doAct";
        }
        int acts = y.acts.size();
        switch (name) {
            case "write": return call(name, range(dice, 1, 8), dice.nextLong());
            case "act": return call(name, range(dice, 0, acts - 1), range(dice, 0, 4));
            case "year": return call(name, range(dice, 0, 99));
            case "rules": return call(name, minute(dice));
            case "minutes": return call(name, minute(dice), lengths(dice, 0, 100000), range(dice, 0, 2));
            case "next": return call(name, minute(dice), range(dice, 0, 2));
            case "lawful": return call(name, range(dice, 0, acts - 1), minute(dice));
            case "tell": case "doAct": return call(name, range(dice, 0, acts - 1));
            case "soon": return call(name, minute(dice), range(dice, -1, y.row.size() - 1));
            case "pass": return call(name, lengths(dice, 1, 9999));
            case "allow": return call(name, range(dice, 0, acts - 1), range(dice, 0, 1), dice.nextBoolean());
            case "gain": return call(name, range(dice, 0, 1));
            case "forbid":
                return call(name, range(dice, -1, acts - 1), range(dice, -1, acts - 1), range(dice, 0, 1));
            case "rests": return call(name, range(dice, 0, 2));
            case "firm": return call(name, range(dice, 0, (1 << acts) - 1));
            case "treaty": case "shift": return call(name, range(dice, 0, 1));
            case "bargain": return call(name, range(dice, 0, acts - 1), range(dice, 0, acts - 1), minute(dice));
            case "line": return call(name, lengths(dice, 0, 1000000), range(dice, 0, 2));
            case "wreck":
                return call(name, minute(dice), lengths(dice, 1, 10000), range(dice, 0, 1), range(dice, 0, 1));
            case "drawn": return call(name, range(dice, 0, 9999), range(dice, 1, 200));
            case "count": return call(name, range(dice, 0, 8));
            default: return call(name);
        }
    }

    private static Object[] call(Object... parts) {
        return parts;
    }

    /** Mostly of the range, its edges often, now and then just outside it. */
    private static int range(Random dice, int least, int most) {
        int way = dice.nextInt(24);
        if (way == 0) return least - 1;
        if (way == 1) return most + 1;
        if (way == 2) return least;
        if (way == 3) return most;
        return most < least ? least : least + dice.nextInt(most - least + 1);
    }

    private static int lengths(Random dice, int least, int most) {
        return dice.nextInt(3) > 0 ? range(dice, least, Math.min(most, 60)) : range(dice, least, most);
    }

    private static long minute(Random dice) {
        int way = dice.nextInt(16);
        if (way == 0) return -1;
        if (way == 1) return LAST + 1;
        if (way == 2) return LAST - dice.nextInt(50);
        if (way < 6) return (long) (dice.nextDouble() * LAST);
        return dice.nextInt(way < 11 ? 200 : 3000);
    }

    /** The same call on the class that is tested. */
    private static final class Calls {
        static long answer(TwoKings x, Object[] c) {
            switch ((String) c[0]) {
                case "write": return x.write((int) c[1], (long) c[2]);
                case "wipe": return x.wipe();
                case "fault": return x.fault();
                case "lay": return x.lay();
                case "act": return x.act((int) c[1], (int) c[2]);
                case "year": return x.year((int) c[1]);
                case "rules": return x.rules((long) c[1]);
                case "minutes": return x.minutes((long) c[1], (int) c[2], (int) c[3]);
                case "next": return x.next((long) c[1], (int) c[2]);
                case "lawful": return x.lawful((int) c[1], (long) c[2]);
                case "tell": return x.tell((int) c[1]);
                case "noRow": return x.noRow();
                case "soon": return x.soon((long) c[1], (int) c[2]);
                case "pass": return x.pass((int) c[1]);
                case "doAct": return x.doAct((int) c[1]);
                case "allow": return x.allow((int) c[1], (int) c[2], (boolean) c[3]);
                case "undo": return x.undo();
                case "gain": return x.gain((int) c[1]);
                case "forbid": return x.forbid((int) c[1], (int) c[2], (int) c[3]);
                case "rests": return x.rests((int) c[1]);
                case "firm": return x.firm((int) c[1]);
                case "treaty": return x.treaty((int) c[1]);
                case "bargain": return x.bargain((int) c[1], (int) c[2], (long) c[3]);
                case "line": return x.line((int) c[1], (int) c[2]);
                case "noTable": return x.noTable();
                case "forged": return x.forged();
                case "shift": return x.shift((int) c[1]);
                case "wreck": return x.wreck((long) c[1], (int) c[2], (int) c[3], (int) c[4]);
                case "drawn": return x.drawn((int) c[1], (int) c[2]);
                case "keep": return x.keep();
                case "back": return x.back();
                case "count": return x.count((int) c[1]);
                default: throw new IllegalArgumentException((String) c[0]);
            }
        }
    }

    /** The second program. */
    private static final class Model {
        final List<Integer> text = new ArrayList<>();
        List<int[]> acts = new ArrayList<>();
        final List<Integer> row = new ArrayList<>();
        final List<int[]> table = new ArrayList<>();
        final List<long[]> kept = new ArrayList<>();
        final List<long[]> past = new ArrayList<>();
        int[] tide = {745, 1, 1, 2};
        int origin, silt, year;
        long minute;
        long[] worths = new long[2];
        int[] laws = {1};

        private List<int[]> readActs;
        private int[] readTide;
        private int readOrigin, readSilt;

        Model() {
            acts.add(new int[] {0, 1, 1, 55, 55});
        }

        int fault() {
            readActs = new ArrayList<>();
            readTide = new int[] {745, 1, 1, 2};
            readOrigin = 0;
            readSilt = 0;
            StringBuilder all = new StringBuilder();
            for (int b : text) all.append((char) b);
            int at = 0;
            while (at < all.length()) {
                int end = all.indexOf(";", at);
                if (end < 0 || !readItem(all.substring(at, end))) return at;
                at = end + 1;
            }
            return NONE;
        }

        private boolean readItem(String item) {
            if (!item.matches("[tosa][0-9]{1,3}(,[0-9]{1,3})*")) return false;
            String[] parts = item.substring(1).split(",", -1);
            int[] v = new int[parts.length];
            for (int i = 0; i < v.length; i++) v[i] = Integer.parseInt(parts[i]);
            switch (item.charAt(0)) {
                case 't':
                    if (v.length != 4 || v[0] < 20 || v[1] < 1 || v[1] > 20 || v[0] < 20 * v[1]) return false;
                    if (v[3] < 2 || v[3] > 20 || v[2] < 1 || v[2] >= v[3]) return false;
                    readTide = v;
                    return true;
                case 'o':
                    readOrigin = v[0];
                    return v.length == 1;
                case 's':
                    readSilt = v[0];
                    return v.length == 1 && v[0] <= 99;
                default:
                    if (v.length != 5 || readActs.size() == 6 || v[0] > 4 || v[1] > 3) return false;
                    if (v[2] < 1 || v[2] > 99 || v[3] > 99 || v[4] > 99) return false;
                    readActs.add(v);
                    return true;
            }
        }

        int lay() {
            if (fault() != NONE || readActs.isEmpty()) return NO;
            acts = readActs;
            tide = readTide;
            origin = readOrigin;
            silt = readSilt;
            year = 0;
            minute = 0;
            worths = new long[2];
            laws = new int[acts.size()];
            for (int a = 0; a < laws.length; a++) laws[a] = acts.get(a)[1];
            row.clear();
            table.clear();
            kept.clear();
            past.clear();
            return acts.size();
        }

        /** Whether a begin of HIGH (part 0) or LOW (part 1) lies in [m, m + 1): in fractions over D Q. */
        private boolean begins(long m, int part) {
            BigInteger under = BigInteger.valueOf((long) tide[1] * tide[3]);
            BigInteger length = BigInteger.valueOf((long) tide[0] * tide[3]);
            BigInteger first = BigInteger.valueOf(origin + (long) silt * year).multiply(under)
                .add(BigInteger.valueOf(part == 0 ? 0 : (long) tide[0] * tide[2]));
            BigInteger here = BigInteger.valueOf(m).multiply(under);
            BigInteger[] times = here.subtract(first).divideAndRemainder(length);
            for (int k = -1; k <= 1; k++) {
                BigInteger begin = first.add(times[0].add(BigInteger.valueOf(k)).multiply(length));
                if (begin.compareTo(here) >= 0 && begin.compareTo(here.add(under)) < 0) return true;
            }
            return false;
        }

        /** Parts (1 by D Q) from the latest begin of HIGH or LOW at m or ahead of it to m. */
        private BigInteger sinceBegin(long m, int part) {
            long under = (long) tide[1] * tide[3];
            long first = (origin + (long) silt * year) * under + (part == 0 ? 0 : (long) tide[0] * tide[2]);
            BigInteger gone = BigInteger.valueOf(m).multiply(BigInteger.valueOf(under)).subtract(BigInteger.valueOf(first));
            return gone.mod(BigInteger.valueOf((long) tide[0] * tide[3]));
        }

        /** Who rules, by the fractions alone, however far off. */
        int rulerFarOff(long m) {
            if (begins(m, 0) || begins(m, 1)) return 2;
            return sinceBegin(m, 0).compareTo(sinceBegin(m, 1)) < 0 ? 0 : 1;
        }

        /** One table of who rules for each minute of N, as N minutes are D TIDES; looked up by remainder. */
        private int[] round;
        private String roundOf = "";

        int ruler(long m) {
            String of = Arrays.toString(tide) + origin + "," + silt + "," + year;
            if (!of.equals(roundOf)) {
                roundOf = of;
                round = new int[tide[0]];
                // Far ahead of any minute, so that each begin of a TIDE has been met once.
                int ruler = -1;
                for (int i = -2 * tide[0]; i < tide[0]; i++) {
                    boolean high = begins(i, 0);
                    boolean low = begins(i, 1);
                    if (high) ruler = 0;
                    if (low) ruler = 1;
                    if (i >= 0) round[i] = high || low ? 2 : ruler;
                }
            }
            return round[(int) (m % tide[0])];
        }

        private boolean byKing(int a, long m) {
            int r = ruler(m);
            return r == 0 && (laws[a] & 1) != 0 || r == 1 && (laws[a] & 2) != 0;
        }

        boolean isLawful(int a, long m) {
            switch (acts.get(a)[0]) {
                case 0: case 2: return byKing(a, m);
                case 1:
                    for (int i = 0; i < acts.get(a)[2]; i++) if (!byKing(a, m + i)) return false;
                    return true;
                case 3: return laws[a] == 3 && ruler(m) < 2;
                default: return laws[a] > 0 && ruler(m) == 2;
            }
        }

        int taken(int a) {
            return acts.get(a)[0] == 1 || acts.get(a)[0] == 2 ? acts.get(a)[2] : 1;
        }

        int minutesOf(long m, int n, int who) {
            int sum = 0;
            for (int i = 0; i < n; i++) if (ruler(m + i) == who) sum++;
            return sum;
        }

        long first(int a, int b, long m) {
            for (int i = 0; i <= 5000; i++) if (isLawful(a, m + i) && isLawful(b, m + i)) return m + i;
            return NONE;
        }

        long soon(long m, int i) {
            long at = m;
            for (int k = 0; k < row.size(); k++) {
                at = first(row.get(k), row.get(k), at);
                if (at == NONE) return NONE;
                if (k == i) return at;
                at += taken(row.get(k));
            }
            return at;
        }

        private long[] snapshot() {
            long[] all = new long[4 + laws.length];
            all[0] = minute;
            all[1] = year;
            all[2] = worths[0];
            all[3] = worths[1];
            for (int a = 0; a < laws.length; a++) all[4 + a] = laws[a];
            return all;
        }

        private void restore(long[] all, boolean withYear) {
            minute = all[0];
            if (withYear) year = (int) all[1];
            worths[0] = all[2];
            worths[1] = all[3];
            for (int a = 0; a < laws.length; a++) laws[a] = (int) all[4 + a];
        }

        private void remember() {
            past.add(snapshot());
            if (past.size() > 8) past.remove(0);
        }

        int gain(int[] by, int king) {
            int sum = 0;
            for (int a = 0; a < by.length; a++) if (by[a] != 0) sum += acts.get(a)[3 + king] - 50;
            return sum;
        }

        int forbid(int a, int b, int king) {
            int[] by = laws.clone();
            if (a >= 0 && (by[a] & 1) != 0) by[a] -= 1;
            if (b >= 0 && (by[b] & 2) != 0) by[b] -= 2;
            return gain(by, king);
        }

        List<int[]> rests() {
            List<int[]> found = new ArrayList<>();
            for (int a = -1; a < laws.length; a++) {
                for (int b = -1; b < laws.length; b++) {
                    boolean rest = true;
                    for (int c = -1; c < laws.length; c++) {
                        rest &= forbid(c, b, 0) <= forbid(a, b, 0) && forbid(a, c, 1) <= forbid(a, b, 1);
                    }
                    if (rest) found.add(new int[] {a, b});
                }
            }
            return found;
        }

        int[] underTreaty(int set) {
            int[] by = laws.clone();
            for (int a = 0; a < by.length; a++) if ((set & 1 << a) != 0) by[a] = 3;
            return by;
        }

        boolean firm(int set) {
            for (int a = 0; a < laws.length; a++) {
                if ((set & 1 << a) == 0) continue;
                for (int king = 0; king < 2; king++) {
                    int[] by = underTreaty(set);
                    int with = gain(by, king);
                    by[a] = 0;
                    if (gain(by, king) > with) return false;
                }
            }
            return true;
        }

        int treaty(int what) {
            int best = -1;
            int most = 0;
            for (int set = 0; set < 1 << laws.length; set++) {
                int sum = gain(underTreaty(set), 0) + gain(underTreaty(set), 1);
                if (firm(set) && (best < 0 || sum > most)) {
                    best = set;
                    most = sum;
                }
            }
            return what == 0 ? best : most + 2000;
        }

        int so(int d) {
            int sum = 0;
            for (int[] line : table) if (ruler(Math.max(0, line[0] + d)) == line[1]) sum++;
            return sum;
        }

        int shift(int what) {
            int best = -31;
            for (int d = -30; d <= 30; d++) {
                if (best < -30 || so(d) > so(best) || so(d) == so(best) && Math.abs(d) < Math.abs(best)) best = d;
            }
            return what == 0 ? so(best) : best + 30;
        }

        int wreck(long m, int n, int king, int part) {
            int his = minutesOf(m, n, king);
            int both = minutesOf(m, n, 0) + minutesOf(m, n, 1);
            if (both == 0) return NONE;
            int common = BigInteger.valueOf(his).gcd(BigInteger.valueOf(both)).intValue();
            return (part == 0 ? his : both) / common;
        }

        int drawn(int z, int n) {
            int sum = 0;
            for (int i = 0; i < n; i++) {
                BigInteger x = BigInteger.valueOf(7919L * z + 6151L * i + 1);
                if (isLawful(i % acts.size(), x.multiply(x).mod(BigInteger.valueOf(65521)).longValue())) sum++;
            }
            return sum;
        }

        private boolean out(long v, long least, long most) {
            return v < least || v > most;
        }

        long answer(Object[] c) {
            int last = acts.size() - 1;
            switch ((String) c[0]) {
                case "write": {
                    int n = (int) c[1];
                    if (out(n, 1, 8)) return BAD;
                    if (text.size() + n > 400) return FULL;
                    byte[] bytes = java.nio.ByteBuffer.allocate(8).putLong((long) c[2]).array();
                    for (int i = 8 - n; i < 8; i++) text.add(bytes[i] & 255);
                    return text.size();
                }
                case "wipe": {
                    int was = text.size();
                    text.clear();
                    return was;
                }
                case "fault": return fault();
                case "lay": return lay();
                case "act": {
                    int a = (int) c[1];
                    int what = (int) c[2];
                    if (out(a, 0, last) || out(what, 0, 4)) return BAD;
                    return what == 1 ? laws[a] : acts.get(a)[what];
                }
                case "year": {
                    int y = (int) c[1];
                    if (out(y, 0, 99)) return BAD;
                    int was = year;
                    year = y;
                    return was;
                }
                case "rules": return out((long) c[1], 0, LAST) ? BAD : rulerFarOff((long) c[1]);
                case "minutes":
                    if (out((long) c[1], 0, LAST) || out((int) c[2], 0, 100000) || out((int) c[3], 0, 2)) return BAD;
                    return minutesOf((long) c[1], (int) c[2], (int) c[3]);
                case "next":
                    if (out((long) c[1], 0, LAST) || out((int) c[2], 0, 2)) return BAD;
                    for (int i = 0; i <= 2000; i++) if (ruler((long) c[1] + i) == (int) c[2]) return (long) c[1] + i;
                    return NONE;
                case "lawful":
                    if (out((int) c[1], 0, last) || out((long) c[2], 0, LAST)) return BAD;
                    return isLawful((int) c[1], (long) c[2]) ? 1 : 0;
                case "tell":
                    if (out((int) c[1], 0, last)) return BAD;
                    if (row.size() == 8) return FULL;
                    row.add((int) c[1]);
                    return row.size();
                case "noRow": {
                    int was = row.size();
                    row.clear();
                    return was;
                }
                case "soon":
                    if (out((long) c[1], 0, LAST) || out((int) c[2], -1, row.size() - 1)) return BAD;
                    return soon((long) c[1], (int) c[2]);
                case "pass":
                    if (out((int) c[1], 1, 9999)) return BAD;
                    remember();
                    minute += (int) c[1];
                    return minute;
                case "doAct": {
                    int a = (int) c[1];
                    if (out(a, 0, last)) return BAD;
                    if (!isLawful(a, minute)) return NO;
                    remember();
                    minute += taken(a);
                    for (int king = 0; king < 2; king++) worths[king] += acts.get(a)[3 + king] - 50;
                    return minute;
                }
                case "allow": {
                    int a = (int) c[1];
                    int king = (int) c[2];
                    if (out(a, 0, last) || out(king, 0, 1)) return BAD;
                    remember();
                    int bit = king == 0 ? 1 : 2;
                    int was = (laws[a] & bit) == 0 ? 0 : 1;
                    int is = (boolean) c[3] ? 1 : 0;
                    laws[a] += (is - was) * bit;
                    return was;
                }
                case "undo":
                    if (past.isEmpty()) return NO;
                    restore(past.remove(past.size() - 1), false);
                    return past.size();
                default: return answerMore(c, last);
            }
        }

        private long answerMore(Object[] c, int last) {
            switch ((String) c[0]) {
                case "gain": return out((int) c[1], 0, 1) ? BAD : gain(laws, (int) c[1]) + 1000;
                case "forbid":
                    if (out((int) c[1], -1, last) || out((int) c[2], -1, last) || out((int) c[3], 0, 1)) return BAD;
                    return forbid((int) c[1], (int) c[2], (int) c[3]) + 1000;
                case "rests": {
                    int what = (int) c[1];
                    if (out(what, 0, 2)) return BAD;
                    List<int[]> found = rests();
                    if (what == 0) return found.size();
                    return found.isEmpty() || found.get(0)[what - 1] < 0 ? NONE : found.get(0)[what - 1];
                }
                case "firm": return out((int) c[1], 0, (1 << laws.length) - 1) ? BAD : firm((int) c[1]) ? 1 : 0;
                case "treaty": return out((int) c[1], 0, 1) ? BAD : treaty((int) c[1]);
                case "bargain":
                    if (out((int) c[1], 0, last) || out((int) c[2], 0, last) || c[1].equals(c[2])) return BAD;
                    return out((long) c[3], 0, LAST) ? BAD : first((int) c[1], (int) c[2], (long) c[3]);
                case "line":
                    if (out((int) c[1], 0, 1000000) || out((int) c[2], 0, 2)) return BAD;
                    if (table.size() == 10) return FULL;
                    table.add(new int[] {(int) c[1], (int) c[2]});
                    return table.size();
                case "noTable": {
                    int was = table.size();
                    table.clear();
                    return was;
                }
                case "forged": {
                    int bits = 0;
                    for (int i = 0; i < table.size(); i++) {
                        if (ruler(table.get(i)[0]) != table.get(i)[1]) bits += 1 << i;
                    }
                    return bits;
                }
                case "shift": return out((int) c[1], 0, 1) ? BAD : shift((int) c[1]);
                case "wreck":
                    if (out((long) c[1], 0, LAST) || out((int) c[2], 1, 10000)) return BAD;
                    if (out((int) c[3], 0, 1) || out((int) c[4], 0, 1)) return BAD;
                    return wreck((long) c[1], (int) c[2], (int) c[3], (int) c[4]);
                case "drawn":
                    return out((int) c[1], 0, 9999) || out((int) c[2], 1, 200) ? BAD : drawn((int) c[1], (int) c[2]);
                case "keep":
                    if (kept.size() == 2) return FULL;
                    kept.add(snapshot());
                    return kept.size();
                case "back":
                    if (kept.isEmpty()) return NO;
                    restore(kept.remove(kept.size() - 1), true);
                    past.clear();
                    return kept.size();
                case "count": {
                    long[] all = {acts.size(), text.size(), year, row.size(), table.size(), past.size(),
                        worths[0] + 1000000, worths[1] + 1000000, kept.size()};
                    return out((int) c[1], 0, 8) ? BAD : all[(int) c[1]];
                }
                default: throw new IllegalArgumentException((String) c[0]);
            }
        }
    }
}
