/**
 * An island where one king rules at high water and another at low, with turns
 * that belong to nobody. The words in capitals are those of the document.
 */
public final class TwoKings {
    public static final int BAD = -1, NO = -2, FULL = -3, NONE = -4;

    private static final int HIGH = 0, LOW = 1, TURN = 2;
    private static final int MOMENT = 0, LASTING = 1, BEGUN = 2, OF_BOTH = 3;
    private static final int MOST_ACTS = 6;
    private static final int LAW_BITS = 2, BOTH_KINGS = 3;
    private static final long LAST_MINUTE = 1000000000000L;
    private static final int MOST_COUNTED = 100000, MOST_PASSING = 9999;
    private static final int NEXT_REACH = 2000, LAWFUL_REACH = 5000;
    private static final int ROW_ROOM = 8, UNDO_ROOM = 8, KEEP_ROOM = 2;
    private static final int LAST_YEAR = 99, LAST_TABLE_MINUTE = 1000000;
    private static final int MOST_WRECK_MINUTES = 10000;
    private static final int LAST_DRAW = 9999, MOST_DRAWS = 200;

    private final Script script;
    private final Plan draft;
    private final Plan laid;
    private final Reign now;
    private final Judge judge;
    private final Council council;
    private final Table table;
    private final Shelf past;
    private final Shelf kept;
    private final int[] row;
    private int rowLength;

    public TwoKings() {
        script = new Script();
        draft = new Plan();
        laid = new Plan();
        now = new Reign();
        judge = new Judge(laid, now);
        council = new Council(laid, now);
        table = new Table(judge);
        past = new Shelf(UNDO_ROOM);
        kept = new Shelf(KEEP_ROOM);
        row = new int[ROW_ROOM];
        laid.addFirstAct();
        now.startOver(laid.toldLaws());
    }

    // ---- islands

    public int write(int n, long v) {
        if (n < 1 || n > 8) return BAD;
        return script.append(n, v) ? script.length : FULL;
    }

    public int wipe() {
        int was = script.length;
        script.length = 0;
        return was;
    }

    public int fault() {
        return script.readInto(draft);
    }

    public int lay() {
        if (script.readInto(draft) != NONE || draft.acts == 0) return NO;
        laid.copyFrom(draft);
        now.startOver(laid.toldLaws());
        rowLength = 0;
        table.lines = 0;
        past.clear();
        kept.clear();
        return laid.acts;
    }

    public int act(int a, int what) {
        if (!isAct(a) || what < 0 || what >= Plan.ACT_NUMBERS) return BAD;
        return what == Plan.LAW ? lawOf(now.laws, a) : laid.numberOf(a, what);
    }

    public int year(int y) {
        if (y < 0 || y > LAST_YEAR) return BAD;
        int was = now.year;
        now.year = y;
        return was;
    }

    // ---- minutes

    public int rules(long m) {
        return isMinute(m) ? judge.rulerAt(m) : BAD;
    }

    public int minutes(long m, int n, int who) {
        if (!isMinute(m) || n < 0 || n > MOST_COUNTED || !isRuler(who)) return BAD;
        return judge.minutesOf(who, m, n);
    }

    public long next(long m, int who) {
        if (!isMinute(m) || !isRuler(who)) return BAD;
        return judge.firstOf(who, m);
    }

    public int lawful(int a, long m) {
        if (!isAct(a) || !isMinute(m)) return BAD;
        return judge.isLawful(a, m) ? 1 : 0;
    }

    public int tell(int a) {
        if (!isAct(a)) return BAD;
        if (rowLength < 0 || rowLength >= row.length) return FULL;
        row[rowLength] = a;
        rowLength++;
        return rowLength;
    }

    public int noRow() {
        int was = rowLength;
        rowLength = 0;
        return was;
    }

    public long soon(long m, int i) {
        if (!isMinute(m) || i < -1 || i >= rowLength) return BAD;
        long from = m;
        for (int k = 0; k < rowLength && k < row.length; k++) {
            long begin = judge.firstLawful(row[k], row[k], from);
            if (begin == NONE || k == i) return begin;
            from = begin + laid.minutesTaken(row[k]);
        }
        return from;
    }

    // ---- the island

    public long pass(int n) {
        if (n < 1 || n > MOST_PASSING) return BAD;
        past.put(now);
        now.minute += n;
        return now.minute;
    }

    public long doAct(int a) {
        if (!isAct(a)) return BAD;
        if (!judge.isLawful(a, now.minute)) return NO;
        past.put(now);
        now.minute += laid.minutesTaken(a);
        now.highWorth += laid.worth(a, HIGH);
        now.lowWorth += laid.worth(a, LOW);
        return now.minute;
    }

    public int allow(int a, int king, boolean is) {
        if (!isAct(a) || !isKing(king)) return BAD;
        int was = lawOf(now.laws, a) >> king & 1;
        past.put(now);
        now.laws = is ? now.laws | lawBits(a, 1 << king) : now.laws & ~lawBits(a, 1 << king);
        return was;
    }

    public int undo() {
        if (past.held == 0) return NO;
        // A change of the YEAR is none of what can be UNDONE, so it outlives this.
        int year = now.year;
        past.takeInto(now);
        now.year = year;
        return past.held;
    }

    // ---- kings

    public int gain(int king) {
        return isKing(king) ? council.gainUnder(now.laws, king) + 1000 : BAD;
    }

    public int forbid(int a, int b, int king) {
        if (!isActOrNone(a) || !isActOrNone(b) || !isKing(king)) return BAD;
        return council.gainIfForbidden(a, b, king) + 1000;
    }

    public int rests(int what) {
        if (what < 0 || what > 2) return BAD;
        if (what == 0) return council.restCount();
        int act = council.actOfFirstRest(what == 1 ? HIGH : LOW);
        return act < 0 ? NONE : act;
    }

    public int firm(int set) {
        if (set < 0 || set >= 1 << laid.acts) return BAD;
        return council.isFirm(set) ? 1 : 0;
    }

    public int treaty(int what) {
        if (what < 0 || what > 1) return BAD;
        int set = council.bestTreaty();
        return what == 0 ? set : council.gainsOfTreaty(set) + 2000;
    }

    public long bargain(int a, int b, long m) {
        if (!isAct(a) || !isAct(b) || a == b || !isMinute(m)) return BAD;
        return judge.firstLawful(a, b, m);
    }

    // ---- tables, wrecks, draws

    public int line(int m, int r) {
        if (m < 0 || m > LAST_TABLE_MINUTE || !isRuler(r)) return BAD;
        return table.addLine(m, r) ? table.lines : FULL;
    }

    public int noTable() {
        int was = table.lines;
        table.lines = 0;
        return was;
    }

    public int forged() {
        return table.forgedBits();
    }

    public int shift(int what) {
        if (what < 0 || what > 1) return BAD;
        int d = table.bestShift();
        return what == 0 ? table.linesSo(d) : d + Table.FARTHEST_SHIFT;
    }

    public int wreck(long m, int n, int king, int part) {
        if (!isMinute(m) || n < 1 || n > MOST_WRECK_MINUTES) return BAD;
        if (!isKing(king) || part < 0 || part > 1) return BAD;
        int his = judge.minutesOf(king, m, n);
        int both = n - judge.minutesOf(TURN, m, n);
        if (both <= 0) return NONE;
        int common = Math.max(1, greatestDivisor(both, his));
        return (part == 0 ? his : both) / common;
    }

    public int drawn(int z, int n) {
        if (z < 0 || z > LAST_DRAW || n < 1 || n > MOST_DRAWS) return BAD;
        int acts = Math.max(1, laid.acts);
        int lawful = 0;
        for (int i = 0; i < n; i++) {
            long x = 7919L * z + 6151L * i + 1;
            if (judge.isLawful(i % acts, x * x % 65521)) lawful++;
        }
        return lawful;
    }

    public int keep() {
        if (kept.held >= KEEP_ROOM) return FULL;
        kept.put(now);
        return kept.held;
    }

    public int back() {
        if (kept.held == 0) return NO;
        kept.takeInto(now);
        past.clear();
        return kept.held;
    }

    public int count(int what) {
        switch (what) {
            case 0: return laid.acts;
            case 1: return script.length;
            case 2: return now.year;
            case 3: return rowLength;
            case 4: return table.lines;
            case 5: return past.held;
            case 6: return now.highWorth + 1000000;
            case 7: return now.lowWorth + 1000000;
            case 8: return kept.held;
            default: return BAD;
        }
    }

    private boolean isAct(int a) {
        return a >= 0 && a < laid.acts;
    }

    private boolean isActOrNone(int a) {
        return a == -1 || isAct(a);
    }

    private static boolean isKing(int king) {
        return king == HIGH || king == LOW;
    }

    private static boolean isRuler(int who) {
        return who >= HIGH && who <= TURN;
    }

    private static boolean isMinute(long m) {
        return m >= 0 && m <= LAST_MINUTE;
    }

    /** The KINGS (bits) for whom an ACT is lawful, by all LAWS packed in one number. */
    private static int lawOf(int laws, int a) {
        return laws >> LAW_BITS * a & BOTH_KINGS;
    }

    /** KINGS (bits) at the place of an ACT in packed LAWS. */
    private static int lawBits(int a, int kings) {
        return kings << LAW_BITS * a;
    }

    private static int greatestDivisor(int a, int b) {
        int larger = a;
        int smaller = b;
        // Euclid's steps are fewer than 50 for any two ints.
        for (int step = 0; step < 50 && smaller > 0; step++) {
            int rest = larger % smaller;
            larger = smaller;
            smaller = rest;
        }
        return larger;
    }

    /** THE TEXT, and the reading of its ITEMS. */
    private static final class Script {
        static final int ROOM = 400, MOST_FIGURES = 3;

        private final byte[] bytes = new byte[ROOM];
        private final int[] numbers = new int[Plan.ACT_NUMBERS];
        int length;

        boolean append(int n, long v) {
            if (length + n > bytes.length) return false;
            for (int i = n - 1; i >= 0; i--) {
                bytes[length] = (byte) (v >>> 8 * i);
                length++;
            }
            return true;
        }

        /** Fills a plan from THE TEXT: FAULT, or NONE. */
        int readInto(Plan plan) {
            plan.clear();
            int at = 0;
            for (int items = 0; items < ROOM && at < length; items++) {
                int behind = readItem(at);
                if (behind == NONE || !plan.takeItem(byteAt(at), numbers)) return at;
                at = behind;
            }
            return NONE;
        }

        /** Reads the numbers of an ITEM: the place behind it, NONE if its form is wrong. */
        private int readItem(int at) {
            int wanted = Plan.numbersBehind(byteAt(at));
            if (wanted == 0) return NONE;
            int place = at + 1;
            for (int i = 0; i < wanted; i++) {
                place = readNumber(place, i);
                char due = i + 1 < wanted ? ',' : ';';
                if (place == NONE || byteAt(place) != due) return NONE;
                place++;
            }
            return place;
        }

        /** Reads the i-th number of an ITEM: the place behind it, NONE if there is no number. */
        private int readNumber(int place, int i) {
            int value = 0;
            int figures = 0;
            while (figures < MOST_FIGURES && isFigure(byteAt(place + figures))) {
                value = value * 10 + byteAt(place + figures) - '0';
                figures++;
            }
            if (figures == 0 || i < 0 || i >= numbers.length) return NONE;
            numbers[i] = value;
            return place + figures;
        }

        private static boolean isFigure(int sign) {
            return sign >= '0' && sign <= '9';
        }

        /** 0 to 255; -1 outside THE TEXT. */
        private int byteAt(int place) {
            return place >= 0 && place < length && place < bytes.length ? bytes[place] & 255 : -1;
        }
    }

    /** What a TEXT tells: the TIDES and the ACTS. */
    private static final class Plan {
        static final int ACT_NUMBERS = 5;
        static final int KIND = 0, LAW = 1, LASTS = 2, HIGH_WORTH = 3, LOW_WORTH = 4;

        private int tideOver, tideUnder, highOver, highUnder;
        private int origin, silt;
        private final int[] told = new int[MOST_ACTS * ACT_NUMBERS];
        int acts;

        Plan() {
            clear();
        }

        void clear() {
            tideOver = 745;
            tideUnder = 1;
            highOver = 1;
            highUnder = 2;
            origin = 0;
            silt = 0;
            acts = 0;
        }

        void copyFrom(Plan other) {
            tideOver = other.tideOver;
            tideUnder = other.tideUnder;
            highOver = other.highOver;
            highUnder = other.highUnder;
            origin = other.origin;
            silt = other.silt;
            acts = other.acts;
            System.arraycopy(other.told, 0, told, 0, told.length);
        }

        /** The one ACT that there is ahead of the first lay(). */
        void addFirstAct() {
            told[KIND] = MOMENT;
            told[LAW] = 1;
            told[LASTS] = 1;
            told[HIGH_WORTH] = 55;
            told[LOW_WORTH] = 55;
            acts = 1;
        }

        /** How many numbers an ITEM has by its letter; 0 if there is no such ITEM. */
        static int numbersBehind(int letter) {
            switch (letter) {
                case 't': return 4;
                case 'o': return 1;
                case 's': return 1;
                case 'a': return ACT_NUMBERS;
                default: return 0;
            }
        }

        /** Takes an ITEM over; false if its numbers are not so. */
        boolean takeItem(int letter, int[] x) {
            if (x.length < ACT_NUMBERS) return false;
            switch (letter) {
                case 't': return takeTide(x[0], x[1], x[2], x[3]);
                case 'o': return takeOrigin(x[0]);
                case 's': return takeSilt(x[0]);
                case 'a': return takeAct(x);
                default: return false;
            }
        }

        private boolean takeTide(int n, int d, int p, int q) {
            if (n < 20 || n > 999 || d < 1 || d > 20 || n < 20 * d) return false;
            if (q < 2 || q > 20 || p < 1 || p > q - 1) return false;
            tideOver = n;
            tideUnder = d;
            highOver = p;
            highUnder = q;
            return true;
        }

        private boolean takeOrigin(int o) {
            if (o < 0 || o > 999) return false;
            origin = o;
            return true;
        }

        private boolean takeSilt(int s) {
            if (s < 0 || s > 99) return false;
            silt = s;
            return true;
        }

        private boolean takeAct(int[] x) {
            if (acts < 0 || acts >= MOST_ACTS || x.length < ACT_NUMBERS) return false;
            if (x[KIND] > 4 || x[LAW] > BOTH_KINGS || x[LASTS] < 1 || x[LASTS] > 99) return false;
            if (x[HIGH_WORTH] > 99 || x[LOW_WORTH] > 99) return false;
            System.arraycopy(x, 0, told, acts * ACT_NUMBERS, ACT_NUMBERS);
            acts++;
            return true;
        }

        int numberOf(int a, int what) {
            int place = a * ACT_NUMBERS + what;
            return place >= 0 && place < told.length ? told[place] : 0;
        }

        int worth(int a, int king) {
            return numberOf(a, king == HIGH ? HIGH_WORTH : LOW_WORTH) - 50;
        }

        int minutesTaken(int a) {
            int kind = numberOf(a, KIND);
            return kind == LASTING || kind == BEGUN ? numberOf(a, LASTS) : 1;
        }

        /** The LAWS as the TEXT tells them, packed. */
        int toldLaws() {
            int laws = 0;
            for (int a = 0; a < acts; a++) laws |= lawBits(a, numberOf(a, LAW));
            return laws;
        }

        // Inside a TIDE all is measured in parts of a minute, so small that a minute,
        // a TIDE and its HIGH are whole numbers of them: nothing is ever rounded.

        int partsOfMinute() {
            return Math.max(1, tideUnder * highUnder);
        }

        int partsOfTide() {
            return Math.max(1, tideOver * highUnder);
        }

        int partsOfHigh() {
            return tideOver * highOver;
        }

        /** D TIDES last N minutes, no part more: who rules comes again as it was after these. */
        int minutesOfRound() {
            return Math.max(1, tideOver);
        }

        /** How far behind the begin of its TIDE a minute begins. */
        long partsBehindBegin(long m, int year) {
            long since = m - origin - (long) silt * year;
            return Math.floorMod(since * partsOfMinute(), (long) partsOfTide());
        }
    }

    /** THE ISLAND's minute, YEAR, LAWS and worths had. */
    private static final class Reign {
        long minute;
        int year, highWorth, lowWorth, laws;

        void startOver(int toldLaws) {
            minute = 0;
            year = 0;
            highWorth = 0;
            lowWorth = 0;
            laws = toldLaws;
        }
    }

    /** Copies of a reign, the last one taken first; when it is full, the oldest one gives way. */
    private static final class Shelf {
        private final int room;
        private final long[] minutes;
        private final int[] years, highWorths, lowWorths, laws;
        private int top;
        int held;

        Shelf(int wanted) {
            room = Math.max(1, wanted);
            minutes = new long[room];
            years = new int[room];
            highWorths = new int[room];
            lowWorths = new int[room];
            laws = new int[room];
        }

        void put(Reign reign) {
            if (top >= room) top = 0;
            minutes[top] = reign.minute;
            years[top] = reign.year;
            highWorths[top] = reign.highWorth;
            lowWorths[top] = reign.lowWorth;
            laws[top] = reign.laws;
            top++;
            held = Math.min(held + 1, room);
        }

        void takeInto(Reign reign) {
            if (held <= 0) return;
            held--;
            top = top > 0 ? top - 1 : room - 1;
            reign.minute = minutes[top];
            reign.year = years[top];
            reign.highWorth = highWorths[top];
            reign.lowWorth = lowWorths[top];
            reign.laws = laws[top];
        }

        void clear() {
            held = 0;
        }
    }

    /** Who rules when, and which ACTS are LAWFUL then. */
    private static final class Judge {
        private final Plan plan;
        private final Reign reign;

        Judge(Plan plan, Reign reign) {
            this.plan = plan;
            this.reign = reign;
        }

        int rulerAt(long m) {
            return rulerAtParts(plan.partsBehindBegin(m, reign.year));
        }

        private int rulerAtParts(long begin) {
            long end = begin + plan.partsOfMinute();
            long lowBegin = plan.partsOfHigh();
            if (begin == 0 || end > plan.partsOfTide()) return TURN;
            if (begin <= lowBegin && lowBegin < end) return TURN;
            return begin < lowBegin ? HIGH : LOW;
        }

        /**
         * How many minutes from m on have the same ruler one behind the other; for THE TURN 1.
         * Whole stretches are stepped over, for a minute at a time would be slow.
         */
        private int stretchFrom(long m) {
            long begin = plan.partsBehindBegin(m, reign.year);
            int ruler = rulerAtParts(begin);
            if (ruler == TURN) return 1;
            long end = ruler == HIGH ? plan.partsOfHigh() : plan.partsOfTide();
            return (int) Math.max(1, (end - begin) / plan.partsOfMinute());
        }

        int minutesOf(int who, long m, int n) {
            int round = plan.minutesOfRound();
            return n / round * minutesWithinRound(who, m, round) + minutesWithinRound(who, m, n % round);
        }

        private int minutesWithinRound(int who, long m, int n) {
            int found = 0;
            int step = 1;
            for (int gone = 0; gone < n; gone += Math.max(1, step)) {
                step = Math.min(stretchFrom(m + gone), n - gone);
                if (rulerAt(m + gone) == who) found += step;
            }
            return found;
        }

        long firstOf(int who, long m) {
            int reach = Math.min(NEXT_REACH, plan.minutesOfRound());
            int step = 1;
            for (int gone = 0; gone <= reach; gone += Math.max(1, step)) {
                if (rulerAt(m + gone) == who) return m + gone;
                step = stretchFrom(m + gone);
            }
            return NONE;
        }

        boolean isLawful(int a, long m) {
            int law = lawOf(reign.laws, a);
            int ruler = rulerAt(m);
            boolean byKing = ruler != TURN && (law >> ruler & 1) == 1;
            switch (plan.numberOf(a, Plan.KIND)) {
                case MOMENT:
                case BEGUN:
                    return byKing;
                case LASTING:
                    // Between two KINGS there is always THE TURN, so it lasts within one stretch.
                    return byKing && stretchFrom(m) >= plan.numberOf(a, Plan.LASTS);
                case OF_BOTH:
                    return law == BOTH_KINGS && ruler != TURN;
                default:
                    return law != 0 && ruler == TURN;
            }
        }

        /**
         * The first minute from m on in which both ACTS are LAWFUL. What is not LAWFUL as a
         * stretch begins is not later in it either, so only the begins are looked at.
         */
        long firstLawful(int a, int b, long m) {
            int reach = Math.min(LAWFUL_REACH, plan.minutesOfRound());
            int step = 1;
            for (int gone = 0; gone <= reach; gone += Math.max(1, step)) {
                if (isLawful(a, m + gone) && isLawful(b, m + gone)) return m + gone;
                step = stretchFrom(m + gone);
            }
            return NONE;
        }
    }

    /** What the KINGS gain by LAWS, choices and treaties. */
    private static final class Council {
        private final Plan plan;
        private final Reign reign;

        Council(Plan plan, Reign reign) {
            this.plan = plan;
            this.reign = reign;
        }

        int gainUnder(int laws, int king) {
            int sum = 0;
            for (int a = 0; a < plan.acts; a++) {
                if (lawOf(laws, a) != 0) sum += plan.worth(a, king);
            }
            return sum;
        }

        int gainIfForbidden(int a, int b, int king) {
            int laws = reign.laws;
            if (a >= 0) laws &= ~lawBits(a, 1 << HIGH);
            if (b >= 0) laws &= ~lawBits(b, 1 << LOW);
            return gainUnder(laws, king);
        }

        private boolean isRest(int a, int b) {
            int high = gainIfForbidden(a, b, HIGH);
            int low = gainIfForbidden(a, b, LOW);
            for (int other = -1; other < plan.acts; other++) {
                if (gainIfForbidden(other, b, HIGH) > high) return false;
                if (gainIfForbidden(a, other, LOW) > low) return false;
            }
            return true;
        }

        int restCount() {
            int rests = 0;
            for (int a = -1; a < plan.acts; a++) {
                for (int b = -1; b < plan.acts; b++) {
                    if (isRest(a, b)) rests++;
                }
            }
            return rests;
        }

        /** The ACT that a KING forbids in the first rest; -1 if he forbids none or there is no rest. */
        int actOfFirstRest(int king) {
            for (int a = -1; a < plan.acts; a++) {
                for (int b = -1; b < plan.acts; b++) {
                    if (isRest(a, b)) return king == HIGH ? a : b;
                }
            }
            return -1;
        }

        private int lawsOfTreaty(int set) {
            int laws = reign.laws;
            for (int a = 0; a < plan.acts; a++) {
                if ((set >> a & 1) == 1) laws |= lawBits(a, BOTH_KINGS);
            }
            return laws;
        }

        boolean isFirm(int set) {
            int laws = lawsOfTreaty(set);
            for (int a = 0; a < plan.acts; a++) {
                int without = laws & ~lawBits(a, BOTH_KINGS);
                if ((set >> a & 1) == 1 && suitsEither(without, laws)) return false;
            }
            return true;
        }

        /** Whether a KING at least would have more GAIN by other LAWS than by these. */
        private boolean suitsEither(int other, int these) {
            return gainUnder(other, HIGH) > gainUnder(these, HIGH)
                || gainUnder(other, LOW) > gainUnder(these, LOW);
        }

        int gainsOfTreaty(int set) {
            int laws = lawsOfTreaty(set);
            return gainUnder(laws, HIGH) + gainUnder(laws, LOW);
        }

        int bestTreaty() {
            int best = 0;
            int most = gainsOfTreaty(0);
            for (int set = 1; set < 1 << plan.acts; set++) {
                int gains = gainsOfTreaty(set);
                if (gains > most && isFirm(set)) {
                    most = gains;
                    best = set;
                }
            }
            return best;
        }
    }

    /** A TABLE: lines that say who rules a minute. */
    private static final class Table {
        static final int ROOM = 10, FARTHEST_SHIFT = 30;

        private final Judge judge;
        private final int[] minutes = new int[ROOM];
        private final int[] rulers = new int[ROOM];
        int lines;

        Table(Judge judge) {
            this.judge = judge;
        }

        boolean addLine(int m, int r) {
            if (lines < 0 || lines >= ROOM) return false;
            minutes[lines] = m;
            rulers[lines] = r;
            lines++;
            return true;
        }

        private boolean isSo(int i, int d) {
            return judge.rulerAt(Math.max(0, minutes[i] + d)) == rulers[i];
        }

        int forgedBits() {
            int bits = 0;
            for (int i = 0; i < lines && i < ROOM; i++) {
                if (!isSo(i, 0)) bits |= 1 << i;
            }
            return bits;
        }

        int linesSo(int d) {
            int so = 0;
            for (int i = 0; i < lines && i < ROOM; i++) {
                if (isSo(i, d)) so++;
            }
            return so;
        }

        /** From the nearest shift outward, the lower of two first: a later one must be better. */
        int bestShift() {
            int best = 0;
            int most = linesSo(0);
            for (int far = 1; far <= FARTHEST_SHIFT; far++) {
                for (int d = -far; d <= far; d += 2 * far) {
                    int so = linesSo(d);
                    if (so > most) {
                        most = so;
                        best = d;
                    }
                }
            }
            return best;
        }
    }
}
