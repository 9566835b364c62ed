import java.util.NoSuchElementException;

/** Drowned caves and the dives into them; ../shared/DOC.md says what each call answers. */
public final class DrownedCave {
    public static final int NONE = -1;

    private static final int SIGNS = 1000;
    private static final int PLACES = 7;
    private static final int WAYS = 8;
    private static final int DIVERS = 4;
    private static final int RAINS = 12;
    private static final int LINES = 40;
    private static final int UNDOS = 16;
    private static final int MARKS = 4;
    private static final int FINDS = 8;

    private static final int MOUTH = 0;
    private static final int MOST_GAS = 999;
    private static final int MOST_SILT = 9;
    private static final int BLIND_FROM = 6;
    private static final int WHITE_FROM = 7;

    private static final int OLD = 1;
    private static final int AFRAID = 2;
    private static final int CALM = 3;

    private static final int END = 0;
    private static final int WORD = 1;
    private static final int NUMBER = 2;
    private static final int ODD = 3;

    private static final int MISPLACED = 1;
    private static final int UNKNOWN = 2;
    private static final int AGAIN = 3;
    private static final int BEYOND = 4;
    private static final int TOO_MANY = 5;

    private final Tape tape;
    private final Reader reader;
    private Cave told;
    private Cave nextTold;
    private Dive lines;
    private Dive nextLines;
    private final State now;
    private final State trial;
    private final Memory memory;
    private final Finds finds;
    private final int[] prices;
    private final int[] ones;
    private final Paths paths;
    private final Paths[] there;
    private final Paths[] home;

    public DrownedCave() {
        tape = new Tape();
        reader = new Reader(tape);
        told = new Cave();
        nextTold = new Cave();
        lines = new Dive();
        nextLines = new Dive();
        now = new State();
        trial = new State();
        memory = new Memory();
        finds = new Finds();
        prices = new int[WAYS];
        ones = new int[WAYS];
        paths = new Paths();
        there = new Paths[DIVERS];
        home = new Paths[DIVERS];
        for (int way = 0; way < WAYS; way++) {
            ones[way] = 1;
        }
        for (int diver = 0; diver < DIVERS; diver++) {
            there[diver] = new Paths();
            home[diver] = new Paths();
        }
    }

    // ---- the tape and what is read from it

    public int feed(long a, long b, long c) {
        tape.put(a);
        tape.put(b);
        tape.put(c);
        return tape.length;
    }

    public int cave() {
        reader.begin();
        nextTold.reads(reader);
        tape.length = 0;
        if (reader.fault != 0) {
            return reader.fault;
        }
        Cave before = told;
        told = nextTold;
        nextTold = before;
        now.begin(told);
        lines.size = 0;
        finds.size = 0;
        memory.forgetAll();
        return 0;
    }

    public int dive() {
        reader.begin();
        nextLines.reads(reader, told);
        tape.length = 0;
        if (reader.fault != 0) {
            return reader.fault;
        }
        Dive before = lines;
        lines = nextLines;
        nextLines = before;
        return 0;
    }

    // ---- what is there

    public int place(int place, int what) {
        if (!told.hasPlace(place)) {
            return NONE;
        }
        switch (what) {
            case 0: return told.depths[place];
            case 1: return now.staged[place];
            case 2: return now.diversAt(told, place);
            default: return NONE;
        }
    }

    public int way(int way, int what) {
        if (!told.hasWay(way)) {
            return NONE;
        }
        switch (what) {
            case 0: return told.oneEnds[way];
            case 1: return told.otherEnds[way];
            case 2: return told.lengths[way];
            case 3: return told.narrow[way] ? 1 : 0;
            case 4: return now.silt[way];
            case 5: return now.hasThread(way) ? 1 : 0;
            case 6: return now.isBlind(told, way) ? 1 : 0;
            default: return NONE;
        }
    }

    public int diver(int diver, int what) {
        if (!told.hasDiver(diver)) {
            return -2;
        }
        switch (what) {
            case 0: return told.kinds[diver];
            case 1: return now.at[diver];
            case 2: return now.gas[diver];
            case 3: return now.under[diver];
            case 4: return now.isDrowned(diver) ? 1 : 0;
            default: return -2;
        }
    }

    public int cost(int diver, int way) {
        if (!told.hasDiver(diver) || !told.hasWay(way)) {
            return NONE;
        }
        return now.price(told, diver, way, now.under[diver]);
    }

    // ---- what is done, and undone

    public int swim(int diver, int way) {
        memory.hold(now);
        if (!now.swims(told, diver, way)) {
            return NONE;
        }
        memory.keep();
        return now.at[diver];
    }

    public int lay(int diver, int way) {
        memory.hold(now);
        if (!now.lays(told, diver, way)) {
            return NONE;
        }
        memory.keep();
        return now.at[diver];
    }

    public int stage(int diver, int gas) {
        memory.hold(now);
        if (!now.leaves(told, diver, gas)) {
            return NONE;
        }
        memory.keep();
        return now.staged[now.at[diver]];
    }

    public int take(int diver, int gas) {
        memory.hold(now);
        if (!now.picks(told, diver, gas)) {
            return NONE;
        }
        memory.keep();
        return now.gas[diver];
    }

    public boolean share(int diver, int other, int gas) {
        memory.hold(now);
        boolean done = now.gives(told, diver, other, gas);
        if (done) {
            memory.keep();
        }
        return done;
    }

    public boolean stone(int way) {
        memory.hold(now);
        boolean done = now.cuts(told, way);
        if (done) {
            memory.keep();
        }
        return done;
    }

    public int hour() {
        memory.hold(now);
        memory.keep();
        return now.passesHour(told);
    }

    public boolean undo() {
        return memory.takesBack(now);
    }

    public int judged(int what) {
        if (what < 0 || what > 2) {
            return -2;
        }
        trial.begin(told);
        int firstBad = NONE;
        int firstDeath = NONE;
        for (int line = 0; line < lines.size; line++) {
            int before = trial.drowned;
            if (!trial.follows(told, lines, line) && firstBad == NONE) {
                firstBad = line;
            }
            if (trial.drowned != before && firstDeath == NONE) {
                firstDeath = line;
            }
        }
        return what == 0 ? firstBad : what == 1 ? firstDeath : Integer.bitCount(trial.drowned);
    }

    // ---- ways out

    public int open() {
        return now.openWays(told);
    }

    public int needs(int diver, int place) {
        if (!told.hasDiver(diver) || !told.hasPlace(place)) {
            return NONE;
        }
        measure(diver);
        return there[diver].least[place];
    }

    public int out(int diver) {
        return leastOut(diver);
    }

    public boolean thirds(int diver) {
        int least = leastOut(diver);
        return least != NONE && !now.isDrowned(diver) && 3 * least <= now.gas[diver];
    }

    public int can() {
        int bits = 0;
        for (int diver = 0; diver < told.divers; diver++) {
            int least = leastOut(diver);
            if (least != NONE && !now.isDrowned(diver) && least <= now.gas[diver]) {
                bits |= 1 << diver;
            }
        }
        return bits;
    }

    public int reaches(int diver) {
        return told.hasDiver(diver) ? reachOf(diver) : NONE;
    }

    public int deepest(int diver) {
        if (!told.hasDiver(diver)) {
            return NONE;
        }
        int bits = reachOf(diver);
        int best = NONE;
        for (int place = 0; place < told.places; place++) {
            if (isIn(bits, place) && (best == NONE || told.depths[place] > told.depths[best])) {
                best = place;
            }
        }
        return best;
    }

    public int all() {
        int bits = (1 << told.places) - 1;
        for (int diver = 0; diver < told.divers; diver++) {
            if (!now.isDrowned(diver)) {
                bits &= reachOf(diver);
            }
        }
        return bits;
    }

    public int sure() {
        int alive = 0;
        for (int diver = 0; diver < told.divers; diver++) {
            if (!now.isDrowned(diver)) {
                measure(diver);
                alive++;
            }
        }
        int bits = 0;
        for (int place = 0; alive > 0 && place < told.places; place++) {
            if (outliveOne(place)) {
                bits |= 1 << place;
            }
        }
        return bits;
    }

    public int lacks(int diver, int place) {
        if (!told.hasDiver(diver) || !told.hasPlace(place) || now.isDrowned(diver)) {
            return NONE;
        }
        measure(diver);
        int trip = roundTrip(diver, place);
        return trip == NONE ? NONE : Math.max(0, trip - now.gas[diver]);
    }

    public int clear(int way) {
        if (!told.hasWay(way)) {
            return NONE;
        }
        int silt = now.silt[way];
        for (int hours = 0; hours <= 60; hours++) {
            int rain = told.rainAt(now.hour + hours);
            if (silt + rain < BLIND_FROM) {
                return hours;
            }
            silt = settled(silt, rain);
        }
        return NONE;
    }

    public int led() {
        paths.spread(told, MOUTH, now.thread, ones);
        return paths.reached();
    }

    public int lost() {
        paths.spread(told, MOUTH, now.openWays(told), ones);
        int bits = 0;
        for (int diver = 0; diver < told.divers; diver++) {
            boolean comesOut = told.hasPlace(now.at[diver]) && paths.least[now.at[diver]] != NONE;
            if (!comesOut && !now.isDrowned(diver)) {
                bits |= 1 << diver;
            }
        }
        return bits;
    }

    public int worst() {
        int best = NONE;
        int fewest = 0;
        for (int way = 0; way < told.ways; way++) {
            paths.spread(told, MOUTH, told.allWays() & ~(1 << way), ones);
            int left = Integer.bitCount(paths.reached());
            if (best == NONE || left < fewest) {
                best = way;
                fewest = left;
            }
        }
        return best;
    }

    public int near(int diver, int other) {
        if (!told.hasDiver(diver) || !told.hasDiver(other) || diver == other) {
            return NONE;
        }
        int goal = now.at[other];
        if (!told.hasPlace(goal)) {
            return NONE;
        }
        measure(diver);
        return there[diver].least[goal];
    }

    public int lasts(int diver) {
        if (!told.hasDiver(diver) || now.isDrowned(diver) || !now.isUnderWater(told, diver)) {
            return NONE;
        }
        int gas = now.gas[diver];
        for (int hours = 0; hours < 99; hours++) {
            int breath = now.breathAhead(told, diver, hours);
            if (gas < breath) {
                return hours + 1;
            }
            gas -= breath;
        }
        return NONE;
    }

    public int tie() {
        paths.spread(told, MOUTH, told.allWays(), ones);
        int missing = paths.reached();
        int knots = NONE;
        for (int place = 0; place < told.places; place++) {
            if (isIn(missing, place)) {
                paths.spread(told, place, now.thread, ones);
                missing &= ~paths.reached();
                knots++;
            }
        }
        return Math.max(0, knots);
    }

    // ---- who it was

    public boolean find(int place, int gas) {
        if (!told.hasPlace(place) || gas < 0 || gas > 9999) {
            return false;
        }
        return finds.adds(place, gas);
    }

    public int who() {
        int bits = 0;
        for (int diver = 0; diver < told.divers; diver++) {
            measureFresh(diver);
            if (finds.fit(there[diver])) {
                bits |= 1 << diver;
            }
        }
        return bits;
    }

    public int ask() {
        int suspects = who();
        int best = NONE;
        int fewest = Integer.bitCount(suspects);
        for (int place = 0; place < told.places; place++) {
            int alike = mostAlike(suspects, place);
            if (alike < fewest) {
                best = place;
                fewest = alike;
            }
        }
        return best;
    }

    // ---- small questions

    public int bell() {
        int best = NONE;
        for (int place = 0; place < told.places; place++) {
            if (now.staged[place] > (best == NONE ? 0 : now.staged[best])) {
                best = place;
            }
        }
        return best;
    }

    public int slate() {
        int best = NONE;
        for (int diver = 0; diver < told.divers; diver++) {
            if (!now.isDrowned(diver) && (best == NONE || now.gas[diver] < now.gas[best])) {
                best = diver;
            }
        }
        return best;
    }

    public int together() {
        int pairs = 0;
        for (int diver = 0; diver < told.divers; diver++) {
            for (int other = 0; other < diver; other++) {
                if (now.at[diver] != NONE && now.at[diver] == now.at[other]) {
                    pairs++;
                }
            }
        }
        return pairs;
    }

    public int spent() {
        return now.breathed;
    }

    public int far(int place) {
        if (!told.hasPlace(place)) {
            return NONE;
        }
        paths.spread(told, MOUTH, told.allWays(), ones);
        return paths.least[place];
    }

    public int lean(int diver) {
        if (!told.hasDiver(diver)) {
            return NONE;
        }
        int best = NONE;
        int least = 0;
        for (int way = 0; way < told.ways; way++) {
            if (now.isOpen(told, way) && told.acrossFrom(way, now.at[diver]) != NONE) {
                int price = now.price(told, diver, way, now.under[diver]);
                if (best == NONE || price < least) {
                    best = way;
                    least = price;
                }
            }
        }
        return best;
    }

    // ---- odds, rests, draws

    public int chance(int way, int hours, int odds) {
        if (!told.hasWay(way) || hours < 1 || hours > 6 || odds < 0 || odds > 10) {
            return NONE;
        }
        long whole = 10;
        for (int hour = 0; hour < hours; hour++) {
            whole *= 10;
        }
        return (int) (blindWeight(now.silt[way], hours, odds) * 1000000 / whole);
    }

    public int rests(int lose, int goes, int yields, int what) throws NoSuchElementException {
        if (!isDigit(lose) || !isDigit(goes) || !isDigit(yields) || what < NONE) {
            throw new NoSuchElementException();
        }
        int found = 0;
        for (int pair = 0; pair < 4; pair++) {
            if (isRest(pair, lose, goes, yields)) {
                if (found == what) {
                    return pair;
                }
                found++;
            }
        }
        if (what != NONE) {
            throw new NoSuchElementException();
        }
        return found;
    }

    public int years(int seed, int steps, int what) {
        if (seed < 0 || seed > 9999 || steps < 1 || steps > 99 || what < 0 || what > 2) {
            return NONE;
        }
        trial.become(now);
        int moves = told.divers > 0 && told.ways > 0 ? drawYears(seed, steps) : 0;
        return what == 0 ? moves : what == 1 ? trial.drowned : sum(trial.gas);
    }

    public boolean mark(int mark, boolean back) {
        if (mark < 0 || mark >= MARKS) {
            return false;
        }
        if (back) {
            return memory.returnsTo(mark, now, finds);
        }
        memory.remembers(mark, now, finds);
        return true;
    }

    public int count(int what) {
        switch (what) {
            case 0: return told.places;
            case 1: return told.ways;
            case 2: return told.divers;
            case 3: return now.hour;
            case 4: return told.rainAt(now.hour);
            case 5: return now.drowned;
            case 6: return now.thread;
            case 7: return sum(now.silt);
            case 8: return sum(now.gas);
            case 9: return sum(now.staged);
            case 10: return lines.size;
            case 11: return finds.size;
            case 12: return memory.kept;
            case 13: return tape.length;
            default: return NONE;
        }
    }

    // ---- what several calls ask

    /** Prices the ways once for a diver: the law of breath may be a thousand signs long. */
    private void measure(int diver) {
        for (int way = 0; way < told.ways; way++) {
            prices[way] = now.price(told, diver, way, now.under[diver]);
        }
        int ways = now.openWays(told);
        there[diver].spread(told, now.at[diver], ways, prices);
        home[diver].spread(told, MOUTH, ways, prices);
    }

    private void measureFresh(int diver) {
        for (int way = 0; way < told.ways; way++) {
            prices[way] = now.price(told, diver, way, 0);
        }
        there[diver].spread(told, MOUTH, told.allWays(), prices);
    }

    private int leastOut(int diver) {
        if (!told.hasDiver(diver)) {
            return NONE;
        }
        measure(diver);
        return there[diver].least[MOUTH];
    }

    /** Needs measure(diver) ahead; a way costs the same from either end, so home tells the way back. */
    private int roundTrip(int diver, int place) {
        int go = there[diver].least[place];
        int back = home[diver].least[place];
        return go == NONE || back == NONE ? NONE : go + back;
    }

    private int reachOf(int diver) {
        if (now.isDrowned(diver)) {
            return 0;
        }
        measure(diver);
        int bits = 0;
        for (int place = 0; place < told.places; place++) {
            int trip = roundTrip(diver, place);
            if (trip != NONE && trip <= now.gas[diver]) {
                bits |= 1 << place;
            }
        }
        return bits;
    }

    /** Needs measure(..) of all who are alive ahead. */
    private boolean outliveOne(int place) {
        int left = 0;
        int most = 0;
        int need = 0;
        for (int diver = 0; diver < told.divers; diver++) {
            if (!now.isDrowned(diver)) {
                int rest = now.gas[diver] - there[diver].least[place];
                if (roundTrip(diver, place) == NONE || rest < 0) {
                    return false;
                }
                left += rest;
                most = Math.max(most, rest);
                need += home[diver].least[place];
            }
        }
        return left - most >= need;
    }

    /** Needs measureFresh(..) of all ahead; who can't come there at all has NONE, and so all are alike. */
    private int mostAlike(int suspects, int place) {
        int most = 0;
        for (int diver = 0; diver < told.divers; diver++) {
            int alike = 0;
            for (int other = 0; other < told.divers; other++) {
                boolean both = isIn(suspects, diver) && isIn(suspects, other);
                if (both && there[diver].least[place] == there[other].least[place]) {
                    alike++;
                }
            }
            most = Math.max(most, alike);
        }
        return most;
    }

    private int drawYears(int seed, int steps) {
        long g = seed;
        int moves = 0;
        for (int step = 0; step < steps; step++) {
            g = drawn(g);
            int diver = below(g, told.divers);
            g = drawn(g);
            int way = below(g, told.ways);
            g = drawn(g);
            int deed = below(g, 4);
            if (deed == 3) {
                trial.passesHour(told);
            } else if (deed == 0 ? trial.lays(told, diver, way) : trial.swims(told, diver, way)) {
                moves++;
            }
        }
        return moves;
    }

    private static long drawn(long g) {
        return (g * 1103515245L + 12345L) % 2147483648L;
    }

    private static int below(long g, int bound) {
        return bound > 0 ? (int) (g / 65536 % bound) : 0;
    }

    /** In how many of 10 to the power of hours + 1 equal cases the silt and rain blind at last. */
    private static long blindWeight(int silt, int hours, int odds) {
        if (hours <= 0) {
            return odds + (silt >= BLIND_FROM ? 10 - odds : 0);
        }
        return odds * blindWeight(settled(silt, 9), hours - 1, odds)
            + (10 - odds) * blindWeight(settled(silt, 0), hours - 1, odds);
    }

    private static int settled(int silt, int rain) {
        return rain >= WHITE_FROM ? Math.min(MOST_SILT, silt + 1) : Math.max(0, silt - 1);
    }

    private static boolean isRest(int pair, int lose, int goes, int yields) {
        int first = pair / 2;
        int second = pair % 2;
        return gain(first, second, lose, goes, yields) >= gain(1 - first, second, lose, goes, yields)
            && gain(second, first, lose, goes, yields) >= gain(1 - second, first, lose, goes, yields);
    }

    private static int gain(int mine, int others, int lose, int goes, int yields) {
        if (mine == 1) {
            return others == 1 ? -lose : goes;
        }
        return others == 1 ? yields : 0;
    }

    private static boolean isDigit(int number) {
        return number >= 0 && number <= 9;
    }

    private static boolean isIn(int bits, int i) {
        return (bits >> i & 1) != 0;
    }

    private static int sum(int[] row) {
        int sum = 0;
        for (int i = 0; i < row.length; i++) {
            sum += row[i];
        }
        return sum;
    }

    /** The words that mean something; all others, and the facts, can be NAMES. */
    private enum Word {
        PLACE("place"), DEEP("deep"), WAY("way"), LONG("long"), DIVER("diver"), GAS("gas"),
        RAIN("rain"), BREATH("breath"), NARROW("narrow"), WIDE("wide"),
        SWIM("swim"), LAY("lay"), STAGE("stage"), TAKE("take"), SHARE("share"), STONE("stone"), HOUR("hour"),
        PLAIN("plain"), OLD("old"), AFRAID("afraid"), CALM("calm"), NOT("not"), AND("and"), OR("or"),
        DEPTH("depth"), WHITE("white"), SILT("silt"), HOURS("hours");

        private static final Word[] KNOWN = values();

        private final long code;

        Word(String letters) {
            long packed = 0;
            for (int i = 0; i < letters.length(); i++) {
                packed = withLetter(packed, letters.charAt(i));
            }
            code = packed;
        }

        /** Eight letters of five bits fit into a long, so that words are compared as numbers. */
        static long withLetter(long code, char letter) {
            return code * 32 + (letter - 'a' + 1);
        }

        static Word of(long code) {
            for (int i = 0; i < KNOWN.length; i++) {
                if (KNOWN[i].code == code) {
                    return KNOWN[i];
                }
            }
            return null;
        }

        boolean isFact() {
            return this == DEPTH || this == WHITE || this == SILT || this == HOURS;
        }
    }

    /** The signs fed and not read yet, and the token that is looked at. */
    private static final class Tape {
        private final char[] signs = new char[SIGNS];
        private int length;
        private int start;
        private int behind;
        /** END, WORD, NUMBER, ODD, or the sign itself, which is none of these numbers. */
        private int kind;
        private long code;
        private Word word;
        private int number;

        void put(long eight) {
            for (int shift = 56; shift >= 0; shift -= 8) {
                int sign = (int) (eight >> shift) & 255;
                boolean counts = sign == 10 || sign >= 32 && sign <= 126;
                if (counts && length < SIGNS) {
                    signs[length] = (char) sign;
                    length++;
                }
            }
        }

        void rewind() {
            behind = 0;
            next();
        }

        void next() {
            start = behind;
            while (start < length && (signs[start] == 10 || signs[start] == 32)) {
                start++;
            }
            behind = start;
            kind = END;
            word = null;
            if (start < length) {
                char sign = signs[start];
                if (isLetter(sign)) {
                    scanWord();
                } else if (isFigure(sign)) {
                    scanNumber();
                } else {
                    behind++;
                    kind = isSign(sign) ? sign : ODD;
                }
            }
        }

        private void scanWord() {
            code = 0;
            while (behind < length && isLetter(signs[behind])) {
                code = Word.withLetter(code, signs[behind]);
                behind++;
            }
            kind = behind - start > 8 ? ODD : WORD;
            word = kind == WORD ? Word.of(code) : null;
        }

        private void scanNumber() {
            number = 0;
            while (behind < length && isFigure(signs[behind])) {
                number = number * 10 + (signs[behind] - '0');
                behind++;
            }
            kind = behind - start > 4 ? ODD : NUMBER;
        }

        private static boolean isLetter(char sign) {
            return sign >= 'a' && sign <= 'z';
        }

        private static boolean isFigure(char sign) {
            return sign >= '0' && sign <= '9';
        }

        private static boolean isSign(char sign) {
            return "()<=+-*;".indexOf(sign) >= 0;
        }
    }

    /** Takes tokens that must stand where they are, and keeps the first FAULT. */
    private static final class Reader {
        private final Tape tape;
        private int fault;
        /** The last NUMBER that was taken. */
        private int number;

        Reader(Tape tape) {
            this.tape = tape;
        }

        void begin() {
            fault = 0;
            tape.rewind();
        }

        boolean wrong(int kind) {
            fault = kind + 16 * tape.start;
            return false;
        }

        boolean takesWord(Word word) {
            if (tape.word != word) {
                return wrong(MISPLACED);
            }
            tape.next();
            return true;
        }

        boolean takesSign(char sign) {
            if (tape.kind != sign) {
                return wrong(MISPLACED);
            }
            tape.next();
            return true;
        }

        boolean takesNumber(int least, int most) {
            if (tape.kind != NUMBER) {
                return wrong(MISPLACED);
            }
            if (tape.number < least || tape.number > most) {
                return wrong(BEYOND);
            }
            number = tape.number;
            tape.next();
            return true;
        }

        boolean seesName() {
            if (tape.kind != WORD || tape.word != null && !tape.word.isFact()) {
                return wrong(MISPLACED);
            }
            return true;
        }
    }

    /** An E, written so that what is joined stands ahead of what joins it. */
    private static final class Law {
        private static final int DEPTH = -1;
        private static final int WHITE = -2;
        private static final int SILT = -3;
        private static final int HOURS = -4;
        private static final int NOT = -5;
        private static final int AND = -6;
        private static final int OR = -7;
        private static final int LESS = -8;
        private static final int SAME = -9;
        private static final int PLUS = -10;
        private static final int MINUS = -11;
        private static final int TIMES = -12;
        private static final int NESTED = 5;
        /** Each of five levels leaves four values waiting at most: of or, <, + and *. */
        private static final int WAITING = 24;

        private final int[] code = new int[SIGNS];
        private final int[] stack = new int[WAITING];
        private int size;

        void becomeUsual() {
            size = 0;
            put(1);
            put(DEPTH);
            put(PLUS);
        }

        private void put(int step) {
            if (size < code.length) {
                code[size] = step;
                size++;
            }
        }

        private boolean readsTests(Reader reader, int depth) {
            boolean fine = readsTest(reader, depth);
            for (int i = 0; fine && i < SIGNS; i++) {
                Word word = reader.tape.word;
                if (word != Word.AND && word != Word.OR) {
                    return true;
                }
                reader.tape.next();
                fine = readsTest(reader, depth);
                put(word == Word.AND ? AND : OR);
            }
            return fine;
        }

        private boolean readsTest(Reader reader, int depth) {
            boolean fine = readsSum(reader, depth);
            int sign = reader.tape.kind;
            if (!fine || sign != '<' && sign != '=') {
                return fine;
            }
            reader.tape.next();
            fine = readsSum(reader, depth);
            put(sign == '<' ? LESS : SAME);
            return fine;
        }

        private boolean readsSum(Reader reader, int depth) {
            boolean fine = readsProduct(reader, depth);
            for (int i = 0; fine && i < SIGNS; i++) {
                int sign = reader.tape.kind;
                if (sign != '+' && sign != '-') {
                    return true;
                }
                reader.tape.next();
                fine = readsProduct(reader, depth);
                put(sign == '+' ? PLUS : MINUS);
            }
            return fine;
        }

        private boolean readsProduct(Reader reader, int depth) {
            boolean fine = readsPart(reader, depth);
            for (int i = 0; fine && i < SIGNS; i++) {
                if (reader.tape.kind != '*') {
                    return true;
                }
                reader.tape.next();
                fine = readsPart(reader, depth);
                put(TIMES);
            }
            return fine;
        }

        private boolean readsPart(Reader reader, int depth) {
            Tape tape = reader.tape;
            boolean isNot = tape.word == Word.NOT;
            boolean isGroup = tape.kind == '(';
            boolean isFact = tape.word != null && tape.word.isFact();
            if (!isNot && !isGroup && !isFact && tape.kind != NUMBER) {
                return reader.wrong(MISPLACED);
            }
            if (depth >= NESTED) {
                return reader.wrong(TOO_MANY);
            }
            if (isFact || tape.kind == NUMBER) {
                put(isFact ? factOf(tape.word) : tape.number);
                tape.next();
                return true;
            }
            tape.next();
            if (!isGroup) {
                boolean fine = readsPart(reader, depth + 1);
                put(NOT);
                return fine;
            }
            if (!readsTests(reader, depth + 1)) {
                return false;
            }
            if (tape.kind != ')') {
                return reader.wrong(MISPLACED);
            }
            tape.next();
            return true;
        }

        private static int factOf(Word word) {
            return word == Word.DEPTH ? DEPTH : word == Word.WHITE ? WHITE : word == Word.SILT ? SILT : HOURS;
        }

        int value(int depth, int white, int silt, int hours) {
            int top = 0;
            for (int i = 0; i < size; i++) {
                int step = code[i];
                if (step >= HOURS && top < WAITING) {
                    stack[top] = stood(step, depth, white, silt, hours);
                    top++;
                } else if (step == NOT && top >= 1) {
                    stack[top - 1] = stack[top - 1] == 0 ? 1 : 0;
                } else if (step < NOT && top >= 2) {
                    top--;
                    stack[top - 1] = joined(step, stack[top - 1], stack[top]);
                }
            }
            return stack[0];
        }

        private static int stood(int step, int depth, int white, int silt, int hours) {
            switch (step) {
                case DEPTH: return depth;
                case WHITE: return white;
                case SILT: return silt;
                case HOURS: return hours;
                default: return step;
            }
        }

        private static int joined(int step, int left, int right) {
            switch (step) {
                case AND: return left != 0 && right != 0 ? 1 : 0;
                case OR: return left != 0 || right != 0 ? 1 : 0;
                case LESS: return left < right ? 1 : 0;
                case SAME: return left == right ? 1 : 0;
                case PLUS: return left + right;
                case MINUS: return left - right;
                default: return left * right;
            }
        }
    }

    /** What a CAVE tells; it stays while it is the CAVE. */
    private static final class Cave {
        private int places;
        private final long[] placeNames = new long[PLACES];
        private final int[] depths = new int[PLACES];
        private int ways;
        private final int[] oneEnds = new int[WAYS];
        private final int[] otherEnds = new int[WAYS];
        private final int[] lengths = new int[WAYS];
        private final boolean[] narrow = new boolean[WAYS];
        private int divers;
        private final long[] diverNames = new long[DIVERS];
        private final int[] kinds = new int[DIVERS];
        private final int[] tanks = new int[DIVERS];
        private int rains;
        private final int[] rain = new int[RAINS];
        private boolean lawTold;
        private final Law law = new Law();

        void reads(Reader reader) {
            places = 0;
            ways = 0;
            divers = 0;
            rains = 0;
            lawTold = false;
            law.becomeUsual();
            boolean fine = true;
            for (int line = 0; fine && line < SIGNS && reader.tape.kind != END; line++) {
                fine = readsLine(reader) && reader.takesSign(';');
            }
        }

        private boolean readsLine(Reader reader) {
            Word word = reader.tape.word;
            if (word == Word.PLACE) {
                return places < PLACES ? readsPlace(reader) : reader.wrong(TOO_MANY);
            }
            if (word == Word.WAY) {
                return ways < WAYS ? readsWay(reader) : reader.wrong(TOO_MANY);
            }
            if (word == Word.DIVER) {
                return divers < DIVERS ? readsDiver(reader) : reader.wrong(TOO_MANY);
            }
            if (word == Word.RAIN) {
                return rains == 0 ? readsRain(reader) : reader.wrong(AGAIN);
            }
            if (word == Word.BREATH) {
                return lawTold ? reader.wrong(AGAIN) : readsBreath(reader);
            }
            return reader.wrong(MISPLACED);
        }

        private boolean readsPlace(Reader reader) {
            reader.tape.next();
            long name = reader.tape.code;
            if (!takesNewName(reader) || !reader.takesWord(Word.DEEP) || !reader.takesNumber(0, 9)) {
                return false;
            }
            placeNames[places] = name;
            depths[places] = reader.number;
            places++;
            return true;
        }

        private boolean readsWay(Reader reader) {
            reader.tape.next();
            int one = placeNamed(reader.tape.code);
            if (!takesPlace(reader, NONE)) {
                return false;
            }
            int other = placeNamed(reader.tape.code);
            if (!takesPlace(reader, one)) {
                return false;
            }
            boolean isNarrow = reader.tape.word == Word.NARROW;
            if (!reader.takesWord(isNarrow ? Word.NARROW : Word.WIDE)) {
                return false;
            }
            if (!reader.takesWord(Word.LONG) || !reader.takesNumber(1, 9)) {
                return false;
            }
            oneEnds[ways] = one;
            otherEnds[ways] = other;
            narrow[ways] = isNarrow;
            lengths[ways] = reader.number;
            ways++;
            return true;
        }

        private boolean readsDiver(Reader reader) {
            reader.tape.next();
            long name = reader.tape.code;
            if (!takesNewName(reader)) {
                return false;
            }
            int kind = kindOf(reader.tape.word);
            if (kind == NONE) {
                return reader.wrong(MISPLACED);
            }
            reader.tape.next();
            if (!reader.takesWord(Word.GAS) || !reader.takesNumber(1, 900)) {
                return false;
            }
            diverNames[divers] = name;
            kinds[divers] = kind;
            tanks[divers] = reader.number;
            divers++;
            return true;
        }

        private boolean readsRain(Reader reader) {
            reader.tape.next();
            boolean fine = true;
            while (fine && rains < RAINS && (rains == 0 || reader.tape.kind == NUMBER)) {
                fine = reader.takesNumber(0, 9);
                rain[rains] = reader.number;
                rains++;
            }
            if (fine && reader.tape.kind == NUMBER) {
                return reader.wrong(reader.tape.number > 9 ? BEYOND : TOO_MANY);
            }
            return fine;
        }

        private boolean readsBreath(Reader reader) {
            lawTold = true;
            law.size = 0;
            reader.tape.next();
            return law.readsTests(reader, 0);
        }

        private boolean takesNewName(Reader reader) {
            if (!reader.seesName()) {
                return false;
            }
            long name = reader.tape.code;
            if (placeNamed(name) != NONE || diverNamed(name) != NONE) {
                return reader.wrong(AGAIN);
            }
            reader.tape.next();
            return true;
        }

        /** For a way's other end its one end is given too: the two must not be joined yet; else NONE. */
        private boolean takesPlace(Reader reader, int one) {
            if (!reader.seesName()) {
                return false;
            }
            int place = placeNamed(reader.tape.code);
            if (place == NONE) {
                return reader.wrong(UNKNOWN);
            }
            if (place == one || areJoined(place, one)) {
                return reader.wrong(AGAIN);
            }
            reader.tape.next();
            return true;
        }

        private boolean areJoined(int place, int one) {
            for (int way = 0; way < ways; way++) {
                if (one != NONE && acrossFrom(way, one) == place) {
                    return true;
                }
            }
            return false;
        }

        private int placeNamed(long name) {
            for (int place = 0; place < places; place++) {
                if (placeNames[place] == name) {
                    return place;
                }
            }
            return NONE;
        }

        int diverNamed(long name) {
            for (int diver = 0; diver < divers; diver++) {
                if (diverNames[diver] == name) {
                    return diver;
                }
            }
            return NONE;
        }

        private static int kindOf(Word word) {
            return word == Word.PLAIN ? 0 : word == Word.OLD ? OLD : word == Word.AFRAID ? AFRAID
                : word == Word.CALM ? CALM : NONE;
        }

        boolean hasPlace(int place) {
            return place >= 0 && place < places;
        }

        boolean hasWay(int way) {
            return way >= 0 && way < ways;
        }

        boolean hasDiver(int diver) {
            return diver >= 0 && diver < divers;
        }

        int allWays() {
            return (1 << ways) - 1;
        }

        /** The end of a way that is not this one; NONE, if this one is no end of it. */
        int acrossFrom(int way, int end) {
            return oneEnds[way] == end ? otherEnds[way] : otherEnds[way] == end ? oneEnds[way] : NONE;
        }

        int rainAt(int hour) {
            return rains > 0 ? rain[hour % rains] : 0;
        }

        int depthOf(int way) {
            return Math.max(depths[oneEnds[way]], depths[otherEnds[way]]);
        }

        int breathOf(int diver, int depth, int white, int silt, int hours) {
            int kind = kinds[diver];
            int breath = Math.max(1, Math.min(20, law.value(depth, white, silt, kind == CALM ? 0 : hours)));
            if (kind == OLD) {
                return Math.max(1, breath - 1);
            }
            if (kind == AFRAID) {
                return breath + (depth > 4 ? 2 : 1);
            }
            return breath;
        }
    }

    /** The lines of a DIVE. */
    private static final class Dive {
        private int size;
        private final Word[] deeds = new Word[LINES];
        private final int[] firsts = new int[LINES];
        private final int[] seconds = new int[LINES];
        private final int[] numbers = new int[LINES];

        void reads(Reader reader, Cave cave) {
            size = 0;
            boolean fine = true;
            for (int line = 0; fine && line <= LINES && reader.tape.kind != END; line++) {
                fine = readsLine(reader, cave) && reader.takesSign(';');
            }
        }

        private boolean readsLine(Reader reader, Cave cave) {
            Word deed = reader.tape.word;
            if (!isDeed(deed)) {
                return reader.wrong(MISPLACED);
            }
            if (size >= LINES) {
                return reader.wrong(TOO_MANY);
            }
            reader.tape.next();
            boolean fine = true;
            if (deed != Word.STONE && deed != Word.HOUR) {
                firsts[size] = cave.diverNamed(reader.tape.code);
                fine = takesDiver(reader, cave, NONE);
            }
            if (fine && deed == Word.SHARE) {
                seconds[size] = cave.diverNamed(reader.tape.code);
                fine = takesDiver(reader, cave, firsts[size]);
            }
            if (fine && deed != Word.HOUR) {
                boolean isByWay = deed == Word.SWIM || deed == Word.LAY || deed == Word.STONE;
                fine = isByWay ? reader.takesNumber(0, WAYS - 1) : reader.takesNumber(1, 99);
                numbers[size] = reader.number;
            }
            deeds[size] = deed;
            size++;
            return fine;
        }

        private static boolean isDeed(Word word) {
            return word == Word.SWIM || word == Word.LAY || word == Word.STAGE || word == Word.TAKE
                || word == Word.SHARE || word == Word.STONE || word == Word.HOUR;
        }

        private static boolean takesDiver(Reader reader, Cave cave, int first) {
            if (!reader.seesName()) {
                return false;
            }
            int diver = cave.diverNamed(reader.tape.code);
            if (diver == NONE) {
                return reader.wrong(UNKNOWN);
            }
            if (diver == first) {
                return reader.wrong(AGAIN);
            }
            reader.tape.next();
            return true;
        }
    }

    /** All that UNDO brings back, and what changes it. */
    private static final class State {
        private int hour;
        private int breathed;
        private int drowned;
        private int thread;
        private final int[] at = new int[DIVERS];
        private final int[] gas = new int[DIVERS];
        private final int[] under = new int[DIVERS];
        private final int[] silt = new int[WAYS];
        private final int[] staged = new int[PLACES];

        void begin(Cave cave) {
            hour = 0;
            breathed = 0;
            drowned = 0;
            thread = 0;
            for (int diver = 0; diver < DIVERS; diver++) {
                at[diver] = cave.places > 0 ? MOUTH : NONE;
                gas[diver] = diver < cave.divers ? cave.tanks[diver] : 0;
                under[diver] = 0;
            }
            for (int way = 0; way < WAYS; way++) {
                silt[way] = 0;
            }
            for (int place = 0; place < PLACES; place++) {
                staged[place] = 0;
            }
        }

        void become(State from) {
            hour = from.hour;
            breathed = from.breathed;
            drowned = from.drowned;
            thread = from.thread;
            System.arraycopy(from.at, 0, at, 0, DIVERS);
            System.arraycopy(from.gas, 0, gas, 0, DIVERS);
            System.arraycopy(from.under, 0, under, 0, DIVERS);
            System.arraycopy(from.silt, 0, silt, 0, WAYS);
            System.arraycopy(from.staged, 0, staged, 0, PLACES);
        }

        boolean isDrowned(int diver) {
            return isIn(drowned, diver);
        }

        boolean hasThread(int way) {
            return isIn(thread, way);
        }

        boolean isBlind(Cave cave, int way) {
            return silt[way] + cave.rainAt(hour) >= BLIND_FROM;
        }

        boolean isOpen(Cave cave, int way) {
            return hasThread(way) || !isBlind(cave, way);
        }

        boolean isUnderWater(Cave cave, int diver) {
            return at[diver] != MOUTH && cave.hasPlace(at[diver]);
        }

        int openWays(Cave cave) {
            int bits = 0;
            for (int way = 0; way < cave.ways; way++) {
                if (isOpen(cave, way)) {
                    bits |= 1 << way;
                }
            }
            return bits;
        }

        int diversAt(Cave cave, int place) {
            int bits = 0;
            for (int diver = 0; diver < cave.divers; diver++) {
                if (at[diver] == place) {
                    bits |= 1 << diver;
                }
            }
            return bits;
        }

        int price(Cave cave, int diver, int way, int hours) {
            return cave.lengths[way]
                * cave.breathOf(diver, cave.depthOf(way), cave.rainAt(hour), silt[way], hours);
        }

        /** What one who stays under water breathes in the hour that comes behind so many. */
        int breathAhead(Cave cave, int diver, int hours) {
            int depth = isUnderWater(cave, diver) ? cave.depths[at[diver]] : 0;
            return cave.breathOf(diver, depth, cave.rainAt(hour + hours), 0, under[diver] + hours);
        }

        boolean swims(Cave cave, int diver, int way) {
            return cave.hasWay(way) && isOpen(cave, way) && goesThrough(cave, diver, way);
        }

        boolean lays(Cave cave, int diver, int way) {
            if (!cave.hasWay(way) || hasThread(way) || isBlind(cave, way) || !goesThrough(cave, diver, way)) {
                return false;
            }
            thread |= 1 << way;
            return true;
        }

        private boolean goesThrough(Cave cave, int diver, int way) {
            if (!cave.hasDiver(diver) || isDrowned(diver)) {
                return false;
            }
            int goal = cave.acrossFrom(way, at[diver]);
            int price = price(cave, diver, way, under[diver]);
            if (goal == NONE || gas[diver] < price) {
                return false;
            }
            at[diver] = goal;
            gas[diver] -= price;
            breathed += price;
            silt[way] = Math.min(MOST_SILT, silt[way] + (cave.narrow[way] ? 3 : 2));
            return true;
        }

        boolean leaves(Cave cave, int diver, int amount) {
            if (!handles(cave, diver, amount) || gas[diver] < amount || staged[at[diver]] + amount > MOST_GAS) {
                return false;
            }
            gas[diver] -= amount;
            staged[at[diver]] += amount;
            return true;
        }

        boolean picks(Cave cave, int diver, int amount) {
            if (!handles(cave, diver, amount) || staged[at[diver]] < amount || gas[diver] + amount > MOST_GAS) {
                return false;
            }
            staged[at[diver]] -= amount;
            gas[diver] += amount;
            return true;
        }

        boolean gives(Cave cave, int diver, int other, int amount) {
            if (!handles(cave, diver, amount) || !handles(cave, other, amount) || diver == other) {
                return false;
            }
            if (at[diver] != at[other] || gas[diver] < amount || gas[other] + amount > MOST_GAS) {
                return false;
            }
            gas[diver] -= amount;
            gas[other] += amount;
            return true;
        }

        private boolean handles(Cave cave, int diver, int amount) {
            return cave.hasDiver(diver) && !isDrowned(diver) && cave.hasPlace(at[diver])
                && amount >= 1 && amount <= 99;
        }

        boolean cuts(Cave cave, int way) {
            if (!cave.hasWay(way) || !hasThread(way)) {
                return false;
            }
            thread &= ~(1 << way);
            return true;
        }

        /** Answers who drowns by it, as bits. */
        int passesHour(Cave cave) {
            int before = drowned;
            for (int diver = 0; diver < cave.divers; diver++) {
                if (!isUnderWater(cave, diver)) {
                    under[diver] = 0;
                } else if (!isDrowned(diver)) {
                    breathes(cave, diver);
                }
            }
            int rain = cave.rainAt(hour);
            for (int way = 0; way < cave.ways; way++) {
                silt[way] = settled(silt[way], rain);
            }
            hour++;
            return drowned & ~before;
        }

        private void breathes(Cave cave, int diver) {
            int breath = breathAhead(cave, diver, 0);
            int taken = Math.min(breath, gas[diver]);
            under[diver]++;
            gas[diver] -= taken;
            breathed += taken;
            if (taken < breath) {
                drowned |= 1 << diver;
            }
        }

        /** Does a line, if it can be. */
        boolean follows(Cave cave, Dive dive, int line) {
            Word deed = dive.deeds[line];
            int diver = dive.firsts[line];
            int number = dive.numbers[line];
            if (deed == Word.SWIM) {
                return swims(cave, diver, number);
            }
            if (deed == Word.LAY) {
                return lays(cave, diver, number);
            }
            if (deed == Word.STAGE) {
                return leaves(cave, diver, number);
            }
            if (deed == Word.TAKE) {
                return picks(cave, diver, number);
            }
            if (deed == Word.SHARE) {
                return gives(cave, diver, dive.seconds[line], number);
            }
            if (deed == Word.STONE) {
                return cuts(cave, number);
            }
            passesHour(cave);
            return true;
        }
    }

    /** What UNDO and MARKS bring back. */
    private static final class Memory {
        /** One row more than can be undone: a try that fails must not cost the oldest one. */
        private final State[] rows = new State[UNDOS + 1];
        private int next;
        private int kept;
        private final State[] marked = new State[MARKS];
        private final Finds[] markedFinds = new Finds[MARKS];
        private int laid;

        Memory() {
            for (int i = 0; i <= UNDOS; i++) {
                rows[i] = new State();
            }
            for (int mark = 0; mark < MARKS; mark++) {
                marked[mark] = new State();
                markedFinds[mark] = new Finds();
            }
        }

        void forgetAll() {
            kept = 0;
            laid = 0;
        }

        void hold(State state) {
            rows[next].become(state);
        }

        void keep() {
            next = next < UNDOS ? next + 1 : 0;
            kept = Math.min(UNDOS, kept + 1);
        }

        boolean takesBack(State state) {
            if (kept == 0) {
                return false;
            }
            next = next > 0 ? next - 1 : UNDOS;
            kept--;
            state.become(rows[next]);
            return true;
        }

        void remembers(int mark, State state, Finds finds) {
            marked[mark].become(state);
            markedFinds[mark].become(finds);
            laid |= 1 << mark;
        }

        boolean returnsTo(int mark, State state, Finds finds) {
            if (!isIn(laid, mark)) {
                return false;
            }
            state.become(marked[mark]);
            finds.become(markedFinds[mark]);
            kept = 0;
            return true;
        }
    }

    /** What was FOUND of an unknown diver. */
    private static final class Finds {
        private int size;
        private final int[] places = new int[FINDS];
        private final int[] needed = new int[FINDS];

        boolean adds(int place, int gas) {
            if (size >= FINDS) {
                return false;
            }
            places[size] = place;
            needed[size] = gas;
            size++;
            return true;
        }

        void become(Finds from) {
            size = from.size;
            System.arraycopy(from.places, 0, places, 0, FINDS);
            System.arraycopy(from.needed, 0, needed, 0, FINDS);
        }

        boolean fit(Paths paths) {
            for (int i = 0; i < size; i++) {
                if (paths.least[places[i]] != needed[i]) {
                    return false;
                }
            }
            return true;
        }
    }

    /** The least that must be paid from one place to each; NONE, where no ways lead. */
    private static final class Paths {
        private final int[] least = new int[PLACES];

        void spread(Cave cave, int start, int ways, int[] prices) {
            for (int place = 0; place < PLACES; place++) {
                least[place] = NONE;
            }
            if (!cave.hasPlace(start)) {
                return;
            }
            least[start] = 0;
            boolean better = true;
            for (int round = 0; better && round < PLACES; round++) {
                better = false;
                for (int way = 0; way < cave.ways; way++) {
                    if (isIn(ways, way)) {
                        boolean there = lowers(cave.oneEnds[way], cave.otherEnds[way], prices[way]);
                        boolean back = lowers(cave.otherEnds[way], cave.oneEnds[way], prices[way]);
                        better = better || there || back;
                    }
                }
            }
        }

        private boolean lowers(int from, int to, int price) {
            if (least[from] == NONE || least[to] != NONE && least[to] <= least[from] + price) {
                return false;
            }
            least[to] = least[from] + price;
            return true;
        }

        int reached() {
            int bits = 0;
            for (int place = 0; place < PLACES; place++) {
                if (least[place] != NONE) {
                    bits |= 1 << place;
                }
            }
            return bits;
        }
    }
}
