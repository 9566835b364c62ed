import java.util.ArrayList;
import java.util.Arrays;
import java.util.HashMap;
import java.util.List;
import java.util.Map;
import java.util.NoSuchElementException;
import java.util.TreeSet;
import java.util.function.IntUnaryOperator;
import java.util.regex.Matcher;
import java.util.regex.Pattern;

/**
 * The document once more, in the plainest way and with the whole library: trees for laws, all pairs of
 * places for paths, all subsets of ways for ties, all rains for chances, whole copies for undoing. It
 * shares no line with the program, so that the two are wrong alike only if the document was read wrongly.
 */
public final class Model {
    private static final List<String> TAKEN = Arrays.asList(("place deep way long diver gas rain breath narrow wide "
        + "swim lay stage take share stone hour plain old afraid calm not and or").split(" "));
    private static final List<String> KINDS = Arrays.asList("plain", "old", "afraid", "calm");
    private static final List<String> FACTS = Arrays.asList("depth", "white", "silt", "hours");
    private static final int FAR = 1_000_000;

    private record Token(char kind, String text, int at) {
    }

    private record Place(String name, int depth) {
    }

    private record Way(int one, int other, boolean narrow, int length) {
        boolean touches(int place) {
            return place == one || place == other;
        }
    }

    private record Diver(String name, int kind, int gas) {
    }

    private record Line(String deed, int... numbers) {
    }

    /** A number, a fact, or a sign with one or two sides. */
    private record Tree(String sign, Tree left, Tree right) {
    }

    private static final class Fault extends RuntimeException {
        private static final long serialVersionUID = 1;
        final int code;

        Fault(int code) {
            this.code = code;
        }
    }

    private static final class Told {
        final List<Place> places = new ArrayList<>();
        final List<Way> ways = new ArrayList<>();
        final List<Diver> divers = new ArrayList<>();
        List<Integer> rain;
        Tree law;

        int placeNamed(String name) {
            return places.stream().map(Place::name).toList().indexOf(name);
        }

        int diverNamed(String name) {
            return divers.stream().map(Diver::name).toList().indexOf(name);
        }

        int rainAt(int hour) {
            return rain == null ? 0 : rain.get(hour % rain.size());
        }
    }

    private static final class World {
        int hour;
        int spent;
        TreeSet<Integer> drowned = new TreeSet<>();
        TreeSet<Integer> thread = new TreeSet<>();
        int[] at;
        int[] gas;
        int[] hours;
        int[] silt;
        int[] staged;

        static World of(Told told) {
            World w = new World();
            int divers = told.divers.size();
            w.at = new int[divers];
            Arrays.fill(w.at, told.places.isEmpty() ? -1 : 0);
            w.gas = told.divers.stream().mapToInt(Diver::gas).toArray();
            w.hours = new int[divers];
            w.silt = new int[told.ways.size()];
            w.staged = new int[told.places.size()];
            return w;
        }

        World copy() {
            World w = new World();
            w.hour = hour;
            w.spent = spent;
            w.drowned = new TreeSet<>(drowned);
            w.thread = new TreeSet<>(thread);
            w.at = at.clone();
            w.gas = gas.clone();
            w.hours = hours.clone();
            w.silt = silt.clone();
            w.staged = staged.clone();
            return w;
        }
    }

    private record Marked(World world, List<int[]> found) {
    }

    private final StringBuilder tape = new StringBuilder();
    private Told told = new Told();
    private World now = World.of(told);
    private List<Line> lines = new ArrayList<>();
    private List<int[]> found = new ArrayList<>();
    private final List<World> past = new ArrayList<>();
    private final Map<Integer, Marked> marks = new HashMap<>();

    // ---- reading

    private static List<Token> tokens(String text) {
        List<Token> tokens = new ArrayList<>();
        Matcher m = Pattern.compile("([a-z]+)|([0-9]+)|([^ \n])").matcher(text);
        while (m.find()) {
            String t = m.group();
            char kind = m.group(1) != null ? t.length() > 8 ? '?' : 'w'
                : m.group(2) != null ? t.length() > 4 ? '?' : 'n'
                : "()<=+-*;".contains(t) ? t.charAt(0) : '?';
            tokens.add(new Token(kind, t, m.start()));
        }
        tokens.add(new Token('.', "", text.length()));
        return tokens;
    }

    private static final class Reading {
        final List<Token> tokens;
        int next = 0;

        Reading(String text) {
            tokens = tokens(text);
        }

        Token look() {
            return tokens.get(next);
        }

        boolean sees(String... texts) {
            return "w<=+-*();".indexOf(look().kind) >= 0 && Arrays.asList(texts).contains(look().text);
        }

        boolean ended() {
            return look().kind == '.';
        }

        Fault wrong(int kind) {
            return new Fault(kind + 16 * look().at);
        }

        String take(String... texts) {
            if (!sees(texts)) {
                throw wrong(1);
            }
            return tokens.get(next++).text;
        }

        int number(int least, int most, boolean oneTooMany) {
            if (look().kind != 'n') {
                throw wrong(1);
            }
            int value = Integer.parseInt(look().text);
            if (value < least || value > most) {
                throw wrong(4);
            }
            if (oneTooMany) {
                throw wrong(5);
            }
            next++;
            return value;
        }

        String name() {
            if (look().kind != 'w' || TAKEN.contains(look().text)) {
                throw wrong(1);
            }
            return look().text;
        }

        int known(int number, int first) {
            if (number < 0) {
                throw wrong(2);
            }
            if (number == first) {
                throw wrong(3);
            }
            next++;
            return number;
        }

        Tree tests(int within) {
            Tree tree = test(within);
            while (sees("and", "or")) {
                tree = new Tree(take("and", "or"), tree, test(within));
            }
            return tree;
        }

        private Tree test(int within) {
            Tree tree = sum(within);
            return sees("<", "=") ? new Tree(take("<", "="), tree, sum(within)) : tree;
        }

        private Tree sum(int within) {
            Tree tree = product(within);
            while (sees("+", "-")) {
                tree = new Tree(take("+", "-"), tree, product(within));
            }
            return tree;
        }

        private Tree product(int within) {
            Tree tree = part(within);
            while (sees("*")) {
                tree = new Tree(take("*"), tree, part(within));
            }
            return tree;
        }

        private Tree part(int within) {
            Token token = look();
            boolean isValue = token.kind == 'n' || token.kind == 'w' && FACTS.contains(token.text);
            if (!isValue && !sees("not", "(")) {
                throw wrong(1);
            }
            if (within >= 5) {
                throw wrong(5);
            }
            next++;
            if (isValue) {
                return new Tree(token.text, null, null);
            }
            if (token.kind == 'w') {
                return new Tree("not", part(within + 1), null);
            }
            Tree tree = tests(within + 1);
            take(")");
            return tree;
        }
    }

    private static Told readCave(String text) {
        Told told = new Told();
        Reading r = new Reading(text);
        while (!r.ended()) {
            if (!r.sees("place", "way", "diver", "rain", "breath")) {
                throw r.wrong(1);
            }
            String word = r.look().text;
            int most = word.equals("place") ? 7 : word.equals("way") ? 8 : word.equals("diver") ? 4 : 99;
            int sofar = word.equals("place") ? told.places.size() : word.equals("way") ? told.ways.size()
                : word.equals("diver") ? told.divers.size() : 0;
            if (sofar >= most) {
                throw r.wrong(5);
            }
            if (word.equals("rain") && told.rain != null || word.equals("breath") && told.law != null) {
                throw r.wrong(3);
            }
            r.next++;
            readCaveLine(word, told, r);
            r.take(";");
        }
        return told;
    }

    private static void readCaveLine(String word, Told told, Reading r) {
        switch (word) {
            case "place" -> {
                String name = newName(told, r);
                r.take("deep");
                told.places.add(new Place(name, r.number(0, 9, false)));
            }
            case "diver" -> {
                String name = newName(told, r);
                int kind = KINDS.indexOf(r.take("plain", "old", "afraid", "calm"));
                r.take("gas");
                told.divers.add(new Diver(name, kind, r.number(1, 900, false)));
            }
            case "way" -> {
                int one = r.known(told.placeNamed(r.name()), -1);
                int other = told.placeNamed(r.name());
                if (told.ways.stream().anyMatch(w -> other >= 0 && w.touches(one) && w.touches(other))) {
                    throw r.wrong(3);
                }
                r.known(other, one);
                boolean narrow = r.take("narrow", "wide").equals("narrow");
                r.take("long");
                told.ways.add(new Way(one, other, narrow, r.number(1, 9, false)));
            }
            case "rain" -> {
                told.rain = new ArrayList<>();
                do {
                    told.rain.add(r.number(0, 9, told.rain.size() == 12));
                } while (!r.sees(";"));
            }
            default -> told.law = r.tests(0);
        }
    }

    private static String newName(Told told, Reading r) {
        String name = r.name();
        if (told.placeNamed(name) >= 0 || told.diverNamed(name) >= 0) {
            throw r.wrong(3);
        }
        r.next++;
        return name;
    }

    private static List<Line> readDive(String text, Told told) {
        List<Line> lines = new ArrayList<>();
        Reading r = new Reading(text);
        while (!r.ended()) {
            if (!r.sees("swim", "lay", "stage", "take", "share", "stone", "hour")) {
                throw r.wrong(1);
            }
            if (lines.size() == 40) {
                throw r.wrong(5);
            }
            String deed = r.tokens.get(r.next++).text;
            lines.add(switch (deed) {
                case "hour" -> new Line(deed);
                case "stone" -> new Line(deed, r.number(0, 7, false));
                case "share" -> {
                    int one = r.known(told.diverNamed(r.name()), -1);
                    int other = r.known(told.diverNamed(r.name()), one);
                    yield new Line(deed, one, other, r.number(1, 99, false));
                }
                default -> {
                    int who = r.known(told.diverNamed(r.name()), -1);
                    boolean byWay = deed.equals("swim") || deed.equals("lay");
                    yield new Line(deed, who, byWay ? r.number(0, 7, false) : r.number(1, 99, false));
                }
            });
            r.take(";");
        }
        return lines;
    }

    // ---- laws

    private static int value(Tree t, Map<String, Integer> facts) {
        if (t.left == null) {
            return FACTS.contains(t.sign) ? facts.get(t.sign) : Integer.parseInt(t.sign);
        }
        int a = value(t.left, facts);
        int b = t.right == null ? 0 : value(t.right, facts);
        return switch (t.sign) {
            case "not" -> a == 0 ? 1 : 0;
            case "and" -> a != 0 && b != 0 ? 1 : 0;
            case "or" -> a != 0 || b != 0 ? 1 : 0;
            case "<" -> a < b ? 1 : 0;
            case "=" -> a == b ? 1 : 0;
            case "+" -> a + b;
            case "-" -> a - b;
            default -> a * b;
        };
    }

    private int breath(int diver, int depth, int white, int silt, int hours) {
        String kind = KINDS.get(told.divers.get(diver).kind);
        Map<String, Integer> facts = Map.of("depth", depth, "white", white, "silt", silt,
            "hours", kind.equals("calm") ? 0 : hours);
        int breath = told.law == null ? 1 + depth : value(told.law, facts);
        breath = breath < 1 ? 1 : breath > 20 ? 20 : breath;
        return switch (kind) {
            case "old" -> breath == 1 ? 1 : breath - 1;
            case "afraid" -> depth > 4 ? breath + 2 : breath + 1;
            default -> breath;
        };
    }

    private int price(World w, int diver, int way, int hours) {
        Way t = told.ways.get(way);
        int depth = Math.max(told.places.get(t.one).depth, told.places.get(t.other).depth);
        return t.length * breath(diver, depth, told.rainAt(w.hour), w.silt[way], hours);
    }

    // ---- deeds

    private boolean isBlind(World w, int way) {
        return w.silt[way] + told.rainAt(w.hour) >= 6;
    }

    private static int silted(int silt, int rain) {
        return rain >= 7 ? Math.min(9, silt + 1) : Math.max(0, silt - 1);
    }

    private boolean act(World w, Line line) {
        int[] n = line.numbers;
        return switch (line.deed) {
            case "swim", "lay" -> move(w, n[0], n[1], line.deed.equals("lay"));
            case "stage" -> stages(w, n[0], n[1]);
            case "take" -> takes(w, n[0], n[1]);
            case "share" -> shares(w, n[0], n[1], n[2]);
            case "stone" -> w.thread.remove(n[0]);
            default -> {
                pass(w);
                yield true;
            }
        };
    }

    private boolean isAlive(World w, int diver) {
        return isDiver(diver) && !w.drowned.contains(diver) && w.at[diver] >= 0;
    }

    private boolean move(World w, int diver, int way, boolean laying) {
        if (!isAlive(w, diver) || !isWay(way) || !told.ways.get(way).touches(w.at[diver])) {
            return false;
        }
        boolean thread = w.thread.contains(way);
        boolean may = laying ? !thread && !isBlind(w, way) : thread || !isBlind(w, way);
        int price = price(w, diver, way, w.hours[diver]);
        if (!may || w.gas[diver] < price) {
            return false;
        }
        Way t = told.ways.get(way);
        w.gas[diver] -= price;
        w.spent += price;
        w.at[diver] = t.one + t.other - w.at[diver];
        w.silt[way] = Math.min(9, w.silt[way] + (t.narrow ? 3 : 2));
        if (laying) {
            w.thread.add(way);
        }
        return true;
    }

    private boolean stages(World w, int diver, int gas) {
        if (!isAlive(w, diver) || gas < 1 || gas > 99 || w.gas[diver] < gas || w.staged[w.at[diver]] + gas > 999) {
            return false;
        }
        w.gas[diver] -= gas;
        w.staged[w.at[diver]] += gas;
        return true;
    }

    private boolean takes(World w, int diver, int gas) {
        if (!isAlive(w, diver) || gas < 1 || gas > 99 || w.staged[w.at[diver]] < gas || w.gas[diver] + gas > 999) {
            return false;
        }
        w.staged[w.at[diver]] -= gas;
        w.gas[diver] += gas;
        return true;
    }

    private boolean shares(World w, int diver, int other, int gas) {
        if (diver == other || !isAlive(w, diver) || !isAlive(w, other) || gas < 1 || gas > 99) {
            return false;
        }
        if (w.at[diver] != w.at[other] || w.gas[diver] < gas || w.gas[other] + gas > 999) {
            return false;
        }
        w.gas[diver] -= gas;
        w.gas[other] += gas;
        return true;
    }

    private void pass(World w) {
        int rain = told.rainAt(w.hour);
        for (int d = 0; d < w.at.length; d++) {
            if (w.at[d] <= 0) {
                w.hours[d] = 0;
            } else if (!w.drowned.contains(d)) {
                int breath = breath(d, told.places.get(w.at[d]).depth, rain, 0, w.hours[d]);
                w.hours[d]++;
                w.spent += Math.min(breath, w.gas[d]);
                if (w.gas[d] < breath) {
                    w.drowned.add(d);
                }
                w.gas[d] = Math.max(0, w.gas[d] - breath);
            }
        }
        w.silt = Arrays.stream(w.silt).map(s -> silted(s, rain)).toArray();
        w.hour++;
    }

    private boolean done(String deed, int... numbers) {
        World before = now.copy();
        if (!act(now, new Line(deed, numbers))) {
            return false;
        }
        past.add(before);
        if (past.size() > 16) {
            past.remove(0);
        }
        return true;
    }

    // ---- paths

    private boolean isPlace(int place) {
        return place >= 0 && place < told.places.size();
    }

    private boolean isWay(int way) {
        return way >= 0 && way < told.ways.size();
    }

    private boolean isDiver(int diver) {
        return diver >= 0 && diver < told.divers.size();
    }

    private static int bits(Iterable<Integer> numbers) {
        int bits = 0;
        for (int i : numbers) {
            bits |= 1 << i;
        }
        return bits;
    }

    private int allWays() {
        return (1 << told.ways.size()) - 1;
    }

    /** The least from each place to each, by the ways of these bits. */
    private int[][] between(int ways, IntUnaryOperator price) {
        int n = told.places.size();
        int[][] least = new int[n][n];
        for (int i = 0; i < n; i++) {
            Arrays.fill(least[i], FAR);
            least[i][i] = 0;
        }
        for (int w = 0; w < told.ways.size(); w++) {
            if ((ways >> w & 1) == 1) {
                Way t = told.ways.get(w);
                least[t.one][t.other] = price.applyAsInt(w);
                least[t.other][t.one] = price.applyAsInt(w);
            }
        }
        for (int k = 0; k < n; k++) {
            for (int i = 0; i < n; i++) {
                for (int j = 0; j < n; j++) {
                    least[i][j] = Math.min(least[i][j], least[i][k] + least[k][j]);
                }
            }
        }
        return least;
    }

    private int fromMouth(int ways) {
        int bits = 0;
        int[][] least = between(ways, w -> 1);
        for (int p = 0; p < least.length; p++) {
            bits |= least[0][p] < FAR ? 1 << p : 0;
        }
        return bits;
    }

    private int[][] forDiver(int diver) {
        return between(open(), w -> price(now, diver, w, now.hours[diver]));
    }

    /** What a diver needs from the mouth, as what is found tells it. */
    int fresh(int diver, int place) {
        return between(allWays(), w -> price(now, diver, w, 0))[0][place];
    }

    private static int orNone(int least) {
        return least >= FAR ? -1 : least;
    }

    // ---- the face

    public int feed(long a, long b, long c) {
        for (long v : new long[] {a, b, c}) {
            for (int i = 7; i >= 0; i--) {
                int sign = (int) (v >>> 8 * i & 255);
                if ((sign == 10 || sign >= 32 && sign < 127) && tape.length() < 1000) {
                    tape.append((char) sign);
                }
            }
        }
        return tape.length();
    }

    private String takeTape() {
        String text = tape.toString();
        tape.setLength(0);
        return text;
    }

    public int cave() {
        try {
            told = readCave(takeTape());
        } catch (Fault fault) {
            return fault.code;
        }
        now = World.of(told);
        lines = new ArrayList<>();
        found = new ArrayList<>();
        past.clear();
        marks.clear();
        return 0;
    }

    public int dive() {
        try {
            lines = readDive(takeTape(), told);
        } catch (Fault fault) {
            return fault.code;
        }
        return 0;
    }

    private static int pick(int what, int others, int... answers) {
        return what >= 0 && what < answers.length ? answers[what] : others;
    }

    public int place(int place, int what) {
        if (!isPlace(place)) {
            return -1;
        }
        TreeSet<Integer> there = new TreeSet<>();
        for (int d = 0; d < now.at.length; d++) {
            if (now.at[d] == place) {
                there.add(d);
            }
        }
        return pick(what, -1, told.places.get(place).depth, now.staged[place], bits(there));
    }

    public int way(int way, int what) {
        if (!isWay(way)) {
            return -1;
        }
        Way t = told.ways.get(way);
        return pick(what, -1, t.one, t.other, t.length, t.narrow ? 1 : 0, now.silt[way],
            now.thread.contains(way) ? 1 : 0, isBlind(now, way) ? 1 : 0);
    }

    public int diver(int diver, int what) {
        if (!isDiver(diver)) {
            return -2;
        }
        return pick(what, -2, told.divers.get(diver).kind, now.at[diver], now.gas[diver], now.hours[diver],
            now.drowned.contains(diver) ? 1 : 0);
    }

    public int cost(int diver, int way) {
        return isDiver(diver) && isWay(way) ? price(now, diver, way, now.hours[diver]) : -1;
    }

    public int swim(int diver, int way) {
        return done("swim", diver, way) ? now.at[diver] : -1;
    }

    public int lay(int diver, int way) {
        return done("lay", diver, way) ? now.at[diver] : -1;
    }

    public int stage(int diver, int gas) {
        return done("stage", diver, gas) ? now.staged[now.at[diver]] : -1;
    }

    public int take(int diver, int gas) {
        return done("take", diver, gas) ? now.gas[diver] : -1;
    }

    public boolean share(int diver, int other, int gas) {
        return done("share", diver, other, gas);
    }

    public boolean stone(int way) {
        return done("stone", way);
    }

    public int hour() {
        int before = bits(now.drowned);
        done("hour");
        return bits(now.drowned) - before;
    }

    public boolean undo() {
        if (past.isEmpty()) {
            return false;
        }
        now = past.remove(past.size() - 1);
        return true;
    }

    public int judged(int what) {
        World w = World.of(told);
        int bad = -1;
        int death = -1;
        for (int i = lines.size() - 1; i >= 0; i--) {
            World v = World.of(told);
            boolean could = true;
            int drownedAhead = 0;
            for (int k = 0; k <= i; k++) {
                drownedAhead = v.drowned.size();
                could = act(v, lines.get(k));
            }
            bad = could ? bad : i;
            death = v.drowned.size() > drownedAhead ? i : death;
            w = i == lines.size() - 1 ? v : w;
        }
        return pick(what, -2, bad, death, w.drowned.size());
    }

    public int open() {
        int bits = 0;
        for (int w = 0; w < told.ways.size(); w++) {
            bits |= now.thread.contains(w) || !isBlind(now, w) ? 1 << w : 0;
        }
        return bits;
    }

    public int needs(int diver, int place) {
        if (!isDiver(diver) || !isPlace(place) || now.at[diver] < 0) {
            return -1;
        }
        return orNone(forDiver(diver)[now.at[diver]][place]);
    }

    public int out(int diver) {
        return needs(diver, 0);
    }

    public boolean thirds(int diver) {
        return out(diver) >= 0 && !now.drowned.contains(diver) && out(diver) * 3 <= now.gas[diver];
    }

    private List<Integer> alive() {
        List<Integer> alive = new ArrayList<>();
        for (int d = 0; d < told.divers.size(); d++) {
            if (!now.drowned.contains(d)) {
                alive.add(d);
            }
        }
        return alive;
    }

    public int can() {
        return bits(alive().stream().filter(d -> out(d) >= 0 && out(d) <= now.gas[d]).toList());
    }

    private int trip(int diver, int place) {
        if (now.at[diver] < 0) {
            return FAR;
        }
        int[][] least = forDiver(diver);
        return least[now.at[diver]][place] + least[place][0];
    }

    public int reaches(int diver) {
        if (!isDiver(diver)) {
            return -1;
        }
        int bits = 0;
        for (int p = 0; p < told.places.size(); p++) {
            bits |= trip(diver, p) <= now.gas[diver] && !now.drowned.contains(diver) ? 1 << p : 0;
        }
        return bits;
    }

    public int deepest(int diver) {
        for (int depth = 9; depth >= 0; depth--) {
            for (int p = 0; p < told.places.size(); p++) {
                if (reaches(diver) > 0 && (reaches(diver) >> p & 1) == 1 && told.places.get(p).depth == depth) {
                    return p;
                }
            }
        }
        return -1;
    }

    public int all() {
        int bits = (1 << told.places.size()) - 1;
        for (int d : alive()) {
            bits &= reaches(d);
        }
        return bits;
    }

    public int sure() {
        int bits = 0;
        for (int p = 0; p < told.places.size() && !alive().isEmpty(); p++) {
            boolean fine = true;
            int need = 0;
            List<Integer> left = new ArrayList<>();
            for (int d : alive()) {
                int[][] least = forDiver(d);
                left.add(now.gas[d] - least[now.at[d]][p]);
                need += least[p][0];
                fine &= now.gas[d] >= least[now.at[d]][p];
            }
            left.sort(null);
            int others = left.subList(0, left.size() - 1).stream().mapToInt(i -> i).sum();
            bits |= fine && others >= need ? 1 << p : 0;
        }
        return bits;
    }

    public int lacks(int diver, int place) {
        if (!isDiver(diver) || !isPlace(place) || now.drowned.contains(diver) || trip(diver, place) >= FAR) {
            return -1;
        }
        return Math.max(0, trip(diver, place) - now.gas[diver]);
    }

    public int clear(int way) {
        World w = now.copy();
        for (int hours = 0; hours <= 60 && isWay(way); hours++) {
            if (!isBlind(w, way)) {
                return hours;
            }
            pass(w);
        }
        return -1;
    }

    public int led() {
        return told.places.isEmpty() ? 0 : fromMouth(bits(now.thread));
    }

    public int lost() {
        return bits(alive().stream().filter(d -> now.at[d] < 0 || (fromMouth(open()) >> now.at[d] & 1) == 0).toList());
    }

    public int worst() {
        int worst = -1;
        int least = 99;
        for (int w = 0; w < told.ways.size(); w++) {
            int left = Integer.bitCount(fromMouth(allWays() - (1 << w)));
            worst = left < least ? w : worst;
            least = Math.min(least, left);
        }
        return worst;
    }

    public int near(int diver, int other) {
        return diver == other || !isDiver(other) ? -1 : needs(diver, now.at[other]);
    }

    public int lasts(int diver) {
        World w = now.copy();
        for (int hours = 1; hours <= 99 && isDiver(diver) && !now.drowned.contains(diver); hours++) {
            pass(w);
            if (w.drowned.contains(diver)) {
                return hours;
            }
        }
        return -1;
    }

    public int tie() {
        int fewest = 0;
        int goal = told.places.isEmpty() ? 0 : fromMouth(allWays());
        if (goal != led()) {
            fewest = 99;
            for (int more = 0; more <= allWays(); more++) {
                boolean isNew = (more & bits(now.thread)) == 0;
                if (isNew && fromMouth(bits(now.thread) | more) == goal) {
                    fewest = Math.min(fewest, Integer.bitCount(more));
                }
            }
        }
        return fewest;
    }

    public boolean find(int place, int gas) {
        return isPlace(place) && gas >= 0 && gas <= 9999 && found.size() < 8 && found.add(new int[] {place, gas});
    }

    public int who() {
        int bits = 0;
        for (int d = 0; d < told.divers.size(); d++) {
            int diver = d;
            bits |= found.stream().allMatch(f -> fresh(diver, f[0]) == f[1]) ? 1 << d : 0;
        }
        return bits;
    }

    public int ask() {
        int who = who();
        int best = -1;
        int fewest = Integer.bitCount(who);
        for (int p = 0; p < told.places.size(); p++) {
            Map<Integer, Integer> groups = new HashMap<>();
            for (int d = 0; d < told.divers.size(); d++) {
                if ((who >> d & 1) == 1) {
                    groups.merge(Math.min(FAR, fresh(d, p)), 1, Integer::sum);
                }
            }
            int most = groups.values().stream().mapToInt(i -> i).max().orElse(0);
            best = most < fewest ? p : best;
            fewest = Math.min(fewest, most);
        }
        return best;
    }

    public int bell() {
        int most = Arrays.stream(now.staged).max().orElse(0);
        for (int p = 0; p < told.places.size(); p++) {
            if (most > 0 && now.staged[p] == most) {
                return p;
            }
        }
        return -1;
    }

    public int slate() {
        int best = -1;
        for (int d : alive()) {
            best = best < 0 || now.gas[d] < now.gas[best] ? d : best;
        }
        return best;
    }

    public int together() {
        int twice = 0;
        for (int a = 0; a < now.at.length; a++) {
            for (int b = 0; b < now.at.length; b++) {
                twice += a != b && now.at[a] >= 0 && now.at[a] == now.at[b] ? 1 : 0;
            }
        }
        return twice / 2;
    }

    public int spent() {
        return now.spent;
    }

    public int far(int place) {
        return isPlace(place) ? orNone(between(allWays(), w -> 1)[0][place]) : -1;
    }

    public int lean(int diver) {
        int best = -1;
        for (int w = told.ways.size() - 1; w >= 0 && isDiver(diver); w--) {
            if ((open() >> w & 1) == 1 && told.ways.get(w).touches(now.at[diver])) {
                best = best < 0 || cost(diver, w) <= cost(diver, best) ? w : best;
            }
        }
        return best;
    }

    public int chance(int way, int hours, int odds) {
        if (!isWay(way) || hours < 1 || hours > 6 || odds < 0 || odds > 10) {
            return -1;
        }
        long cases = 0;
        for (int rains = 0; rains < 1 << hours + 1; rains++) {
            long weight = 1;
            int silt = now.silt[way];
            for (int h = 0; h <= hours; h++) {
                boolean isWet = (rains >> h & 1) == 1;
                weight *= isWet ? odds : 10 - odds;
                silt = h == hours ? silt + (isWet ? 9 : 0) : silted(silt, isWet ? 9 : 0);
            }
            cases += silt >= 6 ? weight : 0;
        }
        return (int) (cases * 1_000_000L / Math.round(Math.pow(10, hours + 1)));
    }

    public int rests(int lose, int goes, int yields, int what) {
        if (Math.min(lose, Math.min(goes, yields)) < 0 || Math.max(lose, Math.max(goes, yields)) > 9) {
            throw new NoSuchElementException();
        }
        int[][] gain = {{0, yields}, {goes, -lose}};
        List<Integer> rests = new ArrayList<>();
        for (int a = 0; a < 2; a++) {
            for (int b = 0; b < 2; b++) {
                if (gain[a][b] >= gain[1 - a][b] && gain[b][a] >= gain[1 - b][a]) {
                    rests.add(2 * a + b);
                }
            }
        }
        if (what < -1 || what >= rests.size()) {
            throw new NoSuchElementException();
        }
        return what < 0 ? rests.size() : rests.get(what);
    }

    public int years(int seed, int steps, int what) {
        if (seed < 0 || seed > 9999 || steps < 1 || steps > 99) {
            return -1;
        }
        World w = now.copy();
        int moves = 0;
        int g = seed;
        for (int i = 0; i < steps && !told.divers.isEmpty() && !told.ways.isEmpty(); i++) {
            int[] drawn = {told.divers.size(), told.ways.size(), 4};
            for (int k = 0; k < 3; k++) {
                g = g * 1103515245 + 12345 & Integer.MAX_VALUE;
                drawn[k] = (g >> 16) % drawn[k];
            }
            if (drawn[2] == 3) {
                pass(w);
            } else {
                moves += move(w, drawn[0], drawn[1], drawn[2] == 0) ? 1 : 0;
            }
        }
        return pick(what, -1, moves, bits(w.drowned), Arrays.stream(w.gas).sum());
    }

    public boolean mark(int mark, boolean back) {
        if (mark < 0 || mark > 3 || back && !marks.containsKey(mark)) {
            return false;
        }
        if (back) {
            now = marks.get(mark).world.copy();
            found = new ArrayList<>(marks.get(mark).found);
            past.clear();
        } else {
            marks.put(mark, new Marked(now.copy(), new ArrayList<>(found)));
        }
        return true;
    }

    public int count(int what) {
        return pick(what, -1, told.places.size(), told.ways.size(), told.divers.size(), now.hour, told.rainAt(now.hour),
            bits(now.drowned), bits(now.thread), Arrays.stream(now.silt).sum(), Arrays.stream(now.gas).sum(),
            Arrays.stream(now.staged).sum(), lines.size(), found.size(), past.size(), tape.length());
    }
}
