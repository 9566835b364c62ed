import java.math.BigInteger;

/**
 * The edges of what was found, of small questions, odds, rests, draws, marks and counts, promises 35 to 41 and
 * 44 to 48: each sentence of the document that bounds one of these, or tells what it answers where there is
 * none, has a test of its own here, under the sentence itself.
 */
public final class QuestionEdgesTest {
    private static final String FLAT = "place m deep 0;place p deep 0;place q deep 0;way m p wide long 1;way p q narrow long 1;";
    private static final String NOWHERE = "diver a plain gas 9;diver b plain gas 9;";
    private static final String KINDS = "diver a plain gas 90;diver b old gas 90;diver c afraid gas 90;diver d calm gas 90;";

    private QuestionEdgesTest() {
    }

    public static void main(String[] args) {
        find();
        who();
        ask();
        bell();
        slate();
        together();
        spent();
        chance();
        chanceOfOthers();
        rests();
        orderOfRests();
        restsOfOthers();
        draws();
        years();
        yearsOfOthers();
        marks();
        marksOfOthers();
        counts();
        Probe.close();
    }

    // ---- what was found

    private static void find() {
        Probe.sentence("needs so much gas (0 to 9999) for a PLACE from the MOUTH");
        DrownedCave x = Probe.told(FLAT + KINDS);
        Probe.due("0", x.find(0, 0), true);
        Probe.due("9999", x.find(2, 9999), true);
        Probe.due("-1", x.find(0, -1), false);
        Probe.due("10000", x.find(0, 10000), false);
        Probe.due("the least int", x.find(0, Integer.MIN_VALUE), false);
        Probe.due("the greatest int", x.find(0, Integer.MAX_VALUE), false);
        Probe.due("these two alone", x.count(11), 2);

        Probe.sentence("as fresh (hours 0), by all WAYS told, in the rain and silt as it is; 8 at most");
        DrownedCave full = Probe.told(FLAT + KINDS);
        for (int i = 1; i <= 8; i++) {
            Probe.due("the same is found " + i + " times", full.find(1, 1), true);
            Probe.due("how many", full.count(11), i);
        }
        Probe.due("a ninth", full.find(1, 1), false);
        Probe.due("another ninth", full.find(2, 7), false);
        Probe.due("how many", full.count(11), 8);
        Probe.due("by these eight", full.who(), 11);
        DrownedCave rainy = Probe.told(FLAT + KINDS + "rain 0 6;breath 1 + white + silt;");
        rainy.find(1, 1);
        Probe.due("as it is at first", rainy.who(), 11);
        rainy.swim(0, 0);
        Probe.due("as it is by silt", rainy.who(), 0);
        rainy.undo();
        rainy.hour();
        Probe.due("as it is by rain", rainy.who(), 0);
        rainy.hour();
        Probe.due("silt 0 again in the next clear hour", rainy.count(4) + rainy.count(7), 0);
        Probe.due("as it is then", rainy.who(), 11);

        Probe.sentence("FOUND: true; false: others, 8 there are.");
        for (int other : Probe.others(3)) {
            Probe.due("find(" + other + ", 1)", x.find(other, 1), false);
        }
        Probe.due("of nothing", new DrownedCave().find(0, 0), false);
        Probe.due("without places", Probe.told(NOWHERE).find(0, 0), false);
        Probe.due("without divers", Probe.told(FLAT).find(2, 5), true);
        Probe.due("none of these was found", x.count(11), 2);
    }

    private static void who() {
        Probe.sentence("WHO: DIVERS by whom all FOUND is so (bits)");
        Probe.due("of nothing", new DrownedCave().who(), 0);
        Probe.due("nobody told", Probe.told(FLAT).who(), 0);
        Probe.due("nothing found", Probe.told(FLAT + KINDS).who(), 15);
        Probe.due("nothing found, nowhere", Probe.told(NOWHERE).who(), 3);
        DrownedCave x = Probe.told(FLAT + KINDS + "breath 5;");
        x.find(1, 5);
        Probe.due("plain, calm", x.who(), 9);
        x.find(2, 10);
        Probe.due("both", x.who(), 9);
        x.find(2, 11);
        Probe.due("all of it", x.who(), 0);
        DrownedCave mouth = Probe.told(FLAT + KINDS);
        mouth.find(0, 0);
        Probe.due("0 for the mouth", mouth.who(), 15);
        mouth.find(0, 1);
        Probe.due("1 for the mouth", mouth.who(), 0);
        DrownedCave apart = Probe.told("place m deep 0;place p deep 0;" + KINDS);
        apart.find(1, 0);
        Probe.due("a place to which no ways lead", apart.who(), 0);
        DrownedCave fresh = Probe.told(FLAT + "diver a plain gas 4;diver b plain gas 90;breath 2 + hours;");
        fresh.swim(0, 0);
        fresh.hour();
        fresh.hour();
        fresh.swim(1, 0);
        fresh.hour();
        Probe.due("one is drowned", fresh.count(5), 1);
        for (int i = 0; i < 5; i++) {
            fresh.hour();
        }
        fresh.find(2, 4);
        Probe.due("as fresh, from the mouth, drowned or not", fresh.who(), 3);
        DrownedCave blind = Probe.told(FLAT + KINDS + "rain 9;");
        blind.find(2, 2);
        Probe.due("by blind ways", blind.who(), 11);
    }

    private static void ask() {
        Probe.sentence("ASK: the PLACE for which the greatest number of WHO who need as much is the least, if that is less than all "
            + "(for a PLACE to which no WAYS lead all are alike); of equal ones the first");
        Probe.due("p and q alike", Probe.told(FLAT + KINDS).ask(), 1);
        Probe.due("q parts more", Probe.told("place m deep 0;place p deep 0;place q deep 1;way m p wide long 1;way m q wide long 1;"
            + KINDS.substring(0, KINDS.indexOf("diver d"))).ask(), 2);
        Probe.due("q, to which none leads, does not", Probe.told("place m deep 0;place q deep 0;place p deep 5;way m p wide long 1;"
            + KINDS).ask(), 2);
        DrownedCave x = Probe.told(FLAT + KINDS + "breath 5;");
        x.find(1, 5);
        Probe.due("who are alike everywhere", x.ask(), -1);

        Probe.sentence("ASK; NONE: none parts them.");
        Probe.due("of nothing", new DrownedCave().ask(), -1);
        Probe.due("nobody told", Probe.told(FLAT).ask(), -1);
        Probe.due("one told", Probe.told(FLAT + "diver a old gas 9;").ask(), -1);
        Probe.due("without places", Probe.told(NOWHERE).ask(), -1);
        Probe.due("the mouth alone", Probe.told("place m deep 0;" + KINDS).ask(), -1);
        Probe.due("no ways", Probe.told("place m deep 0;place p deep 5;" + KINDS).ask(), -1);
        x.find(1, 6);
        Probe.due("nobody is left", x.ask(), -1);
        DrownedCave last = Probe.told(FLAT + "diver a plain gas 9;diver b afraid gas 9;");
        Probe.due("two are left", last.ask(), 1);
        last.find(1, 2);
        Probe.due("one is left", last.ask(), -1);
    }

    // ---- small questions

    private static void bell() {
        Probe.sentence("BELL: the PLACE with the most gas staged, if any; of equal ones the first");
        DrownedCave x = Probe.told(FLAT + KINDS);
        x.lay(0, 0);
        x.lay(0, 1);
        x.swim(1, 0);
        x.stage(0, 1);
        Probe.due("1 at the last one alone", x.bell(), 2);
        x.stage(1, 1);
        Probe.due("1 at each of two", x.bell(), 1);
        x.stage(2, 1);
        Probe.due("1 at each", x.bell(), 0);
        x.stage(0, 1);
        Probe.due("2 at the last one", x.bell(), 2);

        Probe.sentence("BELL; NONE: none.");
        Probe.due("of nothing", new DrownedCave().bell(), -1);
        Probe.due("nothing staged", Probe.told(FLAT + KINDS).bell(), -1);
        x.take(0, 2);
        x.take(1, 1);
        x.take(2, 1);
        Probe.due("all is taken", x.bell(), -1);
    }

    private static void slate() {
        Probe.sentence("SLATE: who has the least gas of those who are not DROWNED; of equal ones the first");
        Probe.due("all alike", Probe.told(FLAT + KINDS).slate(), 0);
        Probe.due("the last one", Probe.told("diver a old gas 5;diver b old gas 5;diver c old gas 4;").slate(), 2);
        Probe.due("the last two", Probe.told("diver a old gas 5;diver b old gas 4;diver c old gas 4;").slate(), 1);
        DrownedCave x = Probe.told(FLAT + "diver a plain gas 1;diver b plain gas 9;diver c plain gas 8;");
        x.stage(0, 1);
        Probe.due("who has nothing", x.slate(), 0);
        x.undo();
        x.swim(0, 0);
        x.hour();
        Probe.due("not who is drowned", x.slate(), 2);

        Probe.sentence("SLATE; NONE: nobody.");
        Probe.due("of nothing", new DrownedCave().slate(), -1);
        Probe.due("nobody told", Probe.told(FLAT).slate(), -1);
        DrownedCave dead = Probe.told(FLAT + "diver a plain gas 1;");
        dead.swim(0, 0);
        dead.hour();
        Probe.due("all are drowned", dead.slate(), -1);
    }

    private static void together() {
        Probe.sentence("TOGETHER: pairs of DIVERS who are in one PLACE, DROWNED or not");
        Probe.due("of nothing", new DrownedCave().together(), 0);
        Probe.due("one", Probe.told(FLAT + "diver a old gas 1;").together(), 0);
        Probe.due("two", Probe.told("place m deep 0;" + NOWHERE).together(), 1);
        Probe.due("two nowhere", Probe.told(NOWHERE).together(), 0);
        Probe.due("four", Probe.told(FLAT + KINDS).together(), 6);
        DrownedCave x = Probe.told(FLAT + "diver a plain gas 1;diver b plain gas 9;");
        x.swim(0, 0);
        Probe.due("apart", x.together(), 0);
        x.hour();
        Probe.due("one is drowned", x.count(5), 1);
        x.swim(1, 0);
        Probe.due("one drowned, one not", x.together(), 1);
        DrownedCave dead = Probe.told(FLAT + "diver a plain gas 1;diver b plain gas 1;");
        dead.swim(0, 0);
        dead.swim(1, 0);
        dead.hour();
        Probe.due("both are drowned", dead.together(), 1);
    }

    private static void spent() {
        Probe.sentence("SPENT: gas that was breathed by all, from the begin, by SWIMMING, LAYING, HOURS (by who DROWNS what they had)");
        Probe.due("of nothing", new DrownedCave().spent(), 0);
        DrownedCave x = Probe.told("place m deep 0;place p deep 4;way m p wide long 2;diver a plain gas 19;diver b plain gas 900;");
        x.stage(1, 9);
        x.share(1, 0, 1);
        x.take(1, 9);
        Probe.due("nothing by these", x.spent(), 0);
        x.swim(0, 0);
        Probe.due("by swimming", x.spent(), 10);
        x.lay(1, 0);
        Probe.due("by laying", x.spent(), 20);
        x.stone(0);
        x.hour();
        Probe.due("by an hour", x.spent(), 30);
        x.hour();
        Probe.due("by another one", x.spent(), 40);
        Probe.due("who has nothing drowns", x.hour(), 1);
        Probe.due("by that one nothing", x.spent(), 45);
        x.hour();
        Probe.due("nothing by the drowned", x.spent(), 50);
        DrownedCave y = Probe.told("place m deep 0;place p deep 4;way m p wide long 1;diver a plain gas 9;");
        y.swim(0, 0);
        Probe.due("who has 4 of 5 drowns", y.hour(), 1);
        Probe.due("by that one 4", y.spent(), 9);
        y.undo();
        Probe.due("what is undone was not breathed", y.spent(), 5);
        Probe.due("from the begin of the next cave", y.cave(), 0);
        Probe.due("nothing", y.spent(), 0);
    }

    // ---- odds

    private static void chance() {
        Probe.sentence("each of so many (1 to 6) HOURS from this one on, and the one behind these, has a rain of 9 by odds of ten, "
            + "else of 0, in place of what is told: that a WAY is BLIND in that last one, in millionths, cut");
        DrownedCave x = Probe.told(FLAT + "rain 7;");
        for (int hours = 1; hours <= 6; hours++) {
            Probe.due("by no odds", x.chance(0, hours, 0), 0);
            Probe.due("by all odds", x.chance(0, hours, 10), 1000000);
        }
        Probe.due("silt 0: five are too few", x.chance(0, 5, 5), 500000);
        Probe.due("silt 0: six are just enough, 7812.5", x.chance(0, 6, 5), 507812);
        Probe.due("silt 0: six by odds of one, 0.9", x.chance(0, 6, 1), 100000);
        Probe.due("silt 0: six by odds of nine, 53144.1", x.chance(0, 6, 9), 953144);
        for (int hour = 0; hour < 5; hour++) {
            x.hour();
        }
        Probe.due("silt 5: one more is enough", x.chance(1, 1, 1), 100000 + 90000);
        Probe.due("silt 5: two of three", x.chance(1, 3, 5), 500000 + 250000);
        x.hour();
        Probe.due("silt 6: one less is not", x.chance(1, 1, 1), 100000 + 90000);
        for (int hour = 0; hour < 4; hour++) {
            x.hour();
        }
        Probe.due("silt 9", x.way(1, 4), 9);
        Probe.due("silt 9, three less: 6", x.chance(1, 3, 0), 1000000);
        Probe.due("silt 9, four less: 5", x.chance(1, 4, 0), 0);
        Probe.due("9 at most: one more and four less", x.chance(1, 5, 1), chanceByHand(9, 5, 1));
        DrownedCave clear = Probe.told(FLAT);
        Probe.due("0 at least", clear.chance(0, 6, 9), 953144);
        Probe.due("nothing is changed by it", clear.count(3) + clear.count(7), 0);
    }

    /** By all rains there can be, each with its weight. */
    private static long chanceByHand(int from, int hours, int odds) {
        long blind = 0;
        long whole = 1;
        for (int rains = 0; rains < 2 << hours; rains++) {
            long weight = 1;
            int silt = from;
            for (int hour = 0; hour < hours; hour++) {
                boolean white = (rains >> hour & 1) == 1;
                weight *= white ? odds : 10 - odds;
                silt = white ? Math.min(9, silt + 1) : Math.max(0, silt - 1);
            }
            boolean white = (rains >> hours & 1) == 1;
            weight *= white ? odds : 10 - odds;
            blind += silt + (white ? 9 : 0) >= 6 ? weight : 0;
        }
        for (int hour = 0; hour <= hours; hour++) {
            whole *= 10;
        }
        return blind * 1000000 / whole;
    }

    private static void chanceOfOthers() {
        Probe.sentence("CHANCE, by odds (0 to 10); NONE: others.");
        DrownedCave x = Probe.told(FLAT);
        for (int other : Probe.others(2)) {
            Probe.due("chance(" + other + ", 1, 5)", x.chance(other, 1, 5), -1);
        }
        for (int hours : new int[] {Integer.MIN_VALUE, -1, 0, 7, 8, 32, Integer.MAX_VALUE}) {
            Probe.due("chance(0, " + hours + ", 5)", x.chance(0, hours, 5), -1);
        }
        for (int odds : Probe.others(11)) {
            Probe.due("chance(0, 1, " + odds + ")", x.chance(0, 1, odds), -1);
        }
        for (int silt = 0; silt <= 9; silt++) {
            for (int hours = 1; hours <= 6; hours++) {
                for (int odds = silt % 2; odds <= 10; odds += 2) {
                    Probe.due("silt " + silt + ", chance(0, " + hours + ", " + odds + ")",
                        whiteFor(silt).chance(0, hours, odds), chanceByHand(silt, hours, odds));
                }
            }
        }
        Probe.due("of nothing", new DrownedCave().chance(0, 1, 5), -1);
    }

    private static DrownedCave whiteFor(int hours) {
        DrownedCave x = Probe.told("place m deep 0;place p deep 0;way m p wide long 1;rain 9;");
        for (int hour = 0; hour < hours; hour++) {
            x.hour();
        }
        return x;
    }

    // ---- rests

    private static void rests() {
        Probe.sentence("both go: each loses so much (0 to 9); one goes: he gets so much (0 to 9), the other one so much (0 to 9); "
            + "both yield: nothing: RESTS: by which neither would get more by the other");
        DrownedCave zero = new DrownedCave();
        Probe.due("nobody would get more by any", zero.rests(0, 0, 0, -1), 4);
        for (int i = 0; i < 4; i++) {
            Probe.due("all four in their order", zero.rests(0, 0, 0, i), i);
        }
        int[] edges = {0, 1, 8, 9};
        for (int lose : edges) {
            for (int goes : edges) {
                for (int yields : edges) {
                    restsByHand(lose, goes, yields);
                }
            }
        }
    }

    private static void restsByHand(int lose, int goes, int yields) {
        DrownedCave x = new DrownedCave();
        int[][] gets = {{0, yields}, {goes, -lose}};
        int found = 0;
        for (int first = 0; first < 2; first++) {
            for (int second = 0; second < 2; second++) {
                if (gets[first][second] >= gets[1 - first][second] && gets[second][first] >= gets[1 - second][first]) {
                    Probe.due("rests(" + lose + ", " + goes + ", " + yields + ", " + found + ")",
                        x.rests(lose, goes, yields, found), 2 * first + second);
                    found++;
                }
            }
        }
        Probe.due("rests(" + lose + ", " + goes + ", " + yields + ", -1)", x.rests(lose, goes, yields, -1), found);
        Probe.due("one behind the last", Probe.restsThrows(x, lose, goes, yields, found), true);
    }

    private static void orderOfRests() {
        Probe.sentence("RESTS of NARROW by what both lose, who goes alone gets, who yields then gets, what NONE: how many; i: the i-th "
            + "as 2 * the first one's choice + the other one's (1 goes; the least first)");
        DrownedCave x = new DrownedCave();
        Probe.due("both go, and one does", x.rests(0, 1, 0, -1), 3);
        Probe.due("the second one goes", x.rests(0, 1, 0, 0), 1);
        Probe.due("the first one goes", x.rests(0, 1, 0, 1), 2);
        Probe.due("both go", x.rests(0, 1, 0, 2), 3);
        Probe.due("both yield, and one does", x.rests(1, 0, 0, -1), 3);
        Probe.due("both yield", x.rests(1, 0, 0, 0), 0);
        Probe.due("the second one goes", x.rests(1, 0, 0, 1), 1);
        Probe.due("the first one goes", x.rests(1, 0, 0, 2), 2);
        Probe.due("who yields gets more", x.rests(0, 0, 1, 0), 0);
    }

    private static void restsOfOthers() {
        Probe.sentence("NoSuchElementException: others, none such.");
        DrownedCave x = new DrownedCave();
        for (int other : Probe.others(10)) {
            for (int what = -1; what < 2; what++) {
                Probe.due("both lose " + other, Probe.restsThrows(x, other, 1, 1, what), true);
                Probe.due("who goes gets " + other, Probe.restsThrows(x, 1, other, 1, what), true);
                Probe.due("who yields gets " + other, Probe.restsThrows(x, 1, 1, other, what), true);
            }
        }
        for (int what : Probe.others(4)) {
            Probe.due("what " + what, Probe.restsThrows(x, 0, 0, 0, what), what != -1);
        }
        Probe.due("two there are", x.rests(2, 5, 1, -1), 2);
        Probe.due("a third", Probe.restsThrows(x, 2, 5, 1, 2), true);
        Probe.due("the last one is there behind all that", x.rests(9, 9, 9, 1), 2);
    }

    // ---- draws

    private static void draws() {
        Probe.sentence("A DRAW below m: g becomes (g * 1103515245 + 12345) modulo 2147483648 (g is the SEED at first); it is g / "
            + "65536, cut, modulo m");
        int[] seeds = {0, 1, 2, 5000, 9998, 9999};
        for (int seed : seeds) {
            yearsByHand(FLAT + KINDS, seed, 1);
            yearsByHand(FLAT + KINDS, seed, 99);
            yearsByHand(FLAT + "diver a plain gas 9;", seed, 40);
            yearsByHand("place m deep 0;place p deep 3;way m p narrow long 1;" + KINDS, seed, 60);
        }

        Probe.sentence("a DRAW below DIVERS, one below WAYS, one below 4: 0: that LAY, 1, 2: that SWIM (if it can be), 3: the HOUR: "
            + "how often one SWAM or LAID by these; who is DROWNED at last, as bits; gas of all at last");
        for (int seed = 0; seed < 40; seed++) {
            yearsByHand("place m deep 0;place p deep 0;way m p wide long 1;diver a plain gas 2;", seed, 1);
            yearsByHand("place m deep 0;place p deep 0;way m p wide long 1;diver a plain gas 2;diver b plain gas 3;", seed, 9);
            yearsByHand("place m deep 0;place p deep 0;way m p wide long 1;diver a plain gas 900;rain 9 0;", seed, 30);
        }
    }

    /** The same steps by hand, each asked of the object's own deeds. */
    private static void yearsByHand(String cave, int seed, int steps) {
        DrownedCave x = Probe.told(cave);
        BigInteger g = BigInteger.valueOf(seed);
        int[] answers = {x.years(seed, steps, 0), x.years(seed, steps, 1), x.years(seed, steps, 2)};
        int[] bounds = {x.count(2), x.count(1), 4};
        int moves = 0;
        for (int step = 0; step < steps; step++) {
            int[] drawn = new int[3];
            for (int i = 0; i < 3; i++) {
                g = g.multiply(BigInteger.valueOf(1103515245)).add(BigInteger.valueOf(12345))
                    .mod(BigInteger.valueOf(2147483648L));
                drawn[i] = g.divide(BigInteger.valueOf(65536)).intValue() % bounds[i];
            }
            if (drawn[2] == 3) {
                x.hour();
            } else if ((drawn[2] == 0 ? x.lay(drawn[0], drawn[1]) : x.swim(drawn[0], drawn[1])) != -1) {
                moves++;
            }
        }
        Probe.due("years(" + seed + ", " + steps + ", 0)", answers[0], moves);
        Probe.due("years(" + seed + ", " + steps + ", 1)", answers[1], x.count(5));
        Probe.due("years(" + seed + ", " + steps + ", 2)", answers[2], x.count(8));
    }

    private static void years() {
        Probe.sentence("YEARS by a SEED of so many (1 to 99) steps, from now on (all is as ahead then)");
        DrownedCave x = Probe.told(FLAT + KINDS + "rain 0 3;");
        x.lay(0, 0);
        x.hour();
        x.find(1, 1);
        x.mark(0, false);
        String before = Probe.state(x);
        for (int what = 0; what < 3; what++) {
            int first = x.years(9, 99, what);
            Probe.due("the same once more, " + what, x.years(9, 99, what), first);
        }
        Probe.same("all is as ahead", Probe.state(x), before);
        Probe.due("undone", x.undo(), true);
        Probe.due("the hour", x.count(3), 0);
        DrownedCave dead = Probe.told(FLAT + "diver a plain gas 1;diver b plain gas 9;");
        dead.swim(0, 0);
        dead.hour();
        Probe.due("who is drowned ahead, too", dead.years(1, 1, 1) & 1, 1);
        Probe.due("1 step", x.years(1, 1, 0) >= 0, true);
        Probe.due("99 steps", x.years(1, 99, 0) >= 0, true);

        Probe.sentence("each, if there are DIVERS and WAYS");
        DrownedCave noWays = Probe.told("place m deep 0;" + KINDS);
        DrownedCave noDivers = Probe.told(FLAT);
        DrownedCave bare = Probe.told(NOWHERE);
        int[] gas = {360, 0, 18, 0};
        DrownedCave[] all = {noWays, noDivers, bare, new DrownedCave()};
        for (int i = 0; i < all.length; i++) {
            Probe.due("how many", all[i].years(3, 99, 0), 0);
            Probe.due("who is drowned", all[i].years(3, 99, 1), 0);
            Probe.due("gas", all[i].years(3, 99, 2), gas[i]);
        }
    }

    private static void yearsOfOthers() {
        Probe.sentence("YEARS by a SEED (0 to 9999), what 0: how many, 1: bits, 2: gas; NONE: others.");
        DrownedCave x = Probe.told(FLAT + KINDS);
        for (int seed : new int[] {Integer.MIN_VALUE, -1, 10000, 10001, 65536, Integer.MAX_VALUE}) {
            Probe.due("years(" + seed + ", 1, 2)", x.years(seed, 1, 2), -1);
        }
        for (int steps : new int[] {Integer.MIN_VALUE, -1, 0, 100, 101, Integer.MAX_VALUE}) {
            Probe.due("years(0, " + steps + ", 2)", x.years(0, steps, 2), -1);
        }
        for (int what : Probe.others(3)) {
            Probe.due("years(0, 1, " + what + ")", x.years(0, 1, what), -1);
            Probe.due("years(0, 1, " + what + ") of nothing", new DrownedCave().years(0, 1, what), -1);
        }
        Probe.due("of seed 0", x.years(0, 1, 2) >= 0, true);
        Probe.due("of seed 9999", x.years(9999, 1, 2) >= 0, true);
    }

    // ---- marks and counts

    private static void marks() {
        Probe.sentence("MARKS 0 to 3 hold all that UNDO brings back, what is FOUND (nothing can be undone when one is gone back to)");
        DrownedCave x = Probe.told("place m deep 0;place p deep 0;way m p wide long 1;diver a plain gas 2;diver b plain gas 90;");
        x.lay(1, 0);
        x.stage(1, 5);
        x.find(0, 0);
        x.mark(0, false);
        String marked = Probe.world(x);
        x.swim(0, 0);
        x.take(0, 1);
        x.share(1, 0, 1);
        x.stone(0);
        x.stage(0, 3);
        Probe.due("one drowns", x.hour(), 1);
        x.find(1, 1);
        Probe.due("gone back to", x.mark(0, true), true);
        Probe.same("all as it was", Probe.world(x), marked);
        Probe.due("nothing can be", x.undo(), false);
        x.hour();
        x.find(1, 7);
        Probe.due("gone back to once more", x.mark(0, true), true);
        Probe.same("as it was", Probe.world(x), marked);

        DrownedCave found = Probe.told(FLAT + KINDS + "breath 5;");
        found.mark(0, false);
        found.find(1, 4);
        found.mark(1, false);
        found.mark(0, true);
        found.find(2, 10);
        Probe.due("by something else", found.who(), 9);
        found.mark(1, true);
        Probe.due("by what was found then", found.who(), 2);

        DrownedCave four = Probe.told(FLAT + KINDS);
        for (int mark = 0; mark < 4; mark++) {
            Probe.due("mark " + mark + " is laid", four.mark(mark, false), true);
            four.hour();
            four.find(0, mark);
        }
        Probe.due("laying leaves what can be undone", four.count(12), 4);
        for (int mark = 3; mark >= 0; mark--) {
            Probe.due("mark " + mark + " is gone back to", four.mark(mark, true), true);
            Probe.due("its hour", four.count(3), mark);
            Probe.due("what was found then", four.count(11), mark);
        }
        four.mark(3, true);
        four.mark(0, false);
        four.mark(1, true);
        Probe.due("mark 0 laid anew", four.mark(0, true), true);
        Probe.due("its hour", four.count(3), 3);
        Probe.due("a dive stays when one is gone back to", Probe.dive(four, "hour;") == 0 && four.mark(1, true), true);
        Probe.due("its lines", four.count(10), 1);
        four.feed('a', 0, 0);
        four.mark(2, true);
        Probe.due("and the tape", four.count(13), 1);
    }

    private static void marksOfOthers() {
        Probe.sentence("A MARK is laid (back: gone back to): true; false: none such, nothing is on it (back).");
        DrownedCave x = Probe.told(FLAT + KINDS);
        x.hour();
        for (int other : Probe.others(4)) {
            Probe.due("mark(" + other + ", false)", x.mark(other, false), false);
            Probe.due("mark(" + other + ", true)", x.mark(other, true), false);
        }
        for (int mark = 0; mark < 4; mark++) {
            Probe.due("nothing is on " + mark, x.mark(mark, true), false);
        }
        Probe.due("the hour stays", x.count(3), 1);
        Probe.due("what can be undone stays", x.count(12), 1);
        x.mark(2, false);
        for (int mark = 0; mark < 4; mark++) {
            Probe.due("2 alone is laid, " + mark, x.mark(mark, true), mark == 2);
        }
        Probe.due("of nothing", new DrownedCave().mark(3, false), true);
        Probe.due("of nothing, back", new DrownedCave().mark(3, true), false);
        Probe.due("of nothing, a fifth", new DrownedCave().mark(4, false), false);
    }

    private static void counts() {
        Probe.sentence("What 0: PLACES, 1: WAYS, 2: DIVERS, 3: the hour, 4: its rain, 5: who is DROWNED, as bits, 6: WAYS with thread, "
            + "as bits, 7: silt of all, 8: gas of all DIVERS, 9: gas staged of all, 10: lines of the DIVE, 11: FOUND, 12: what can be "
            + "undone, 13: signs on the TAPE. NONE for another what.");
        DrownedCave x = Probe.told(FLAT + "diver a plain gas 2;diver b plain gas 99;rain 4 5 6;");
        x.lay(0, 0);
        x.lay(1, 0);
        x.swim(1, 0);
        x.stage(1, 9);
        x.stage(0, 1);
        x.hour();
        x.hour();
        x.find(0, 0);
        Probe.dive(x, "hour;hour;");
        x.feed('a', 'b', 'c');
        int[] due = {3, 2, 2, 2, 6, 1, 1, 2, 87, 10, 2, 1, 6, 3};
        for (int what = 0; what < due.length; what++) {
            Probe.due("count(" + what + ")", x.count(what), due[what]);
            Probe.due("count(" + what + ") of nothing", new DrownedCave().count(what), 0);
        }
        for (int other : Probe.others(14)) {
            Probe.due("count(" + other + ")", x.count(other), -1);
            Probe.due("count(" + other + ") of nothing", new DrownedCave().count(other), -1);
        }
    }
}
