/** Promises 38 to 41 and 44 to 48: small questions, odds, rests, draws, marks and counts. */
public final class QuestionsTest {
    private static final String FLAT = "place m deep 0 ; place p deep 0 ; place q deep 0 ; "
        + "way m p wide long 1 ; way p q narrow long 1 ; "
        + "diver a plain gas 60 ; diver b plain gas 50 ; diver c plain gas 50 ; ";

    private QuestionsTest() {
    }

    public static void main(String[] args) {
        bells();
        slates();
        pairs();
        breathing();
        chances();
        rests();
        years();
        marks();
        counts();
        Probe.close();
    }

    private static void bells() {
        DrownedCave x = Probe.told(FLAT);
        Probe.due("nothing is staged", x.bell(), -1);
        x.swim(0, 0);
        x.stage(0, 1);
        Probe.due("there alone", x.bell(), 1);
        x.stage(0, 4);
        x.stage(1, 5);
        Probe.due("of equal ones the first", x.bell(), 0);
        x.stage(0, 1);
        Probe.due("the most", x.bell(), 1);
        x.take(0, 6);
        x.take(1, 5);
        Probe.due("nothing is left", x.bell(), -1);
    }

    private static void slates() {
        DrownedCave x = Probe.told(FLAT);
        Probe.due("of equal ones the first", x.slate(), 1);
        x.stage(2, 1);
        Probe.due("the least", x.slate(), 2);
        Probe.due("nobody", new DrownedCave().slate(), -1);
        Probe.due("nowhere", Probe.told("diver a plain gas 5 ; diver b plain gas 4 ;").slate(), 1);
    }

    private static void pairs() {
        DrownedCave x = Probe.told(FLAT + "diver d plain gas 50 ;");
        Probe.due("four", x.together(), 6);
        x.swim(0, 0);
        Probe.due("three", x.together(), 3);
        x.swim(1, 0);
        Probe.due("two and two", x.together(), 2);
        x.swim(1, 1);
        Probe.due("two alone", x.together(), 1);
        Probe.due("nobody", new DrownedCave().together(), 0);
    }

    private static void breathing() {
        DrownedCave x = Probe.told("place m deep 0 ; place p deep 4 ; way m p wide long 3 ; diver a plain gas 32 ; diver b old gas 99 ;");
        x.swim(0, 0);
        Probe.due("by swimming", x.spent(), 15);
        x.lay(1, 0);
        Probe.due("by laying", x.spent(), 27);
        x.stage(1, 9);
        x.share(1, 0, 1);
        Probe.due("not by staging, nor by sharing", x.spent(), 27);
        x.hour();
        Probe.due("by an hour", x.spent(), 36);
        x.hour();
        x.hour();
        Probe.due("by two more", x.spent(), 54);
        Probe.due("the first one drowns", x.hour(), 1);
        Probe.due("by what they had", x.spent(), 54 + 3 + 4);
        Probe.due("gas of all", x.count(8), 99 - 12 - 9 - 1 - 16);
        x.undo();
        Probe.due("undone", x.spent(), 54);
    }

    private static void chances() {
        DrownedCave x = Probe.told(FLAT + "rain 7 ;");
        Probe.due("no odds", x.chance(0, 3, 0), 0);
        Probe.due("all odds", x.chance(0, 3, 10), 1000000);
        Probe.due("without silt: the last hour's rain", x.chance(0, 5, 3), 300000);
        Probe.due("6 by six: 510.3, cut", x.chance(0, 6, 3), 300000 + 510);
        x.hour();
        x.hour();
        x.hour();
        x.hour();
        Probe.due("silt 4", x.way(0, 4), 4);
        Probe.due("5: not by silt", x.chance(0, 1, 2), 200000);
        Probe.due("6 by two", x.chance(0, 2, 5), 500000 + 125000);
        Probe.due("6 by two, other odds", x.chance(0, 2, 3), 300000 + 63000);
        x.hour();
        Probe.due("silt 5: by one", x.chance(0, 1, 3), 300000 + 210000);
        Probe.due("silt 5: three or two of three", x.chance(0, 3, 3), 300000 + 151200);
        Probe.due("silt 5: four or more of six", x.chance(0, 6, 3), 300000 + 49329);
        for (int i = 0; i < 6; i++) {
            x.hour();
        }
        Probe.due("silt 9", x.way(0, 4), 9);
        Probe.due("9 at most", x.chance(0, 6, 5), 500000 + 437500);
        Probe.due("hours 0", x.chance(0, 0, 5), -1);
        Probe.due("hours 7", x.chance(0, 7, 5), -1);
        Probe.due("odds -1", x.chance(0, 1, -1), -1);
        Probe.due("odds 11", x.chance(0, 1, 11), -1);
        Probe.due("chance(-1, 1, 5)", x.chance(-1, 1, 5), -1);
        Probe.due("chance(2, 1, 5)", x.chance(2, 1, 5), -1);
    }

    private static void rests() {
        DrownedCave x = new DrownedCave();
        int[][] due = {{2, 5, 1, 1, 2}, {0, 5, 0, 1, 2, 3}, {0, 0, 0, 0, 1, 2, 3}, {9, 0, 9, 0, 1, 2}, {1, 0, 0, 0, 1, 2},
            {0, 1, 0, 1, 2, 3}, {9, 9, 9, 1, 2}, {0, 0, 1, 0, 1, 2}};
        for (int[] row : due) {
            Probe.due("how many", x.rests(row[0], row[1], row[2], -1), row.length - 3);
            for (int i = 3; i < row.length; i++) {
                Probe.due("rest " + (i - 3), x.rests(row[0], row[1], row[2], i - 3), row[i]);
            }
            Probe.due("one more", Probe.restsThrows(x, row[0], row[1], row[2], row.length - 3), true);
        }
        int[][] others = {{-1, 0, 0, -1}, {10, 0, 0, -1}, {0, -1, 0, -1}, {0, 10, 0, -1}, {0, 0, -1, -1}, {0, 0, 10, -1},
            {0, 0, 0, -2}, {0, 0, 0, 4}, {0, 0, 0, Integer.MAX_VALUE}, {0, 0, 0, Integer.MIN_VALUE}};
        for (int[] row : others) {
            Probe.due("others", Probe.restsThrows(x, row[0], row[1], row[2], row[3]), true);
        }
    }

    private static void years() {
        DrownedCave x = Probe.told(FLAT);
        int moves = x.years(5, 1, 0) + x.years(5, 1, 1);
        Probe.due("all is as ahead", x.count(3) + x.count(7) + x.count(6) + x.count(12) + x.spent(), 0);
        Probe.due("the same again", x.years(5, 1, 0) + x.years(5, 1, 1), moves);
        yearsByHand(x, 7, 99);
        yearsByHand(x, 0, 1);
        yearsByHand(x, 9999, 40);
        x.lay(1, 0);
        x.hour();
        x.swim(0, 0);
        yearsByHand(x, 123, 60);
        yearsByHand(x, 4321, 99);
        int[][] others = {{-1, 1, 0}, {10000, 1, 0}, {0, 0, 0}, {0, 100, 0}, {0, 1, -1}, {0, 1, 3}};
        for (int[] row : others) {
            Probe.due("others", x.years(row[0], row[1], row[2]), -1);
        }
        yearsByHand(Probe.told("place m deep 0 ; place p deep 3 ; way m p wide long 1 ; diver a plain gas 50 ;"), 77, 50);
        DrownedCave dry = Probe.told("place m deep 0 ; diver a plain gas 7 ;");
        Probe.due("no ways", dry.years(1, 99, 0), 0);
        Probe.due("no ways", dry.years(1, 99, 1), 0);
        Probe.due("no ways", dry.years(1, 99, 2), 7);
        DrownedCave empty = Probe.told("place m deep 0 ; place p deep 0 ; way m p wide long 1 ;");
        Probe.due("no divers", empty.years(1, 99, 0), 0);
        Probe.due("no divers", empty.years(1, 99, 2), 0);
    }

    /** The same steps by hand, behind a mark that is gone back to at last. */
    private static void yearsByHand(DrownedCave x, int seed, int steps) {
        int moves = x.years(seed, steps, 0);
        int drowned = x.years(seed, steps, 1);
        int gas = x.years(seed, steps, 2);
        x.mark(3, false);
        long g = seed;
        int done = 0;
        int[] bounds = {x.count(2), x.count(1), 4};
        for (int i = 0; i < steps; i++) {
            int[] drawn = new int[3];
            for (int k = 0; k < 3; k++) {
                g = (g * 1103515245L + 12345) & 0x7fffffffL;
                drawn[k] = (int) ((g >> 16) % bounds[k]);
            }
            if (drawn[2] == 3) {
                x.hour();
            } else if ((drawn[2] == 0 ? x.lay(drawn[0], drawn[1]) : x.swim(drawn[0], drawn[1])) >= 0) {
                done++;
            }
        }
        Probe.due("years(" + seed + ", " + steps + ", 0)", moves, done);
        Probe.due("years(" + seed + ", " + steps + ", 1)", drowned, x.count(5));
        Probe.due("years(" + seed + ", " + steps + ", 2)", gas, x.count(8));
        x.mark(3, true);
    }

    private static void marks() {
        DrownedCave x = Probe.told(FLAT);
        Probe.due("nothing is on it", x.mark(0, true), false);
        Probe.due("mark(-1, false)", x.mark(-1, false), false);
        Probe.due("mark(4, false)", x.mark(4, false), false);
        Probe.due("mark(-1, true)", x.mark(-1, true), false);
        Probe.due("mark(4, true)", x.mark(4, true), false);
        x.lay(0, 0);
        x.stage(0, 7);
        x.find(0, 0);
        Probe.due("mark(0, false)", x.mark(0, false), true);
        Probe.due("laying one leaves what can be undone", x.count(12), 2);
        x.hour();
        x.swim(1, 0);
        x.stone(0);
        x.take(1, 7);
        x.share(1, 0, 3);
        x.find(1, 5);
        Probe.due("dive()", Probe.dive(x, "hour;"), 0);
        Probe.due("mark(3, false)", x.mark(3, false), true);
        Probe.due("gone back", x.mark(0, true), true);
        int[] due = {3, 2, 3, 0, 0, 0, 1, 2, 152, 7, 1, 1, 0, 0};
        for (int what = 0; what < due.length; what++) {
            Probe.due("count(" + what + ") behind it", x.count(what), due[what]);
        }
        Probe.due("nothing can be undone", x.undo(), false);
        Probe.due("spent", x.spent(), 1);
        Probe.due("who is there", x.place(1, 2), 1);
        Probe.due("hours", x.diver(0, 3), 0);
        x.hour();
        x.find(2, 2);
        Probe.due("gone back once more", x.mark(0, true), true);
        Probe.due("the hour", x.count(3), 0);
        Probe.due("found", x.count(11), 1);
        Probe.due("the other one", x.mark(3, true), true);
        Probe.due("the hour", x.count(3), 1);
        Probe.due("found", x.count(11), 2);
        Probe.due("thread", x.count(6), 0);
        Probe.due("hours", x.diver(0, 3), 1);
        Probe.due("one on which nothing is", x.mark(1, true), false);
        x.hour();
        Probe.due("laid anew", x.mark(3, false), true);
        x.hour();
        Probe.due("gone back to what was laid last", x.mark(3, true), true);
        Probe.due("the hour", x.count(3), 2);
        Probe.due("a mark on nothing", new DrownedCave().mark(2, false), true);
    }

    private static void counts() {
        DrownedCave x = Probe.told(FLAT + "rain 3 1 4 ;");
        x.lay(0, 0);
        x.lay(0, 1);
        x.stage(0, 9);
        x.stage(1, 8);
        x.hour();
        x.find(0, 3);
        Probe.due("dive()", Probe.dive(x, "hour;hour;stone 0;"), 0);
        Probe.feed(x, "rain");
        int[] due = {3, 2, 3, 1, 1, 0, 3, 3, 160 - 17 - 2 - 1, 17, 3, 1, 5, 4};
        for (int what = 0; what < due.length; what++) {
            Probe.due("count(" + what + ")", x.count(what), due[what]);
        }
        Probe.due("count(-1)", x.count(-1), -1);
        Probe.due("count(14)", x.count(14), -1);
    }
}
