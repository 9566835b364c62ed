/** Promises 5 to 17 and 41: what is there, what is done, undone, and judged. */
public final class DeedsTest {
    private static final String CAVE = "place mouth deep 1 ; place hall deep 4 ; place well deep 5 ; place sump deep 9 ; "
        + "way mouth hall wide long 2 ; way well hall narrow long 3 ; way sump well wide long 1 ; "
        + "diver ann plain gas 100 ; diver bob old gas 90 ; diver cid afraid gas 80 ; diver dan calm gas 70 ; ";
    private static final String FLAT = "place m deep 0 ; place p deep 0 ; way m p wide long 1 ; "
        + "diver a plain gas 900 ; diver b plain gas 900 ; ";

    private DeedsTest() {
    }

    public static void main(String[] args) {
        whatIsThere();
        costs();
        laws();
        longLaws();
        swimming();
        silting();
        laying();
        staging();
        taking();
        sharing();
        stones();
        hours();
        hoursOfWays();
        drowning();
        nowhere();
        undoing();
        judging();
        Probe.close();
    }

    private static void whatIsThere() {
        DrownedCave x = Probe.told(CAVE + "rain 6 ;");
        int[] depths = {1, 4, 5, 9};
        for (int place = 0; place < 4; place++) {
            Probe.due("place(" + place + ", 0)", x.place(place, 0), depths[place]);
            Probe.due("place(" + place + ", 1)", x.place(place, 1), 0);
            Probe.due("place(" + place + ", 2)", x.place(place, 2), place == 0 ? 15 : 0);
        }
        int[] narrow = {2, 1, 3, 1, 0, 0, 1};
        for (int what = 0; what < 7; what++) {
            Probe.due("way(1, " + what + ")", x.way(1, what), narrow[what]);
        }
        Probe.due("a wide one", x.way(0, 3), 0);
        int[] calm = {3, 0, 70, 0, 0};
        for (int what = 0; what < 5; what++) {
            Probe.due("diver(3, " + what + ")", x.diver(3, what), calm[what]);
        }
        for (int kind = 0; kind < 4; kind++) {
            Probe.due("diver(" + kind + ", 0)", x.diver(kind, 0), kind);
        }
        int[][] others = {{-1, 0}, {4, 0}, {0, -1}, {0, 3}};
        for (int[] pair : others) {
            Probe.due("place of others", x.place(pair[0], pair[1]), -1);
        }
        Probe.due("way(-1, 0)", x.way(-1, 0), -1);
        Probe.due("way(3, 0)", x.way(3, 0), -1);
        Probe.due("way(0, 7)", x.way(0, 7), -1);
        Probe.due("way(0, -1)", x.way(0, -1), -1);
        Probe.due("diver(-1, 0)", x.diver(-1, 0), -2);
        Probe.due("diver(4, 0)", x.diver(4, 0), -2);
        Probe.due("diver(0, 5)", x.diver(0, 5), -2);
        Probe.due("diver(0, -1)", x.diver(0, -1), -2);
    }

    private static void costs() {
        DrownedCave x = Probe.told(CAVE);
        int[][] due = {{10, 18, 10}, {8, 15, 9}, {12, 24, 12}, {10, 18, 10}};
        for (int diver = 0; diver < 4; diver++) {
            for (int way = 0; way < 3; way++) {
                Probe.due("cost(" + diver + ", " + way + ")", x.cost(diver, way), due[diver][way]);
            }
        }
        Probe.due("cost(-1, 0)", x.cost(-1, 0), -1);
        Probe.due("cost(4, 0)", x.cost(4, 0), -1);
        Probe.due("cost(0, -1)", x.cost(0, -1), -1);
        Probe.due("cost(0, 3)", x.cost(0, 3), -1);
    }

    /** The law's answer is seen by the cost of a way of length 1; a plain one breathes just it. */
    private static void laws() {
        law("7", 7);
        law("0", 1);
        law("1 - 5", 1);
        law("20", 20);
        law("21", 20);
        law("9999", 20);
        law("10 - 3 - 2", 5);
        law("2 + 3 * 4", 14);
        law("2 * 3 + 4", 10);
        law("( 2 + 1 ) * 4", 12);
        law("10 - 2 + 3", 11);
        law("1 + 2 < 4", 1);
        law("4 + ( 3 < 2 )", 4);
        law("4 + ( 3 < 3 )", 4);
        law("4 + ( 2 < 3 )", 5);
        law("4 + ( 3 = 3 )", 5);
        law("4 + ( 3 = 2 )", 4);
        law("4 + not 0", 5);
        law("4 + not 7", 4);
        law("4 + not ( 1 - 1 )", 5);
        law("not 0 * 6 + 2", 8);
        law("4 + ( 7 and 8 )", 5);
        law("4 + ( 1 and 1 )", 5);
        law("4 + ( 7 and 0 )", 4);
        law("4 + ( 0 and 7 )", 4);
        law("4 + ( 0 or 8 )", 5);
        law("4 + ( 0 or 0 )", 4);
        law("4 + ( 1 or 1 and 0 )", 4);
        law("4 + ( 0 and 1 or 1 )", 5);
        law("5 + depth", 12);
        law("5 + white", 9);
        law("5 + silt", 5);
        law("5 + hours", 5);
        law("9999 * 9999 * 43 - 9999 * 417 - 3158", 6);
        law("9999 * 9999 * 22", 1);
        law("3 + ( 9999 * 9999 * 22 < 0 )", 4);
    }

    private static void longLaws() {
        law("9" + "+1-1".repeat(220), 9);
        law("9" + " and 1 or 0".repeat(80), 1);
        law("3*2" + "*1".repeat(440), 6);
        String deep = "0 or 0 < 2 - 1 * 1";
        for (int within = 0; within < 3; within++) {
            deep = "0 or 0 < 2 - 1 * ( " + deep + " )";
        }
        law("9 - 2 * ( " + deep + " )", 7);
        law("4 + not not not not 7", 5);
    }

    private static void law(String law, int due) {
        DrownedCave x = Probe.told("place m deep 3 ; place p deep 7 ; way m p wide long 1 ; "
            + "diver a plain gas 900 ; rain 4 ; breath " + law + " ;");
        Probe.due("cost by breath " + law, x.cost(0, 0), due);
    }

    private static void swimming() {
        DrownedCave x = Probe.told(CAVE);
        Probe.due("swim(0, 0)", x.swim(0, 0), 1);
        Probe.due("its gas", x.diver(0, 2), 90);
        Probe.due("its place", x.diver(0, 1), 1);
        Probe.due("who is in the hall", x.place(1, 2), 1);
        Probe.due("who is at the mouth", x.place(0, 2), 14);
        Probe.due("gas breathed", x.spent(), 10);
        Probe.due("silt of a wide way", x.way(0, 4), 2);
        Probe.due("a way that is not at hand", x.swim(0, 2), -1);
        Probe.due("a narrow way, from its second end", x.swim(0, 1), 2);
        Probe.due("silt of a narrow way", x.way(1, 4), 3);
        Probe.due("deeper", x.swim(0, 2), 3);
        Probe.due("and back", x.swim(0, 2), 2);
        Probe.due("swim(-1, 0)", x.swim(-1, 0), -1);
        Probe.due("swim(4, 0)", x.swim(4, 0), -1);
        Probe.due("swim(1, -1)", x.swim(1, -1), -1);
        Probe.due("swim(1, 3)", x.swim(1, 3), -1);
        Probe.due("what can't be can't be undone", x.count(12), 4);

        DrownedCave poor = Probe.told("place m deep 0 ; place p deep 4 ; way m p wide long 1 ; "
            + "diver a plain gas 5 ; diver b afraid gas 5 ;");
        Probe.due("gas that is just enough", poor.swim(0, 0), 1);
        Probe.due("nothing is left", poor.diver(0, 2), 0);
        Probe.due("too little", poor.swim(1, 0), -1);
        Probe.due("who has nothing is not drowned", poor.diver(0, 4), 0);
    }

    private static void silting() {
        DrownedCave x = Probe.told(FLAT);
        x.swim(0, 0);
        x.swim(0, 0);
        Probe.due("silt 4: not blind", x.way(0, 6), 0);
        Probe.due("a third time", x.swim(0, 0), 1);
        Probe.due("silt 6: blind", x.way(0, 6), 1);
        Probe.due("no swimming", x.swim(0, 0), -1);
        Probe.due("no laying", x.lay(1, 0), -1);
        x.undo();
        Probe.due("laid in time", x.lay(0, 0), 1);
        Probe.due("by thread all the same", x.swim(0, 0), 0);
        Probe.due("silt 8", x.way(0, 4), 8);
        Probe.due("blind by thread, too", x.way(0, 6), 1);
        x.swim(0, 0);
        Probe.due("silt 9 at most", x.way(0, 4), 9);
        Probe.due("silt of all", x.count(7), 9);
        Probe.due("the thread is cut", x.stone(0), true);
        Probe.due("no swimming then", x.swim(0, 0), -1);

        DrownedCave rainy = Probe.told(FLAT + "rain 5 6 ;");
        Probe.due("rain 5 alone: not blind", rainy.way(0, 6), 0);
        rainy.hour();
        Probe.due("rain 6 alone: blind", rainy.way(0, 6), 1);
        Probe.due("no swimming", rainy.swim(0, 0), -1);
    }

    private static void laying() {
        DrownedCave x = Probe.told(CAVE);
        Probe.due("lay(1, 0)", x.lay(1, 0), 1);
        Probe.due("its gas", x.diver(1, 2), 82);
        Probe.due("gas breathed", x.spent(), 8);
        Probe.due("its thread", x.way(0, 5), 1);
        Probe.due("its silt", x.way(0, 4), 2);
        Probe.due("ways with thread", x.count(6), 1);
        Probe.due("a way with thread", x.lay(0, 0), -1);
        Probe.due("nothing was spent by that", x.diver(0, 2), 100);
        Probe.due("a narrow one", x.lay(1, 1), 2);
        Probe.due("its silt", x.way(1, 4), 3);
        Probe.due("ways with thread", x.count(6), 3);
        Probe.due("a way that is not at hand", x.lay(0, 2), -1);
        Probe.due("lay(-1, 0)", x.lay(-1, 0), -1);
        Probe.due("lay(4, 2)", x.lay(4, 2), -1);
        Probe.due("lay(1, -1)", x.lay(1, -1), -1);
        Probe.due("lay(1, 3)", x.lay(1, 3), -1);
        DrownedCave poor = Probe.told("place m deep 0 ; place p deep 5 ; way m p wide long 1 ; diver a plain gas 5 ;");
        Probe.due("too little gas", poor.lay(0, 0), -1);
        Probe.due("no thread by that", poor.count(6), 0);
    }

    private static void staging() {
        DrownedCave x = Probe.told(CAVE);
        x.swim(2, 0);
        Probe.due("stage(2, 30)", x.stage(2, 30), 30);
        Probe.due("its gas", x.diver(2, 2), 38);
        Probe.due("what is there", x.place(1, 1), 30);
        Probe.due("once more", x.stage(2, 1), 31);
        Probe.due("more than one has", x.stage(2, 38), -1);
        Probe.due("all that one has", x.stage(2, 37), 68);
        Probe.due("at the mouth", x.stage(0, 99), 99);
        Probe.due("gas staged of all", x.count(9), 167);
        Probe.due("nothing was breathed by it", x.spent(), 12);
        Probe.due("0", x.stage(1, 0), -1);
        Probe.due("100", x.stage(1, 100), -1);
        Probe.due("less than nothing", x.stage(1, -5), -1);
        Probe.due("stage(-1, 1)", x.stage(-1, 1), -1);
        Probe.due("stage(4, 1)", x.stage(4, 1), -1);

        DrownedCave rich = Probe.told(FLAT);
        for (int i = 1; i <= 9; i++) {
            rich.stage(0, 99);
        }
        Probe.due("990", rich.stage(1, 99), 990);
        Probe.due("1000 is too much", rich.stage(1, 10), -1);
        Probe.due("999 is not", rich.stage(1, 9), 999);
        Probe.due("no more", rich.stage(1, 1), -1);
        Probe.due("what is taken with it", rich.diver(1, 2), 792);
    }

    private static void taking() {
        DrownedCave x = Probe.told(FLAT);
        Probe.due("nothing is there", x.take(0, 1), -1);
        x.stage(1, 99);
        Probe.due("take(0, 98)", x.take(0, 98), 998);
        Probe.due("what is left there", x.place(0, 1), 1);
        Probe.due("more than there is", x.take(1, 2), -1);
        x.stage(1, 50);
        Probe.due("1000 is too much", x.take(0, 2), -1);
        Probe.due("999 is not", x.take(0, 1), 999);
        Probe.due("0", x.take(1, 0), -1);
        x.stage(1, 99);
        Probe.due("100", x.take(1, 100), -1);
        Probe.due("99", x.take(1, 99), 751);
        Probe.due("take(-1, 1)", x.take(-1, 1), -1);
        Probe.due("take(2, 1)", x.take(2, 1), -1);
        x.swim(1, 0);
        Probe.due("what is staged elsewhere", x.take(1, 1), -1);
    }

    private static void sharing() {
        DrownedCave x = Probe.told(FLAT + "diver c plain gas 50 ;");
        Probe.due("share(0, 1, 99)", x.share(0, 1, 99), true);
        Probe.due("the first one's", x.diver(0, 2), 801);
        Probe.due("the second one's", x.diver(1, 2), 999);
        Probe.due("1000 is too much", x.share(0, 1, 1), false);
        Probe.due("more than one has", x.share(2, 0, 51), false);
        Probe.due("all that one has", x.share(2, 0, 50), true);
        Probe.due("with oneself", x.share(0, 0, 1), false);
        Probe.due("0", x.share(0, 2, 0), false);
        Probe.due("100", x.share(0, 2, 100), false);
        Probe.due("share(-1, 0, 1)", x.share(-1, 0, 1), false);
        Probe.due("share(3, 0, 1)", x.share(3, 0, 1), false);
        Probe.due("share(0, -1, 1)", x.share(0, -1, 1), false);
        Probe.due("share(0, 3, 1)", x.share(0, 3, 1), false);
        x.swim(1, 0);
        Probe.due("in another place", x.share(1, 2, 1), false);
        Probe.due("in another place, the other way round", x.share(0, 1, 1), false);
        Probe.due("nothing was breathed but by swimming", x.spent(), 1);
    }

    private static void stones() {
        DrownedCave x = Probe.told(CAVE);
        Probe.due("no thread", x.stone(0), false);
        x.lay(0, 0);
        x.lay(0, 1);
        Probe.due("stone(0)", x.stone(0), true);
        Probe.due("its thread", x.way(0, 5), 0);
        Probe.due("the other one's", x.count(6), 2);
        Probe.due("once more", x.stone(0), false);
        Probe.due("stone(-1)", x.stone(-1), false);
        Probe.due("stone(3)", x.stone(3), false);
        Probe.due("stone(31)", x.stone(31), false);
        Probe.due("laid anew", x.lay(1, 0), 1);
    }

    private static void hours() {
        DrownedCave x = Probe.told("place m deep 1 ; place p deep 4 ; place q deep 5 ; way m p wide long 1 ; "
            + "way p q wide long 1 ; diver a plain gas 100 ; diver b old gas 100 ; diver c afraid gas 100 ; "
            + "diver d calm gas 100 ; rain 0 1 ; breath 1 + hours * 3 + white + ( depth = 5 ) + silt * 9 ;");
        x.lay(0, 0);
        Probe.due("cost by silt", x.cost(1, 0), 18);
        x.hour();
        x.hour();
        for (int diver = 1; diver < 4; diver++) {
            x.swim(diver, 0);
            x.hour();
            x.hour();
        }
        x.undo();
        x.undo();
        x.swim(2, 1);
        Probe.due("the hour", x.count(3), 6);
        Probe.due("hours under water", x.diver(0, 3), 6);
        Probe.due("hours of another", x.diver(1, 3), 4);
        Probe.due("hours of the last one", x.diver(3, 3), 0);
        int[] before = gasOfAll(x);
        Probe.due("hour()", x.hour(), 0);
        int[] behind = gasOfAll(x);
        int[] due = {19, 12, 10, 1};
        for (int diver = 0; diver < 4; diver++) {
            Probe.due("what " + diver + " breathes by the hours ahead", before[diver] - behind[diver], due[diver]);
        }
        Probe.due("hours under water then", x.diver(0, 3), 7);
        before = behind;
        x.hour();
        behind = gasOfAll(x);
        due = new int[] {20, 16, 14, 2};
        for (int diver = 0; diver < 4; diver++) {
            Probe.due("what " + diver + " breathes an hour later", before[diver] - behind[diver], due[diver]);
        }
        Probe.due("a calm one's hours are told all the same", x.diver(3, 3), 2);
        x.swim(3, 0);
        Probe.due("at the mouth, ahead of the hour", x.diver(3, 3), 2);
        int gas = x.diver(3, 2);
        x.hour();
        Probe.due("at the mouth, behind it", x.diver(3, 3), 0);
        Probe.due("nothing is breathed there", x.diver(3, 2), gas);
    }

    private static int[] gasOfAll(DrownedCave x) {
        int[] gas = new int[4];
        for (int diver = 0; diver < 4; diver++) {
            gas[diver] = x.diver(diver, 2);
        }
        return gas;
    }

    private static void hoursOfWays() {
        DrownedCave x = Probe.told(FLAT + "place q deep 0 ; way p q narrow long 1 ; rain 0 6 7 9 ;");
        x.swim(0, 0);
        int[] due = {1, 0, 1, 2, 1, 0, 1, 2};
        for (int hour = 0; hour < due.length; hour++) {
            Probe.due("hour()", x.hour(), 0);
            Probe.due("silt behind hour " + hour, x.way(0, 4), due[hour]);
            Probe.due("silt of the other way", x.way(1, 4), hour < 2 ? 0 : hour == 3 || hour == 7 ? 2 : due[hour]);
            Probe.due("rain again and again", x.count(4), new int[] {6, 7, 9, 0}[hour % 4]);
        }
        DrownedCave white = Probe.told(FLAT + "rain 9 ;");
        for (int hour = 0; hour < 12; hour++) {
            white.hour();
        }
        Probe.due("silt 9 at most by rain", white.way(0, 4), 9);
    }

    private static void drowning() {
        DrownedCave x = Probe.told("place m deep 0 ; place p deep 4 ; way m p wide long 1 ; diver a plain gas 15 ; "
            + "diver b plain gas 14 ; diver c plain gas 30 ;");
        x.swim(0, 0);
        x.swim(1, 0);
        Probe.due("hour()", x.hour(), 0);
        Probe.due("the first one's gas", x.diver(0, 2), 5);
        Probe.due("spent", x.spent(), 20);
        Probe.due("the second one drowns", x.hour(), 2);
        Probe.due("who has just enough does not", x.diver(0, 4), 0);
        Probe.due("0 is left", x.diver(0, 2), 0);
        Probe.due("the second one", x.diver(1, 4), 1);
        Probe.due("its gas", x.diver(1, 2), 0);
        Probe.due("its hours", x.diver(1, 3), 2);
        Probe.due("its place", x.diver(1, 1), 1);
        Probe.due("what the drowned one had was spent", x.spent(), 29);
        Probe.due("who is drowned", x.count(5), 2);
        Probe.due("then the first one", x.hour(), 1);
        Probe.due("none twice", x.hour(), 0);
        Probe.due("hours of the drowned stay", x.diver(1, 3), 2);
        Probe.due("nothing more was spent", x.spent(), 29);
        x.hour();
        x.swim(2, 0);
        x.stage(2, 9);
        Probe.due("the drowned don't take", x.take(0, 1), -1);
        Probe.due("nor swim", x.swim(0, 0), -1);
        Probe.due("nor lay", x.lay(0, 0), -1);
        Probe.due("nor get", x.share(2, 0, 1), false);
        Probe.due("nor give", x.share(0, 2, 1), false);
        Probe.due("nor stage", x.stage(0, 1), -1);
        Probe.due("drowned is undone", x.undo() && x.undo() && x.undo() && x.undo() && x.undo(), true);
        Probe.due("who is drowned then", x.count(5), 2);
    }

    private static void nowhere() {
        DrownedCave x = Probe.told("diver a plain gas 5 ; diver b old gas 6 ; rain 2 ;");
        Probe.due("swim", x.swim(0, 0), -1);
        Probe.due("lay", x.lay(0, 0), -1);
        Probe.due("stage", x.stage(0, 1), -1);
        Probe.due("take", x.take(0, 1), -1);
        Probe.due("share", x.share(0, 1, 1), false);
        Probe.due("hour", x.hour(), 0);
        Probe.due("nothing is breathed", x.count(8), 11);
        Probe.due("no hours", x.diver(0, 3), 0);
        Probe.due("together", x.together(), 0);
    }

    private static void undoing() {
        DrownedCave x = Probe.told(CAVE);
        x.lay(0, 0);
        x.stage(0, 5);
        x.take(0, 2);
        x.share(1, 2, 10);
        x.stone(0);
        x.hour();
        x.swim(1, 0);
        Probe.due("what can be undone", x.count(12), 7);
        Probe.due("the swim", x.undo(), true);
        Probe.due("where it was", x.diver(1, 1), 0);
        Probe.due("its gas", x.diver(1, 2), 80);
        Probe.due("the silt", x.way(0, 4), 1);
        Probe.due("the hour", x.undo(), true);
        Probe.due("which it is", x.count(3), 0);
        Probe.due("hours", x.diver(0, 3), 0);
        Probe.due("gas", x.diver(0, 2), 87);
        Probe.due("the stone", x.undo(), true);
        Probe.due("thread", x.count(6), 1);
        Probe.due("the share", x.undo(), true);
        Probe.due("gas", x.diver(2, 2), 80);
        Probe.due("the take", x.undo(), true);
        Probe.due("staged", x.place(1, 1), 5);
        Probe.due("the stage", x.undo(), true);
        Probe.due("staged", x.place(1, 1), 0);
        Probe.due("spent", x.spent(), 10);
        Probe.due("the lay", x.undo(), true);
        Probe.due("spent", x.spent(), 0);
        Probe.due("thread", x.count(6), 0);
        Probe.due("no more", x.undo(), false);

        x.swim(0, 0);
        Probe.due("lay behind swim", x.lay(1, 0), 1);
        x.stage(1, 4);
        x.share(1, 0, 4);
        x.take(0, 3);
        x.undo();
        Probe.due("the take alone", x.diver(0, 2), 94);
        x.undo();
        Probe.due("the share alone", x.place(1, 1), 4);
        x.undo();
        Probe.due("the stage alone", x.diver(1, 2), 82);
        x.stone(0);
        x.undo();
        Probe.due("the stone alone", x.count(6), 1);
        x.undo();
        Probe.due("the lay alone", x.diver(0, 1), 1);
        Probe.due("the swim", x.undo(), true);
        Probe.due("no more", x.undo(), false);

        for (int i = 0; i < 20; i++) {
            x.hour();
            x.swim(0, 2);
        }
        Probe.due("16 at most", x.count(12), 16);
        x.find(0, 0);
        for (int i = 0; i < 16; i++) {
            Probe.due("undo " + i, x.undo(), true);
            Probe.due("the hour", x.count(3), 19 - i);
        }
        Probe.due("a seventeenth", x.undo(), false);
        Probe.due("what was found stays", x.count(11), 1);
    }

    private static void judging() {
        DrownedCave x = Probe.told("place m deep 0 ; place p deep 4 ; way m p wide long 1 ; diver a plain gas 15 ; "
            + "diver b plain gas 14 ; diver c plain gas 30 ;");
        x.lay(2, 0);
        x.hour();
        Probe.due("dive()", Probe.dive(x, "lay a 0 ; swim b 0 ; stage a 3 ; take b 2 ; share b a 1 ; stone 0 ; "
            + "hour ; hour ; hour ; stone 0 ; stone 7 ;"), 0);
        Probe.due("the first line that can't be", x.judged(0), 9);
        Probe.due("the first line by which one drowns", x.judged(1), 7);
        Probe.due("how many have", x.judged(2), 2);
        Probe.due("judged(3)", x.judged(3), -2);
        Probe.due("judged(-1)", x.judged(-1), -2);
        Probe.due("nothing is changed by it", x.count(3), 1);
        Probe.due("nor can be undone", x.count(12), 2);
        int[] first = {0, 1, 0, 1, 0, 0, 2};
        String[] bad = {"take a 1 ;", "hour ; share a b 99 ;", "stage a 16 ;", "hour ; swim a 1 ;", "lay a 7 ;",
            "stone 0 ;", "lay a 0 ; swim b 0 ; lay c 0 ;"};
        for (int i = 0; i < bad.length; i++) {
            Probe.due("dive()", Probe.dive(x, bad[i]), 0);
            Probe.due("what can't be: " + bad[i], x.judged(0), first[i]);
            Probe.due("none drowns: " + bad[i], x.judged(1), -1);
            Probe.due("none has: " + bad[i], x.judged(2), 0);
        }
        Probe.due("dive()", Probe.dive(x, "share a b 15 ; share b c 29 ; share c a 59 ; lay a 0 ; hour ; stage a 9 ; stone 0 ;"), 0);
        Probe.due("shares in a ring", x.judged(0), -1);
        Probe.due("the same once more", x.judged(0), -1);
        Probe.due("dive()", Probe.dive(x, "swim a 0 ; swim a 0 ; hour ;"), 0);
        Probe.due("all can be", x.judged(0), -1);
        Probe.due("dive()", Probe.dive(x, "swim a 0 ; hour ; hour ;"), 0);
        Probe.due("who has just enough does not drown", x.judged(1), -1);
        Probe.due("nor has at last", x.judged(2), 0);
        Probe.due("dive()", Probe.dive(x, "swim a 0 ;" + "hour ;".repeat(38) + "stone 0 ;"), 0);
        Probe.due("the last of 40 lines", x.judged(0), 39);
        Probe.due("the third hour", x.judged(1), 3);
        Probe.due("an empty dive", x.dive(), 0);
        Probe.due("judged(0)", x.judged(0), -1);
        Probe.due("judged(1)", x.judged(1), -1);
        Probe.due("judged(2)", x.judged(2), 0);
    }
}
