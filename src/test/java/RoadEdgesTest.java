/**
 * The edges of ways out and of what is lost, promises 18 to 34, 42 and 43: each sentence of the document that
 * bounds one of these, or tells what it answers where there is none, has a test of its own here, under the
 * sentence itself.
 */
public final class RoadEdgesTest {
    private static final String FLAT = "place m deep 0;place p deep 0;place q deep 0;way m p wide long 1;way p q wide long 1;";
    private static final String NOWHERE = "diver a plain gas 9;diver b plain gas 9;";
    private static final String CHAIN = "place a deep 9;place b deep 9;place c deep 9;place d deep 9;place e deep 9;"
        + "place f deep 9;place g deep 9;way g f wide long 9;way f e wide long 9;way e d wide long 9;way d c wide long 9;"
        + "way c b wide long 9;way b a wide long 9;";
    private static final String STAR = "place a deep 0;place b deep 0;place c deep 0;place d deep 0;place e deep 0;"
        + "way a b wide long 1;way a c wide long 1;way a d wide long 1;way a e wide long 1;way b c wide long 1;"
        + "way b d wide long 1;way b e wide long 1;way c d wide long 1;";

    private RoadEdgesTest() {
    }

    public static void main(String[] args) {
        open();
        needs();
        out();
        can();
        reaches();
        deepest();
        all();
        sure();
        lacks();
        clear();
        led();
        lost();
        worst();
        near();
        lasts();
        tie();
        far();
        lean();
        Probe.close();
    }

    /** One at p, who is drowned there, and one at the mouth with 9. */
    private static DrownedCave drowned() {
        DrownedCave x = Probe.told(FLAT + "diver a plain gas 1;diver b plain gas 9;");
        x.swim(0, 0);
        if (x.hour() != 1) {
            Probe.due("the first one drowns", x.count(5), 1);
        }
        return x;
    }

    /** One at p, one at the mouth, and all ways are blind in that hour. */
    private static DrownedCave cutOff() {
        DrownedCave x = Probe.told(FLAT + "diver a plain gas 90;diver b plain gas 90;rain 0 6;");
        x.swim(0, 0);
        x.hour();
        return x;
    }

    /** One at q, whom a blind way parts from the others' places, and one at the mouth. */
    private static DrownedCave parted() {
        DrownedCave x = Probe.told(FLAT + "diver a plain gas 90;diver b plain gas 90;");
        x.swim(0, 0);
        x.swim(0, 1);
        x.swim(0, 1);
        x.swim(0, 1);
        return x;
    }

    private static void open() {
        Probe.sentence("OPEN: WAYS that are not BLIND, or have thread (bits)");
        Probe.due("no ways", new DrownedCave().open(), 0);
        Probe.due("eight", Probe.told(STAR).open(), 255);
        Probe.due("eight by rain 5", Probe.told(STAR + "rain 5;").open(), 255);
        Probe.due("none by rain 6", Probe.told(STAR + "rain 6;").open(), 0);
        DrownedCave x = Probe.told(FLAT + "diver a plain gas 90;rain 0 6 5;");
        x.swim(0, 0);
        x.lay(0, 1);
        x.hour();
        Probe.due("by thread alone", x.open(), 2);
        x.hour();
        Probe.due("silt 0 and rain 5, silt 0 and thread", x.open(), 3);
    }

    private static void needs() {
        Probe.sentence("NEEDS of a DIVER for a PLACE: the least gas by which they come there from where they are by OPEN WAYS (of "
            + "one who is DROWNED, too; likewise OUT, NEAR, LEAN)");
        DrownedCave x = Probe.told(FLAT + "way m q wide long 2;diver a plain gas 1;rain 0;breath 1 + silt;");
        Probe.due("where they are", x.needs(0, 0), 0);
        Probe.due("two alike", x.needs(0, 2), 2);
        Probe.due("the lesser way round, told first", Probe.told("place m deep 0;place p deep 0;place q deep 0;way m q wide long 2;"
            + "way m p wide long 1;way p q wide long 3;diver a plain gas 1;").needs(0, 2), 2);
        Probe.due("the lesser way round, told last", Probe.told("place m deep 0;place p deep 0;place q deep 0;way m q wide long 5;"
            + "way m p wide long 1;way p q wide long 3;diver a plain gas 1;").needs(0, 2), 4);
        Probe.due("more than they have", x.needs(0, 2) > x.diver(0, 2), true);
        Probe.due("the most", Probe.told(CHAIN + "diver z afraid gas 1;breath 20;").needs(0, 6), 6 * 198);
        DrownedCave dead = drowned();
        Probe.due("of one who is drowned", dead.needs(0, 2), 1);
        Probe.due("out of one who is drowned", dead.out(0), 1);
        Probe.due("near of one who is drowned", dead.near(0, 1), 1);
        Probe.due("near to one who is drowned", dead.near(1, 0), 1);
        Probe.due("lean of one who is drowned", dead.lean(0), 0);

        Probe.sentence("(All by the hour as it is, silt as it is now.)");
        DrownedCave now = Probe.told(FLAT + "diver a plain gas 90;diver b plain gas 90;rain 0 3;breath 1 + white + silt;");
        Probe.due("at first", now.needs(1, 2), 2);
        now.swim(0, 0);
        Probe.due("by silt", now.needs(1, 2), 4);
        now.hour();
        Probe.due("by rain", now.needs(1, 2), 5 + 4);

        Probe.sentence("NEEDS; NONE: others, nowhere, by none.");
        for (int other : Probe.others(3)) {
            Probe.due("needs(0, " + other + ")", now.needs(0, other), -1);
        }
        for (int other : Probe.others(2)) {
            Probe.due("needs(" + other + ", 0)", now.needs(other, 0), -1);
        }
        Probe.due("nowhere", Probe.told(NOWHERE).needs(0, 0), -1);
        DrownedCave cut = cutOff();
        Probe.due("by none", cut.needs(0, 0), -1);
        Probe.due("by none", cut.needs(1, 2), -1);
        Probe.due("where they are, all the same", cut.needs(0, 1), 0);
        Probe.due("a place without ways", Probe.told("place m deep 0;place p deep 0;diver a plain gas 9;").needs(0, 1), -1);
    }

    private static void out() {
        Probe.sentence("OUT; NONE: likewise.");
        DrownedCave x = Probe.told(FLAT + "diver a plain gas 90;diver b plain gas 90;");
        x.swim(0, 0);
        Probe.due("from p", x.out(0), 1);
        Probe.due("at the mouth", x.out(1), 0);
        for (int other : Probe.others(2)) {
            Probe.due("out(" + other + ")", x.out(other), -1);
            Probe.due("out(" + other + ") of nothing", new DrownedCave().out(other), -1);
        }
        Probe.due("nowhere", Probe.told(NOWHERE).out(1), -1);
        Probe.due("by none", cutOff().out(0), -1);
        Probe.due("at the mouth all the same", cutOff().out(1), 0);

        Probe.sentence("whether three times what they need for OUT is no more than their gas");
        DrownedCave third = Probe.told("place m deep 0;place p deep 4;way m p wide long 1;diver a plain gas 20;diver b plain gas 19;"
            + "diver c plain gas 21;");
        for (int diver = 0; diver < 3; diver++) {
            Probe.due("at the mouth", third.thirds(diver), true);
        }
        third.lay(0, 0);
        third.swim(1, 0);
        third.swim(2, 0);
        Probe.due("15 of 15", third.thirds(0), true);
        Probe.due("15 of 14", third.thirds(1), false);
        Probe.due("15 of 16", third.thirds(2), true);
        DrownedCave nothing = Probe.told("place m deep 0;diver a plain gas 9;");
        nothing.stage(0, 9);
        Probe.due("0 of 0", nothing.thirds(0), true);

        Probe.sentence("THIRDS; false: others, they can't come OUT, DROWNED.");
        for (int other : Probe.others(3)) {
            Probe.due("thirds(" + other + ")", third.thirds(other), false);
        }
        Probe.due("by none", cutOff().thirds(0), false);
        Probe.due("nowhere", Probe.told(NOWHERE).thirds(0), false);
        Probe.due("drowned", drowned().thirds(0), false);
    }

    private static void can() {
        Probe.sentence("CAN: DIVERS, not DROWNED, who have as much as they need for OUT (bits)");
        Probe.due("nobody", new DrownedCave().can(), 0);
        Probe.due("nowhere", Probe.told(NOWHERE).can(), 0);
        Probe.due("the drowned can't", drowned().can(), 2);
        Probe.due("by none", cutOff().can(), 2);
        DrownedCave x = Probe.told("place m deep 0;place p deep 4;way m p wide long 1;diver a plain gas 10;diver b plain gas 9;"
            + "diver c plain gas 11;diver d plain gas 1;");
        x.stage(3, 1);
        x.lay(0, 0);
        x.swim(1, 0);
        x.swim(2, 0);
        Probe.due("5, 4, 6 for 5; 0 for 0", x.can(), 13);
    }

    private static void reaches() {
        Probe.sentence("REACHES of a DIVER: PLACES to which they can go and from there to the MOUTH by what gas they have (bits)");
        DrownedCave x = Probe.told("place m deep 0;place p deep 4;place q deep 4;way m p wide long 1;way q p wide long 1;"
            + "diver a plain gas 10;diver b plain gas 9;diver c plain gas 20;diver d plain gas 19;");
        Probe.due("just there and back", x.reaches(0), 3);
        Probe.due("one less", x.reaches(1), 1);
        Probe.due("just further and back", x.reaches(2), 7);
        Probe.due("one less", x.reaches(3), 3);
        x.swim(0, 0);
        Probe.due("from there just back", x.reaches(0), 3);
        x.stage(0, 1);
        Probe.due("not even back", x.reaches(0), 0);

        Probe.sentence("REACHES, as bits (0: DROWNED); NONE: others.");
        Probe.due("drowned", drowned().reaches(0), 0);
        for (int other : Probe.others(4)) {
            Probe.due("reaches(" + other + ")", x.reaches(other), -1);
        }
        Probe.due("of nothing", new DrownedCave().reaches(0), -1);
        Probe.due("nowhere", Probe.told(NOWHERE).reaches(0), 0);
        Probe.due("by none", cutOff().reaches(0), 0);
        Probe.due("at the mouth, by none", cutOff().reaches(1), 1);
        Probe.due("parted from all", parted().reaches(0), 0);
        Probe.due("parted from one", parted().reaches(1), 3);
        DrownedCave nothing = Probe.told("place m deep 0;diver a plain gas 9;");
        nothing.stage(0, 9);
        Probe.due("the mouth by nothing", nothing.reaches(0), 1);
        Probe.due("seven", Probe.told(CHAIN.replace("long 9", "long 1") + "diver z plain gas 120;").reaches(0), 127);
    }

    private static void deepest() {
        Probe.sentence("DEEPEST: that of these that is the deepest; of equal ones the first");
        Probe.due("all alike", Probe.told(FLAT + "diver a plain gas 90;").deepest(0), 0);
        Probe.due("the last", Probe.told("place m deep 0;place p deep 0;place q deep 1;way m p wide long 1;way p q wide long 1;"
            + "diver a plain gas 90;").deepest(0), 2);
        Probe.due("two alike", Probe.told("place m deep 0;place p deep 1;place q deep 1;way m p wide long 1;way p q wide long 1;"
            + "diver a plain gas 90;").deepest(0), 1);
        Probe.due("of these", Probe.told("place m deep 0;place p deep 1;place q deep 9;way m p wide long 1;way p q wide long 1;"
            + "diver a plain gas 10;").deepest(0), 1);

        Probe.sentence("DEEPEST; NONE: others, none.");
        for (int other : Probe.others(2)) {
            Probe.due("deepest(" + other + ")", cutOff().deepest(other), -1);
        }
        Probe.due("none", cutOff().deepest(0), -1);
        Probe.due("drowned", drowned().deepest(0), -1);
        Probe.due("nowhere", Probe.told(NOWHERE).deepest(0), -1);
        Probe.due("of nothing", new DrownedCave().deepest(0), -1);
    }

    private static void all() {
        Probe.sentence("ALL: PLACES that are in the REACHES of all who are not DROWNED (bits)");
        Probe.due("of the other one alone", drowned().all(), 7);
        Probe.due("of both", cutOff().all(), 0);
        Probe.due("by the least", Probe.told(FLAT + "diver a plain gas 4;diver b plain gas 3;").all(), 3);

        Probe.sentence("ALL, as bits (nobody: all PLACES).");
        Probe.due("nobody told", Probe.told(FLAT).all(), 7);
        Probe.due("nobody, seven places", Probe.told(CHAIN).all(), 127);
        Probe.due("no places either", new DrownedCave().all(), 0);
        DrownedCave dead = Probe.told(FLAT + "diver a plain gas 1;rain 0 6;");
        dead.swim(0, 0);
        dead.hour();
        Probe.due("the last one is drowned", dead.all(), 7);
        Probe.due("nowhere", Probe.told(NOWHERE).all(), 0);
    }

    private static void sure() {
        Probe.sentence("to which all who are not DROWNED can go, each by their own gas, such that, if the one who has the most left "
            + "there then has nothing more, what the others have left, together, is as much as all need from there to the MOUTH, "
            + "together");
        Probe.due("2 left at p, 2 needed", Probe.told(FLAT + "diver a plain gas 9;diver b plain gas 3;").sure(), 3);
        Probe.due("1 left at p, 2 needed", Probe.told(FLAT + "diver a plain gas 9;diver b plain gas 2;").sure(), 1);
        Probe.due("4 left at q, 4 needed", Probe.told(FLAT + "diver a plain gas 6;diver b plain gas 9;").sure(), 7);
        Probe.due("3 left at q, 4 needed", Probe.told(FLAT + "diver a plain gas 5;diver b plain gas 9;").sure(), 3);
        Probe.due("both have as much", Probe.told(FLAT + "diver a plain gas 6;diver b plain gas 6;").sure(), 7);
        Probe.due("one comes there with nothing left",
            Probe.told(FLAT + "diver a plain gas 9;diver b plain gas 9;diver c plain gas 1;").sure(), 3);
        Probe.due("and with just nothing left further",
            Probe.told(FLAT + "diver a plain gas 9;diver b plain gas 9;diver c plain gas 2;").sure(), 7);
        Probe.due("one alone", Probe.told(FLAT + "diver a plain gas 900;").sure(), 1);
        DrownedCave nothing = Probe.told(FLAT + "diver a plain gas 9;diver b plain gas 9;");
        nothing.stage(0, 9);
        nothing.stage(1, 9);
        Probe.due("nobody has anything at the mouth", nothing.sure(), 1);
        Probe.due("of the other one alone", drowned().sure(), 1);
        DrownedCave asked = drowned();
        Probe.due("what the drowned one needs", asked.out(0), 1);
        Probe.due("does not count", asked.sure(), 1);
        Probe.due("parted", parted().sure(), 0);
        Probe.due("by none", cutOff().sure(), 0);
        DrownedCave far = Probe.told(FLAT + "diver a plain gas 90;diver b plain gas 90;rain 0 6;");
        far.swim(0, 0);
        far.swim(1, 0);
        far.hour();
        Probe.due("both there, but none leads out", far.sure(), 0);

        Probe.sentence("SURE, as bits (nobody: none).");
        Probe.due("nobody told", Probe.told(FLAT).sure(), 0);
        DrownedCave dead = Probe.told(FLAT + "diver a plain gas 1;");
        dead.swim(0, 0);
        dead.hour();
        Probe.due("the last one is drowned", dead.sure(), 0);
        Probe.due("of nothing", new DrownedCave().sure(), 0);
        Probe.due("nowhere", Probe.told(NOWHERE).sure(), 0);
        Probe.due("seven", Probe.told(CHAIN.replace("long 9", "long 1") + "diver y plain gas 900;diver z plain gas 900;").sure(), 127);
    }

    private static void lacks() {
        Probe.sentence("LACKS of a DIVER for a PLACE: how much gas more they must have so that it is in their REACHES (0: it is)");
        DrownedCave x = Probe.told(FLAT + "diver a plain gas 2;diver b plain gas 3;diver c plain gas 5;");
        int[][] due = {{0, 0, 2}, {0, 0, 1}, {0, 0, 0}};
        for (int diver = 0; diver < 3; diver++) {
            for (int place = 0; place < 3; place++) {
                Probe.due("lacks(" + diver + ", " + place + ")", x.lacks(diver, place), due[diver][place]);
            }
        }
        x.swim(0, 0);
        x.stage(0, 1);
        Probe.due("just back to the mouth", x.lacks(0, 0), 1);
        Probe.due("the most", Probe.told(CHAIN + "diver z afraid gas 1;breath 20;").lacks(0, 6), 12 * 198 - 1);

        Probe.sentence("LACKS; NONE: others, DROWNED, by none.");
        for (int other : Probe.others(3)) {
            Probe.due("lacks(0, " + other + ")", x.lacks(0, other), -1);
            Probe.due("lacks(" + other + ", 0)", x.lacks(other, 0), -1);
        }
        for (int place = 0; place < 3; place++) {
            Probe.due("drowned, to " + place, drowned().lacks(0, place), -1);
            Probe.due("by none, to " + place, cutOff().lacks(0, place), -1);
            Probe.due("parted from all, to " + place, parted().lacks(0, place), -1);
        }
        Probe.due("at the mouth, by none", cutOff().lacks(1, 0), 0);
        Probe.due("parted from one", parted().lacks(1, 2), -1);
        Probe.due("nowhere", Probe.told(NOWHERE).lacks(0, 0), -1);
        Probe.due("a place without ways", Probe.told("place m deep 0;place p deep 0;diver a plain gas 9;").lacks(0, 1), -1);
    }

    private static void clear() {
        Probe.sentence("behind how many HOURS (0 to 60) it is not BLIND, by the rain of the hour that is then (nobody SWIMS)");
        Probe.due("at once", Probe.told(FLAT + "rain 5;").clear(0), 0);
        Probe.due("behind one", Probe.told(FLAT + "rain 6 5;").clear(0), 1);
        Probe.due("behind one, which leaves 1", Probe.told(FLAT + "rain 7 4;").clear(0), 1);
        Probe.due("not behind one, which leaves 1", Probe.told(FLAT + "rain 7 5;").clear(0), -1);
        DrownedCave x = Probe.told(FLAT + "diver a plain gas 90;");
        x.lay(0, 0);
        for (int i = 0; i < 4; i++) {
            x.swim(0, 0);
        }
        Probe.due("9 to 5, by thread or not", x.clear(0), 4);
        Probe.due("the other way", x.clear(1), 0);
        DrownedCave slow = Probe.told(FLAT + "diver a plain gas 99;rain 2 7 6 7 6 7 6 7 6 7 6;");
        slow.lay(0, 0);
        for (int i = 0; i < 4; i++) {
            slow.swim(0, 0);
        }
        for (int i = 0; i < 5; i++) {
            slow.hour();
        }
        Probe.due("behind 61: not by 60", slow.clear(0), -1);
        slow.hour();
        Probe.due("behind 60", slow.clear(0), 60);
        slow.hour();
        Probe.due("behind 59", slow.clear(0), 59);

        Probe.sentence("CLEAR; NONE: others, not by 60.");
        for (int other : Probe.others(2)) {
            Probe.due("clear(" + other + ")", x.clear(other), -1);
        }
        Probe.due("of nothing", new DrownedCave().clear(0), -1);
        Probe.due("never", Probe.told(FLAT + "rain 6;").clear(1), -1);
        Probe.due("never, by 9", Probe.told(FLAT + "rain 9;").clear(1), -1);
    }

    private static void led() {
        Probe.sentence("LED: PLACES from which one comes to the MOUTH by WAYS with thread alone, the MOUTH too (bits)");
        DrownedCave x = Probe.told(FLAT + "diver a plain gas 90;diver b plain gas 90;rain 0 9;");
        Probe.due("the mouth", x.led(), 1);
        x.swim(0, 0);
        x.lay(0, 1);
        Probe.due("not from q", x.led(), 1);
        x.lay(1, 0);
        Probe.due("from both", x.led(), 7);
        x.hour();
        Probe.due("blind or not", x.led(), 7);
        x.stone(1);
        Probe.due("from p alone", x.led(), 3);

        Probe.sentence("LED, as bits (no PLACES: none).");
        Probe.due("of nothing", new DrownedCave().led(), 0);
        Probe.due("divers nowhere", Probe.told(NOWHERE).led(), 0);
        Probe.due("one place", Probe.told("place m deep 0;").led(), 1);
    }

    private static void lost() {
        Probe.sentence("LOST: DIVERS, not DROWNED, who come to the MOUTH by no OPEN WAYS, whatever their gas, and who are nowhere, "
            + "too (bits)");
        Probe.due("nobody", new DrownedCave().lost(), 0);
        Probe.due("nowhere", Probe.told(NOWHERE).lost(), 3);
        Probe.due("nowhere, four", Probe.told(NOWHERE + "diver c old gas 1;diver d old gas 1;").lost(), 15);
        Probe.due("by none, but for one at the mouth", cutOff().lost(), 1);
        DrownedCave gas = Probe.told(FLAT + "diver a plain gas 1;");
        gas.swim(0, 0);
        Probe.due("whatever their gas", gas.lost(), 0);
        DrownedCave dead = Probe.told(FLAT + "diver a plain gas 1;diver b plain gas 9;rain 0 6;");
        dead.lay(0, 0);
        dead.swim(1, 0);
        dead.hour();
        Probe.due("by thread", dead.lost(), 0);
        dead.stone(0);
        Probe.due("not the drowned one", dead.lost(), 2);
    }

    private static void worst() {
        Probe.sentence("the WAY without which the most PLACES more can't be come to from the MOUTH, by all WAYS told; of equal ones "
            + "the first (also if it is none by any)");
        Probe.due("two by the first, one by the second", Probe.told(FLAT).worst(), 0);
        Probe.due("one by the first, two by the second",
            Probe.told("place m deep 0;place p deep 0;place q deep 0;way p q wide long 1;way m p wide long 1;").worst(), 1);
        Probe.due("alike", Probe.told("place m deep 0;place p deep 0;place q deep 0;way m q wide long 1;way m p wide long 1;").worst(), 0);
        Probe.due("none by any", Probe.told(FLAT + "way q m wide long 1;").worst(), 0);
        Probe.due("none by any: from the mouth none leads",
            Probe.told("place m deep 0;place p deep 0;place q deep 0;way q p wide long 1;").worst(), 0);
        Probe.due("none by the first ones", Probe.told("place m deep 0;place p deep 0;place q deep 0;place r deep 0;"
            + "way m p wide long 1;way p q wide long 1;way q m wide long 1;way r q wide long 1;").worst(), 3);
        Probe.due("by all ways, blind or not", Probe.told("place m deep 0;place p deep 0;place q deep 0;way p q wide long 1;"
            + "way m p wide long 1;rain 9;").worst(), 1);
        Probe.due("eight", Probe.told("place a deep 0;place b deep 0;place c deep 0;place d deep 0;place e deep 0;place f deep 0;"
            + "way b c wide long 1;way b d wide long 1;way b e wide long 1;way b f wide long 1;way c d wide long 1;"
            + "way c e wide long 1;way c f wide long 1;way a b wide long 1;").worst(), 7);

        Probe.sentence("WORST; NONE: no WAYS.");
        Probe.due("of nothing", new DrownedCave().worst(), -1);
        Probe.due("places alone", Probe.told("place m deep 0;place p deep 0;").worst(), -1);
    }

    private static void near() {
        Probe.sentence("NEAR of two DIVERS: the least gas by which the first one comes to where the second one is");
        DrownedCave x = Probe.told("place m deep 0;place p deep 4;way m p wide long 2;diver a plain gas 90;diver b afraid gas 90;"
            + "diver c old gas 90;");
        Probe.due("in one place", x.near(0, 1), 0);
        x.swim(0, 0);
        Probe.due("the first one's breath", x.near(0, 1), 10);
        Probe.due("the second one's", x.near(1, 0), 12);
        x.swim(1, 0);
        x.stage(1, 78);
        Probe.due("whatever their gas", x.near(1, 2), 12);

        Probe.sentence("NEAR; NONE: others, the same, by none.");
        for (int other : Probe.others(3)) {
            Probe.due("near(0, " + other + ")", x.near(0, other), -1);
            Probe.due("near(" + other + ", 0)", x.near(other, 0), -1);
            Probe.due("near(" + other + ", " + other + ")", x.near(other, other), -1);
        }
        for (int diver = 0; diver < 3; diver++) {
            Probe.due("the same", x.near(diver, diver), -1);
        }
        Probe.due("by none", cutOff().near(0, 1), -1);
        Probe.due("by none, the other way round", cutOff().near(1, 0), -1);
        Probe.due("nowhere", Probe.told(NOWHERE).near(0, 1), -1);
    }

    private static void lasts() {
        Probe.sentence("LASTS: in how many HOURS (1 to 99) a DIVER DROWNS, staying where they are");
        String cave = "place m deep 0;place p deep 0;way m p wide long 1;diver a plain gas 1;diver b plain gas 2;"
            + "diver c plain gas 99;diver d plain gas 100;";
        DrownedCave x = Probe.told(cave);
        x.lay(0, 0);
        for (int diver = 1; diver < 4; diver++) {
            x.swim(diver, 0);
        }
        int[] due = {1, 2, 99, -1};
        for (int diver = 0; diver < 4; diver++) {
            Probe.due("lasts(" + diver + ")", x.lasts(diver), due[diver]);
        }
        for (int hour = 0; hour < 98; hour++) {
            x.hour();
        }
        Probe.due("98 hours behind", x.lasts(2), 1);
        Probe.due("and the last one", x.lasts(3), 2);
        Probe.due("who drowns by the 99th", x.hour(), 4);
        DrownedCave law = Probe.told("place m deep 0;place p deep 0;way m p wide long 1;diver a plain gas 30;rain 0 9 0;"
            + "breath 1 + hours + white;");
        law.swim(0, 0);
        Probe.due("29 by 1, 11, 3, 4, 14", law.lasts(0), 5);
        law.stage(0, 10);
        Probe.due("19 by 1, 11, 3, 4", law.lasts(0), 5);
        law.stage(0, 1);
        Probe.due("18 by 1, 11, 3, 4", law.lasts(0), 4);

        Probe.sentence("LASTS; NONE: others, DROWNED, not by 99.");
        for (int other : Probe.others(4)) {
            Probe.due("lasts(" + other + ")", x.lasts(other), -1);
        }
        Probe.due("drowned", drowned().lasts(0), -1);
        Probe.due("at the mouth", drowned().lasts(1), -1);
        Probe.due("nowhere", Probe.told(NOWHERE).lasts(0), -1);
        Probe.due("of nothing", new DrownedCave().lasts(0), -1);
    }

    private static void tie() {
        Probe.sentence("TIE: the fewest WAYS more that must have thread so that all PLACES are LED that can be come to by the WAYS "
            + "told");
        Probe.due("of nothing", new DrownedCave().tie(), 0);
        Probe.due("one place", Probe.told("place m deep 0;").tie(), 0);
        Probe.due("places without ways", Probe.told("place m deep 0;place p deep 0;").tie(), 0);
        Probe.due("ways that don't come to the mouth",
            Probe.told("place m deep 0;place p deep 0;place q deep 0;way p q wide long 1;").tie(), 0);
        Probe.due("a chain of seven", Probe.told(CHAIN).tie(), 6);
        Probe.due("eight ways, five places", Probe.told(STAR).tie(), 4);
        Probe.due("blind or not", Probe.told(STAR + "rain 9;").tie(), 4);
        DrownedCave x = Probe.told(FLAT + "way q m wide long 1;diver a plain gas 90;");
        x.swim(0, 0);
        x.lay(0, 1);
        Probe.due("thread apart from the mouth", x.tie(), 1);
        x.lay(0, 2);
        Probe.due("all are led", x.tie(), 0);
        x.lay(0, 0);
        Probe.due("thread more than is needed", x.tie(), 0);
    }

    private static void far() {
        Probe.sentence("FAR of a PLACE: over how many WAYS told, at least, it lies from the MOUTH");
        Probe.due("the mouth", Probe.told(CHAIN).far(0), 0);
        Probe.due("the farthest", Probe.told(CHAIN).far(6), 6);
        Probe.due("the shorter way round, though it is long", Probe.told(FLAT + "way q m narrow long 9;rain 9;").far(2), 1);
        Probe.due("the shorter way round, told first", Probe.told("place m deep 0;place p deep 0;place q deep 0;place r deep 0;"
            + "way m r wide long 9;way m p wide long 1;way p q wide long 1;way q r wide long 1;").far(3), 1);

        Probe.sentence("FAR; NONE: others, never.");
        for (int other : Probe.others(7)) {
            Probe.due("far(" + other + ")", Probe.told(CHAIN).far(other), -1);
            Probe.due("far(" + other + ") of nothing", new DrownedCave().far(other), -1);
        }
        Probe.due("never", Probe.told("place m deep 0;place p deep 0;place q deep 0;way p q wide long 1;").far(2), -1);
        Probe.due("of nothing", new DrownedCave().far(0), -1);
    }

    private static void lean() {
        Probe.sentence("LEAN of a DIVER: of the OPEN WAYS at their PLACE the one that COSTS the least; of equal ones the first");
        Probe.due("two alike", Probe.told(FLAT + "way q m wide long 1;diver a plain gas 9;").lean(0), 0);
        Probe.due("the last one is less", Probe.told("place m deep 0;place p deep 9;place q deep 0;way m p wide long 1;"
            + "way p q wide long 1;way m q wide long 9;diver a plain gas 9;").lean(0), 2);
        Probe.due("more than they have", Probe.told("place m deep 0;place p deep 9;way m p wide long 9;diver a plain gas 1;").lean(0), 0);
        DrownedCave x = Probe.told(FLAT + "way q m wide long 2;diver a plain gas 90;");
        x.swim(0, 0);
        x.swim(0, 0);
        x.swim(0, 0);
        x.swim(0, 1);
        x.swim(0, 2);
        Probe.due("the first one is blind", x.lean(0), 2);

        Probe.sentence("LEAN; NONE: others, none.");
        for (int other : Probe.others(1)) {
            Probe.due("lean(" + other + ")", x.lean(other), -1);
        }
        Probe.due("all are blind", cutOff().lean(0), -1);
        Probe.due("no ways there", Probe.told("place m deep 0;place p deep 0;place q deep 0;way p q wide long 1;diver a old gas 9;").lean(0), -1);
        Probe.due("nowhere", Probe.told(NOWHERE).lean(0), -1);
        Probe.due("of nothing", new DrownedCave().lean(0), -1);
    }
}
