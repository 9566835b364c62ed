/** Promises 18 to 34, 42 and 43: ways out, how far one can go, and what is lost. */
public final class RoadsTest {
    private static final String CAVE = "place mouth deep 1 ; place hall deep 4 ; place well deep 5 ; place sump deep 9 ; "
        + "place lake deep 2 ; "
        + "way mouth hall wide long 2 ; way well hall narrow long 3 ; way sump well wide long 1 ; way sump hall wide long 4 ; "
        + "diver ann plain gas 100 ; diver bob old gas 90 ; diver cid afraid gas 80 ; diver dan calm gas 55 ; ";
    private static final String FLAT = "place m deep 0 ; place p deep 0 ; place q deep 0 ; "
        + "way m p wide long 1 ; way p q wide long 1 ; ";

    private RoadsTest() {
    }

    public static void main(String[] args) {
        openWays();
        needing();
        comingOut();
        reaching();
        theDeepest();
        allOfThem();
        outlivingOne();
        lacking();
        clearing();
        ledByThread();
        losing();
        worstWays();
        nearness();
        lasting();
        tying();
        farPlaces();
        leaning();
        ofTheDrowned();
        Probe.close();
    }

    private static void openWays() {
        DrownedCave x = Probe.told(CAVE + "rain 0 6 ;");
        Probe.due("open()", x.open(), 15);
        x.lay(0, 0);
        x.hour();
        Probe.due("by thread alone", x.open(), 1);
        x.stone(0);
        Probe.due("none", x.open(), 0);
    }

    private static void needing() {
        DrownedCave x = Probe.told(CAVE);
        int[] ann = {0, 10, 28, 38, -1};
        int[] bob = {0, 8, 23, 32, -1};
        int[] cid = {0, 12, 36, 48, -1};
        for (int place = 0; place < 5; place++) {
            Probe.due("needs(0, " + place + ")", x.needs(0, place), ann[place]);
            Probe.due("needs(1, " + place + ")", x.needs(1, place), bob[place]);
            Probe.due("needs(2, " + place + ")", x.needs(2, place), cid[place]);
        }
        x.swim(0, 0);
        x.swim(0, 1);
        x.swim(0, 1);
        Probe.due("the silt of one way closes it: round by the other", x.needs(0, 2), 50);
        Probe.due("needs more than one has", x.needs(3, 2), 60);
        Probe.due("back", x.needs(0, 0), 10);
        Probe.due("needs(-1, 0)", x.needs(-1, 0), -1);
        Probe.due("needs(4, 0)", x.needs(4, 0), -1);
        Probe.due("needs(0, -1)", x.needs(0, -1), -1);
        Probe.due("needs(0, 5)", x.needs(0, 5), -1);
        DrownedCave nowhere = Probe.told("diver a plain gas 5 ;");
        Probe.due("nowhere", nowhere.needs(0, 0), -1);
        Probe.due("nowhere", nowhere.out(0), -1);
    }

    private static void comingOut() {
        DrownedCave x = Probe.told(CAVE);
        x.swim(0, 0);
        x.swim(0, 1);
        Probe.due("out(0)", x.out(0), 28);
        Probe.due("out(1)", x.out(1), 0);
        Probe.due("out(-1)", x.out(-1), -1);
        Probe.due("out(4)", x.out(4), -1);
        Probe.due("72 is less than three times 28", x.thirds(0), false);
        Probe.due("at the mouth", x.thirds(1), true);
        Probe.due("thirds(-1)", x.thirds(-1), false);
        Probe.due("thirds(4)", x.thirds(4), false);
        x.swim(1, 0);
        x.share(0, 1, 1);
        Probe.due("not in one place", x.diver(1, 2), 82);
        x.stage(1, 58);
        Probe.due("24 is just three times 8", x.thirds(1), true);
        x.stage(1, 1);
        Probe.due("23 is not", x.thirds(1), false);
        x.stage(1, 15);
        Probe.due("8 is enough for 8", x.can(), 15);
        x.stage(1, 1);
        Probe.due("7 is not", x.can(), 13);
        x.undo();
        Probe.due("not all of it", x.diver(1, 2), 8);

        DrownedCave blind = Probe.told(FLAT + "diver a plain gas 9 ; diver b plain gas 9 ; rain 0 6 ;");
        blind.swim(0, 0);
        blind.hour();
        Probe.due("by none", blind.out(0), -1);
        Probe.due("by none", blind.thirds(0), false);
        Probe.due("who is there can", blind.can(), 2);
    }

    private static void reaching() {
        DrownedCave x = Probe.told(CAVE);
        Probe.due("reaches(0)", x.reaches(0), 15);
        Probe.due("reaches(2)", x.reaches(2), 7);
        Probe.due("55 is too little for twice 28", x.reaches(3), 3);
        x.share(0, 3, 1);
        Probe.due("56 is not", x.reaches(3), 7);
        x.swim(0, 0);
        x.stage(0, 73);
        Probe.due("16: out, but no further", x.reaches(0), 3);
        x.stage(0, 7);
        Probe.due("9: not even out", x.reaches(0), 0);
        Probe.due("reaches(-1)", x.reaches(-1), -1);
        Probe.due("reaches(4)", x.reaches(4), -1);
        Probe.due("nowhere", Probe.told("diver a plain gas 5 ;").reaches(0), 0);
        DrownedCave cut = Probe.told(FLAT + "diver a plain gas 99 ; diver b plain gas 99 ;");
        for (int i = 0; i < 4; i++) {
            cut.swim(0, i == 0 ? 0 : 1);
        }
        Probe.due("the way from p to q is blind", cut.open(), 1);
        Probe.due("one is at q", cut.diver(0, 1), 2);
        Probe.due("from there none leads out", cut.reaches(0), 0);
        Probe.due("nor anywhere", cut.lacks(0, 1), -1);
        Probe.due("of the other one", cut.reaches(1), 3);
    }

    private static void theDeepest() {
        DrownedCave x = Probe.told(CAVE);
        Probe.due("deepest(0)", x.deepest(0), 3);
        Probe.due("deepest(2)", x.deepest(2), 2);
        Probe.due("deepest(3)", x.deepest(3), 1);
        Probe.due("deepest(-1)", x.deepest(-1), -1);
        Probe.due("deepest(4)", x.deepest(4), -1);
        x.swim(0, 0);
        x.stage(0, 80);
        x.stage(0, 1);
        Probe.due("none", x.deepest(0), -1);
        Probe.due("of equal ones the first", Probe.told(FLAT + "diver a plain gas 9 ;").deepest(0), 0);
        Probe.due("the second, if it is deeper", Probe.told("place m deep 0 ; place p deep 1 ; place q deep 1 ; "
            + "way m p wide long 1 ; way p q wide long 1 ; diver a plain gas 99 ;").deepest(0), 1);
    }

    private static void allOfThem() {
        Probe.due("nobody: all places", Probe.told(FLAT).all(), 7);
        DrownedCave x = Probe.told(CAVE);
        Probe.due("all()", x.all(), 3);
        x.share(0, 3, 1);
        Probe.due("all() by 56", x.all(), 7);
        x.stage(0, 99);
        Probe.due("the first one has nothing", x.all(), 1);
        Probe.due("nowhere", Probe.told("diver a plain gas 5 ;").all(), 0);
    }

    private static void outlivingOne() {
        Probe.due("nobody: none", Probe.told(FLAT).sure(), 0);
        Probe.due("one alone: at the mouth", Probe.told(FLAT + "diver a plain gas 900 ;").sure(), 1);
        DrownedCave x = Probe.told(FLAT + "diver a plain gas 9 ; diver b plain gas 3 ;");
        Probe.due("at p the second one has 2 left, just what both need; at q 1, of 4", x.sure(), 3);
        x.stage(1, 1);
        Probe.due("at p the second one has 1 left, of 2", x.sure(), 1);
        x.stage(1, 1);
        Probe.due("the second one gets to p with nothing left", x.sure(), 1);
        DrownedCave spare = Probe.told(FLAT + "diver a plain gas 9 ; diver b plain gas 9 ; diver c plain gas 1 ;");
        Probe.due("one comes to p with nothing left", spare.sure(), 3);
        DrownedCave out = Probe.told(FLAT + "diver a plain gas 9 ; diver b plain gas 9 ;");
        out.stage(0, 9);
        out.stage(1, 9);
        Probe.due("nobody has gas, at the mouth", out.sure(), 1);
        DrownedCave three = Probe.told(FLAT + "diver a plain gas 6 ; diver b plain gas 5 ; diver c old gas 5 ;");
        Probe.due("4 + 3 + 3 left at q, 6 of them not the most, just what all need", three.sure(), 7);
        three.stage(1, 1);
        Probe.due("5 of them", three.sure(), 3);
        Probe.due("with more for the first one", three.take(0, 1), 7);
        Probe.due("it is not better", three.sure(), 3);
        DrownedCave lonely = Probe.told(FLAT + "place z deep 0 ; diver a plain gas 50 ; diver b plain gas 50 ; rain 0 6 ;");
        Probe.due("a place without ways", lonely.sure(), 7);
        lonely.swim(0, 0);
        lonely.hour();
        Probe.due("in two places, all blind", lonely.sure(), 0);
        lonely.undo();
        lonely.undo();
        lonely.swim(0, 0);
        lonely.swim(1, 0);
        lonely.hour();
        Probe.due("in one place, but none leads out", lonely.sure(), 0);
    }

    private static void lacking() {
        DrownedCave x = Probe.told(CAVE);
        int[] due = {0, 0, 1, 21, -1};
        for (int place = 0; place < 5; place++) {
            Probe.due("lacks(3, " + place + ")", x.lacks(3, place), due[place]);
        }
        Probe.due("lacks(2, 3)", x.lacks(2, 3), 16);
        x.swim(2, 0);
        Probe.due("on the way", x.lacks(2, 3), 16);
        Probe.due("lacks(-1, 0)", x.lacks(-1, 0), -1);
        Probe.due("lacks(4, 0)", x.lacks(4, 0), -1);
        Probe.due("lacks(0, -1)", x.lacks(0, -1), -1);
        Probe.due("lacks(0, 5)", x.lacks(0, 5), -1);
    }

    private static void clearing() {
        DrownedCave x = Probe.told(FLAT + "diver a plain gas 99 ; rain 0 0 5 4 ;");
        Probe.due("at once", x.clear(0), 0);
        x.lay(0, 0);
        x.swim(0, 0);
        x.swim(0, 0);
        x.swim(0, 0);
        Probe.due("silt", x.way(0, 4), 8);
        Probe.due("7, 6 + 5, 5 + 4, 4: thread or not", x.clear(0), 4);
        x.hour();
        Probe.due("an hour later", x.clear(0), 3);
        Probe.due("clear(-1)", x.clear(-1), -1);
        Probe.due("clear(2)", x.clear(2), -1);
        Probe.due("never", Probe.told(FLAT + "rain 6 ;").clear(0), -1);
        DrownedCave white = Probe.told(FLAT + "rain 7 7 7 7 7 7 7 7 0 ;");
        Probe.due("8 + 0, 7 + 7, 8 .. 9 + 0: never", white.clear(0), -1);
        DrownedCave slow = Probe.told(FLAT + "diver a plain gas 99 ; rain 2 7 6 7 6 7 6 7 6 7 6 ;");
        slow.lay(0, 0);
        for (int i = 0; i < 4; i++) {
            slow.swim(0, 0);
        }
        Probe.due("silt", slow.way(0, 4), 9);
        for (int i = 0; i < 5; i++) {
            slow.hour();
        }
        Probe.due("not by 60", slow.clear(0), -1);
        slow.hour();
        Probe.due("by 60", slow.clear(0), 60);
        DrownedCave late = Probe.told(FLAT + "rain 7 0 0 ;");
        late.hour();
        Probe.due("by the rain that is then", late.clear(0), 0);
        late.hour();
        late.hour();
        Probe.due("in the white hour", late.clear(0), 1);
    }

    private static void ledByThread() {
        DrownedCave x = Probe.told(CAVE);
        Probe.due("the mouth", x.led(), 1);
        x.swim(0, 0);
        x.lay(0, 1);
        Probe.due("thread that does not come to the mouth", x.led(), 1);
        x.lay(1, 0);
        Probe.due("joined to it", x.led(), 7);
        x.stone(0);
        Probe.due("cut", x.led(), 1);
        Probe.due("no places", new DrownedCave().led(), 0);
    }

    private static void losing() {
        DrownedCave x = Probe.told(FLAT + "diver a plain gas 99 ; diver b plain gas 99 ; diver c plain gas 3 ; rain 0 6 ;");
        x.swim(0, 0);
        x.lay(1, 0);
        x.swim(2, 0);
        x.swim(2, 1);
        Probe.due("none, whatever their gas", x.lost(), 0);
        x.hour();
        Probe.due("by thread", x.lost(), 4);
        x.stone(0);
        Probe.due("all but who is at the mouth", x.lost(), 7);
        x.undo();
        Probe.due("swim by thread", x.swim(0, 0), 0);
        x.stone(0);
        Probe.due("all but who is at the mouth", x.lost(), 6);
        Probe.due("nowhere", Probe.told("diver a plain gas 5 ; diver b plain gas 5 ;").lost(), 3);
    }

    private static void worstWays() {
        Probe.due("no ways", Probe.told("place m deep 0 ;").worst(), -1);
        Probe.due("the way at the mouth", Probe.told(CAVE).worst(), 0);
        Probe.due("told last", Probe.told("place m deep 0 ; place p deep 0 ; place q deep 0 ; place r deep 0 ; "
            + "way q p wide long 1 ; way q r wide long 1 ; way p m wide long 1 ; rain 9 ;").worst(), 2);
        Probe.due("none by any: the first", Probe.told("place m deep 0 ; place p deep 0 ; place q deep 0 ; "
            + "way m p wide long 1 ; way p q wide long 1 ; way q m wide long 1 ;").worst(), 0);
        Probe.due("ways that do not come to the mouth", Probe.told("place m deep 0 ; place p deep 0 ; place q deep 0 ; "
            + "place r deep 0 ; way p q wide long 1 ; way r m wide long 1 ;").worst(), 1);
        Probe.due("of equal ones the first", Probe.told("place m deep 0 ; place p deep 0 ; place q deep 0 ; "
            + "place r deep 0 ; way q r wide long 1 ; way m p wide long 1 ; way q m wide long 1 ; way r m wide long 1 ; "
            ).worst(), 1);
    }

    private static void nearness() {
        DrownedCave x = Probe.told(CAVE);
        x.swim(0, 0);
        x.swim(0, 1);
        Probe.due("by the first one's breath", x.near(1, 0), 2 * 4 + 3 * 5);
        Probe.due("by the other one's", x.near(0, 1), 28);
        Probe.due("in one place", x.near(1, 2), 0);
        Probe.due("the same", x.near(1, 1), -1);
        Probe.due("near(-1, 0)", x.near(-1, 0), -1);
        Probe.due("near(0, 4)", x.near(0, 4), -1);
        Probe.due("near(4, 0)", x.near(4, 0), -1);
        Probe.due("near(0, -1)", x.near(0, -1), -1);
        Probe.due("nowhere", Probe.told("diver a plain gas 5 ; diver b plain gas 5 ;").near(0, 1), -1);
        DrownedCave blind = Probe.told(FLAT + "diver a plain gas 9 ; diver b plain gas 9 ; rain 0 6 ;");
        blind.swim(0, 0);
        blind.hour();
        Probe.due("by none", blind.near(0, 1), -1);
    }

    private static void lasting() {
        String cave = "place m deep 0 ; place p deep 2 ; way m p wide long 1 ; diver a plain gas 103 ; diver b calm gas 103 ; ";
        DrownedCave x = Probe.told(cave);
        Probe.due("at the mouth", x.lasts(0), -1);
        x.swim(0, 0);
        Probe.due("100 by 3: in the 34th", x.lasts(0), 34);
        x.stage(0, 1);
        Probe.due("99 by 3: in the 34th", x.lasts(0), 34);
        x.stage(0, 1);
        Probe.due("98 by 3: in the 33rd", x.lasts(0), 33);
        x.stage(0, 96);
        Probe.due("at once", x.lasts(0), 1);
        Probe.due("lasts(-1)", x.lasts(-1), -1);
        Probe.due("lasts(2)", x.lasts(2), -1);
        Probe.due("nowhere", Probe.told("diver a plain gas 5 ;").lasts(0), -1);

        DrownedCave law = Probe.told(cave + "rain 0 1 2 ; breath 2 + hours + white + silt ;");
        law.swim(0, 0);
        law.undo();
        law.hour();
        law.swim(0, 0);
        law.swim(1, 0);
        Probe.due("100 by 3, 5, 4, 6, 8, 7, 9, 11, 10, 12, 14, 13", law.lasts(0), 12);
        Probe.due("98 by 3, 4, 2 again and again", law.lasts(1), 33);
        DrownedCave long1 = Probe.told("place m deep 0 ; place p deep 0 ; way m p wide long 1 ; diver a plain gas 99 ; "
            + "diver b plain gas 100 ;");
        long1.swim(0, 0);
        long1.swim(1, 0);
        Probe.due("98 by 1", long1.lasts(0), 99);
        Probe.due("99 by 1", long1.lasts(1), -1);
    }

    private static void tying() {
        Probe.due("no places", new DrownedCave().tie(), 0);
        Probe.due("no ways", Probe.told("place m deep 0 ; place p deep 0 ;").tie(), 0);
        DrownedCave x = Probe.told(CAVE);
        Probe.due("a lake without ways does not count", x.tie(), 3);
        x.swim(0, 0);
        x.lay(0, 1);
        Probe.due("thread that does not come to the mouth", x.tie(), 2);
        x.lay(0, 2);
        Probe.due("more of it", x.tie(), 1);
        x.lay(0, 3);
        Probe.due("thread that ties nothing more", x.tie(), 1);
        x.lay(1, 0);
        Probe.due("all is tied", x.tie(), 0);
        Probe.due("ways that do not come to the mouth", Probe.told("place m deep 0 ; place p deep 0 ; place q deep 0 ; "
            + "way p q wide long 1 ;").tie(), 0);
    }

    private static void farPlaces() {
        DrownedCave x = Probe.told(CAVE + "rain 9 ;");
        int[] due = {0, 1, 2, 2, -1};
        for (int place = 0; place < 5; place++) {
            Probe.due("far(" + place + ")", x.far(place), due[place]);
        }
        Probe.due("far(-1)", x.far(-1), -1);
        Probe.due("far(5)", x.far(5), -1);
        StringBuilder line = new StringBuilder("place a deep 0 ; ");
        for (char to = 'b'; to <= 'g'; to++) {
            line.append("place ").append(to).append(" deep 0 ; ");
        }
        for (char to = 'g'; to >= 'b'; to--) {
            line.append("way ").append(to).append(' ').append((char) (to - 1)).append(" wide long 9 ; ");
        }
        Probe.due("the farthest", Probe.told(line.toString()).far(6), 6);
        Probe.due("what it needs", Probe.told(line + "diver z plain gas 1 ;").needs(0, 6), 54);
    }

    private static void leaning() {
        DrownedCave x = Probe.told(CAVE + "rain 0 0 6 ;");
        Probe.due("at the mouth", x.lean(0), 0);
        x.swim(0, 0);
        Probe.due("10, 18, 40", x.lean(0), 0);
        x.swim(0, 1);
        Probe.due("18, 10", x.lean(0), 2);
        x.hour();
        x.hour();
        Probe.due("all are blind", x.lean(0), -1);
        Probe.due("lean(-1)", x.lean(-1), -1);
        Probe.due("lean(4)", x.lean(4), -1);
        Probe.due("nowhere", Probe.told("diver a plain gas 5 ;").lean(0), -1);
        DrownedCave same = Probe.told(FLAT + "way q m wide long 1 ; diver a plain gas 9 ;");
        Probe.due("of equal ones the first", same.lean(0), 0);
        same.swim(0, 0);
        same.swim(0, 0);
        same.swim(0, 0);
        same.swim(0, 1);
        same.swim(0, 2);
        Probe.due("of the open ones", same.lean(0), 2);
    }

    private static void ofTheDrowned() {
        DrownedCave x = Probe.told(FLAT + "diver a plain gas 2 ; diver b plain gas 9 ;");
        x.swim(0, 0);
        x.hour();
        Probe.due("not drowned", x.count(5), 0);
        x.hour();
        Probe.due("drowned", x.count(5), 1);
        Probe.due("needs", x.needs(0, 2), 1);
        Probe.due("out", x.out(0), 1);
        Probe.due("near", x.near(0, 1), 1);
        Probe.due("near, to one", x.near(1, 0), 1);
        Probe.due("lean", x.lean(0), 0);
        Probe.due("thirds", x.thirds(0), false);
        Probe.due("can", x.can(), 2);
        Probe.due("reaches", x.reaches(0), 0);
        Probe.due("deepest", x.deepest(0), -1);
        Probe.due("all", x.all(), 7);
        Probe.due("sure: of the other one alone", x.sure(), 1);
        Probe.due("lacks", x.lacks(0, 0), -1);
        Probe.due("lost", x.lost(), 0);
        Probe.due("lasts", x.lasts(0), -1);
        Probe.due("slate", x.slate(), 1);
        Probe.due("who", x.who(), 3);
        x.swim(1, 0);
        Probe.due("together", x.together(), 1);
        Probe.due("place", x.place(1, 2), 3);
        DrownedCave none = Probe.told("place m deep 0 ; place p deep 0 ; way m p wide long 1 ; diver a plain gas 1 ; rain 0 6 ;");
        none.swim(0, 0);
        none.hour();
        Probe.due("the last one is drowned", none.count(5), 1);
        Probe.due("all: nobody is left", none.all(), 3);
        Probe.due("sure: nobody is left", none.sure(), 0);
        Probe.due("slate: nobody is left", none.slate(), -1);
        Probe.due("the drowned are not lost", none.lost(), 0);
    }
}
