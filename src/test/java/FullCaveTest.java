/** A cave with as much as can be told: each answer at its highest numbers, and no call that throws. */
public final class FullCaveTest {
    private static final String FULL = "place a deep 0;place b deep 1;place c deep 2;place d deep 3;place e deep 4;"
        + "place f deep 5;place g deep 9;way b a wide long 1;way c b wide long 1;way d c wide long 1;way e d wide long 1;"
        + "way f e wide long 1;way g f wide long 1;way a g narrow long 9;way c g narrow long 4;"
        + "diver p plain gas 900;diver q old gas 900;diver r afraid gas 900;diver s calm gas 900;"
        + "rain 0 1 2 3 4 5 6 7 8 9 0 1;";

    private FullCaveTest() {
    }

    public static void main(String[] args) {
        atFirst();
        onTheWay();
        Probe.close();
    }

    private static void atFirst() {
        DrownedCave x = Probe.told(FULL);
        int[] counts = {7, 8, 4, 0, 0, 0, 0, 0, 3600, 0, 0, 0, 0, 0};
        for (int what = 0; what < counts.length; what++) {
            Probe.due("count(" + what + ")", x.count(what), counts[what]);
        }
        Probe.due("open()", x.open(), 255);
        Probe.due("can()", x.can(), 15);
        Probe.due("all()", x.all(), 127);
        Probe.due("sure()", x.sure(), 127);
        Probe.due("led()", x.led(), 1);
        Probe.due("lost()", x.lost(), 0);
        Probe.due("worst()", x.worst(), 0);
        Probe.due("tie()", x.tie(), 6);
        Probe.due("who()", x.who(), 15);
        Probe.due("ask()", x.ask(), 1);
        Probe.due("bell()", x.bell(), -1);
        Probe.due("slate()", x.slate(), 0);
        Probe.due("together()", x.together(), 6);
        int[] needs = {0, 2, 5, 9, 14, 20, 30};
        for (int place = 0; place < 7; place++) {
            Probe.due("needs(3, " + place + ")", x.needs(3, place), needs[place]);
            Probe.due("lacks(3, " + place + ")", x.lacks(3, place), 0);
            Probe.due("far(" + place + ")", x.far(place), Math.min(place, new int[] {9, 9, 9, 3, 3, 2, 1}[place]));
        }
        for (int diver = 0; diver < 4; diver++) {
            Probe.due("reaches(" + diver + ")", x.reaches(diver), 127);
            Probe.due("deepest(" + diver + ")", x.deepest(diver), 6);
            Probe.due("lean(" + diver + ")", x.lean(diver), 0);
            Probe.due("thirds(" + diver + ")", x.thirds(diver), true);
            Probe.due("lasts(" + diver + ")", x.lasts(diver), -1);
        }
        Probe.due("near(0, 3)", x.near(0, 3), 0);
    }

    private static void onTheWay() {
        DrownedCave x = Probe.told(FULL);
        for (int way = 0; way < 6; way++) {
            Probe.due("lay(3, " + way + ")", x.lay(3, way), way + 1);
        }
        Probe.due("lay(3, 7)", x.lay(3, 7), 2);
        Probe.due("swim(3, 7)", x.swim(3, 7), 6);
        Probe.due("stage(3, 99)", x.stage(3, 99), 99);
        Probe.due("bell()", x.bell(), 6);
        Probe.due("led()", x.led(), 127);
        Probe.due("tie()", x.tie(), 0);
        Probe.due("count(6)", x.count(6), 191);
        Probe.due("count(7)", x.count(7), 18);
        Probe.due("stone(7)", x.stone(7), true);
        Probe.due("open()", x.open(), 127);
        for (int i = 0; i < 8; i++) {
            Probe.due("find(6, 30)", x.find(6, 30), true);
        }
        Probe.due("who()", x.who(), 9);
        Probe.due("ask()", x.ask(), -1);
        for (int mark = 0; mark < 4; mark++) {
            Probe.due("mark(" + mark + ", false)", x.mark(mark, false), true);
        }
        Probe.due("hour()", x.hour(), 0);
        Probe.due("count(7)", x.count(7), 11);
        Probe.due("near(0, 3)", x.near(0, 3), 30);
        Probe.due("lasts(3)", x.lasts(3), 69);
        Probe.due("chance(7, 6, 5)", x.chance(7, 6, 5), 500000 + 22 * 500000 / 64);
        Probe.due("clear(7)", x.clear(7), 9);
        Probe.due("mark(3, true)", x.mark(3, true), true);
        Probe.due("count(11)", x.count(11), 8);
    }
}
