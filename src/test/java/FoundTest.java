/** Promises 35 to 37: what was found of an unknown diver, who it was, where to ask next. */
public final class FoundTest {
    private static final String CAVE = "place mouth deep 1 ; place hall deep 4 ; place well deep 5 ; place lake deep 2 ; "
        + "way mouth hall wide long 2 ; way well hall narrow long 3 ; "
        + "diver ann plain gas 100 ; diver bob old gas 90 ; diver cid afraid gas 80 ; diver dan calm gas 55 ; ";

    private FoundTest() {
    }

    public static void main(String[] args) {
        finding();
        whoItWas();
        whereToAsk();
        byTheHour();
        inMarks();
        Probe.close();
    }

    private static void inMarks() {
        DrownedCave x = Probe.told(CAVE);
        x.mark(0, false);
        x.find(1, 10);
        x.find(2, 28);
        x.mark(1, false);
        x.mark(0, true);
        Probe.due("nothing was found then", x.who(), 15);
        x.find(1, 8);
        x.find(1, 8);
        Probe.due("the old one", x.who(), 2);
        x.mark(1, true);
        Probe.due("what was found, not only how much", x.who(), 9);
        x.find(1, 8);
        x.mark(1, true);
        Probe.due("once more", x.who(), 9);
    }

    private static void finding() {
        DrownedCave x = Probe.told(CAVE);
        Probe.due("find(-1, 1)", x.find(-1, 1), false);
        Probe.due("find(4, 1)", x.find(4, 1), false);
        Probe.due("find(0, -1)", x.find(0, -1), false);
        Probe.due("find(0, 10000)", x.find(0, 10000), false);
        Probe.due("count(11)", x.count(11), 0);
        Probe.due("find(0, 0)", x.find(0, 0), true);
        Probe.due("find(3, 9999)", x.find(3, 9999), true);
        for (int i = 0; i < 6; i++) {
            Probe.due("the same again", x.find(0, 0), true);
        }
        Probe.due("count(11)", x.count(11), 8);
        Probe.due("a ninth", x.find(0, 0), false);
        Probe.due("what is found can't be undone", x.undo(), false);
        Probe.due("without places", new DrownedCave().find(0, 0), false);
    }

    private static void whoItWas() {
        DrownedCave x = Probe.told(CAVE);
        Probe.due("nothing was found", x.who(), 15);
        x.find(0, 0);
        Probe.due("at the mouth all are alike", x.who(), 15);
        x.find(1, 10);
        Probe.due("plain or calm", x.who(), 9);
        x.find(2, 28);
        Probe.due("the same by another place", x.who(), 9);
        x.find(2, 27);
        Probe.due("nobody", x.who(), 0);
        DrownedCave old = Probe.told(CAVE);
        old.find(2, 23);
        Probe.due("the old one", old.who(), 2);
        DrownedCave afraid = Probe.told(CAVE);
        afraid.find(2, 36);
        Probe.due("the afraid one", afraid.who(), 4);
        afraid.find(3, 0);
        Probe.due("nobody comes to the lake", afraid.who(), 0);
        Probe.due("nobody is told", Probe.told("place m deep 1 ;").who(), 0);
    }

    private static void whereToAsk() {
        DrownedCave x = Probe.told(CAVE);
        Probe.due("two are alike in the hall and the well: the first", x.ask(), 1);
        x.find(1, 10);
        Probe.due("these two are alike everywhere", x.ask(), -1);
        x.find(1, 11);
        Probe.due("nobody", x.ask(), -1);
        Probe.due("one alone", Probe.told("place m deep 1 ; place p deep 1 ; way m p wide long 1 ; diver a old gas 9 ;").ask(), -1);
        String three = "place m deep 0 ; place p deep 0 ; place q deep 1 ; place r deep 5 ; way m p wide long 1 ; "
            + "way p q wide long 1 ; way m r wide long 1 ; diver a plain gas 9 ; diver b old gas 9 ; diver c afraid gas 9 ; ";
        Probe.due("p parts two from one, q parts all", Probe.told(three).ask(), 2);
        Probe.due("p parts all", Probe.told(three + "breath 2 ;").ask(), 1);
        Probe.due("p parts two", Probe.told("place m deep 0 ; place p deep 2 ; way m p wide long 1 ; "
            + "diver a plain gas 9 ; diver b old gas 9 ;").ask(), 1);
        DrownedCave few = Probe.told("place m deep 0 ; place p deep 4 ; place q deep 5 ; way m p wide long 1 ; way m q wide long 1 ; "
            + "diver a plain gas 9 ; diver b afraid gas 9 ; diver c afraid gas 9 ; diver d calm gas 9 ; breath 1 + hours ;");
        few.find(1, 2);
        Probe.due("the afraid ones are alike", few.ask(), -1);
        DrownedCave apart = Probe.told("place m deep 0 ; place z deep 9 ; diver a plain gas 9 ; diver b old gas 9 ;");
        Probe.due("for a place without ways all are alike", apart.ask(), -1);
    }

    private static void byTheHour() {
        DrownedCave x = Probe.told("place m deep 0 ; place p deep 0 ; place q deep 0 ; way m p wide long 1 ; way p q wide long 1 ; "
            + "diver a plain gas 90 ; diver b calm gas 90 ; rain 0 6 0 ; breath 2 + hours * 3 + white + silt ;");
        x.find(2, 4);
        Probe.due("as it is at first", x.who(), 3);
        x.swim(0, 0);
        Probe.due("by the silt as it is", x.who(), 0);
        x.find(1, 4);
        x.hour();
        Probe.due("by the rain as it is, by all ways, blind or not", x.open(), 0);
        x.mark(0, false);
        Probe.due("9 + 8", x.who(), 0);
        x.hour();
        Probe.due("as fresh: without the hours", x.who(), 0);
        DrownedCave y = Probe.told("place m deep 0 ; place p deep 0 ; way m p wide long 1 ; "
            + "diver a plain gas 90 ; diver b calm gas 90 ; rain 0 6 0 ; breath 2 + hours * 3 + white + silt ;");
        y.swim(0, 0);
        y.find(0, 0);
        y.find(1, 4);
        Probe.due("2 + silt", y.who(), 3);
        y.hour();
        Probe.due("no more", y.who(), 0);
        DrownedCave z = Probe.told("place m deep 0 ; place p deep 0 ; way m p wide long 1 ; "
            + "diver a plain gas 90 ; diver b calm gas 90 ; rain 0 6 0 ; breath 2 + hours * 3 + white + silt ;");
        z.swim(0, 0);
        z.find(1, 9);
        z.hour();
        Probe.due("2 + silt + rain, as fresh, by a blind way, of one who is elsewhere", z.who(), 3);
        z.swim(0, 0);
        Probe.due("and where to ask", z.ask(), -1);
    }
}
