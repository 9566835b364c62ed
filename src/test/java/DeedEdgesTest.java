/**
 * The edges of what is there, done, undone and judged, promises 5 to 17: each sentence of the document that
 * bounds one of these, or tells where it is refused, has a test of its own here, under the sentence itself.
 */
public final class DeedEdgesTest {
    private static final String FLAT = "place m deep 0;place p deep 0;place q deep 0;way m p wide long 1;way q p narrow long 1;"
        + "diver a plain gas 900;diver b plain gas 900;";
    /** The first one drowns at p by the second hour there, the second one by the third. */
    private static final String POOR = "place m deep 0;place p deep 4;way m p wide long 1;diver a plain gas 14;"
        + "diver b plain gas 19;diver c plain gas 90;";
    private static final String NOWHERE = "diver a plain gas 9;diver b plain gas 9;";

    private DeedEdgesTest() {
    }

    public static void main(String[] args) {
        breath();
        cost();
        blind();
        swim();
        silt();
        lay();
        stage();
        take();
        share();
        whoCantHandle();
        nowhereMoreThan999();
        stone();
        hoursUnderWater();
        drowning();
        atTheMouth();
        hourOfWays();
        undo();
        undoSixteen();
        judgedLines();
        judgedDrowning();
        questions();
        refusals();
        Probe.close();
    }

    // ---- breath and cost

    private static void breath() {
        Probe.sentence("BREATH of a DIVER: the E of breath, kept within 1 to 20");
        int[] plain = {1, 1, 1, 2, 19, 20, 20, 20};
        String[] laws = {"0 - 9999", "0", "1", "2", "19", "20", "21", "9999"};
        for (int i = 0; i < laws.length; i++) {
            Probe.due("breath " + laws[i], costOf("plain", 0, laws[i], 1), plain[i]);
        }
        Probe.due("what wraps to less than 0", costOf("plain", 0, "9999 * 9999 * 22", 1), 1);
        Probe.due("what wraps to more than 20", costOf("plain", 0, "0 - 9999 * 9999 * 22", 1), 20);

        Probe.sentence("then an old one takes 1 less (1 at least)");
        int[] old = {1, 1, 1, 1, 18, 19, 19, 19};
        for (int i = 0; i < laws.length; i++) {
            Probe.due("breath " + laws[i], costOf("old", 9, laws[i], 1), old[i]);
        }
        Probe.due("breath 3", costOf("old", 0, "3", 1), 2);

        Probe.sentence("an afraid one 1 more, or 2 more where the depth is above 4");
        int[] afraid = {2, 2, 2, 3, 20, 21, 21, 21};
        for (int i = 0; i < laws.length; i++) {
            Probe.due("at 0, breath " + laws[i], costOf("afraid", 0, laws[i], 1), afraid[i]);
            Probe.due("at 4, breath " + laws[i], costOf("afraid", 4, laws[i], 1), afraid[i]);
            Probe.due("at 5, breath " + laws[i], costOf("afraid", 5, laws[i], 1), afraid[i] + 1);
            Probe.due("at 9, breath " + laws[i], costOf("afraid", 9, laws[i], 1), afraid[i] + 1);
        }
        Probe.due("staying at 4", breathedAt("afraid", 4, "7"), 8);
        Probe.due("staying at 5", breathedAt("afraid", 5, "7"), 9);

        Probe.sentence("a calm one's hours count as 0 in the E");
        DrownedCave x = Probe.told("place m deep 0;place p deep 0;way m p wide long 1;diver a plain gas 99;diver b calm gas 99;"
            + "breath 2 + hours;");
        x.lay(0, 0);
        x.swim(1, 0);
        x.hour();
        x.hour();
        Probe.due("a plain one's count", x.cost(0, 0), 4);
        Probe.due("a calm one's don't", x.cost(1, 0), 2);
        Probe.due("a plain one stays", x.diver(0, 2), 99 - 2 - 2 - 3);
        Probe.due("a calm one stays", x.diver(1, 2), 99 - 2 - 2 - 2);
        Probe.due("they are there all the same", x.diver(1, 3), 2);
    }

    private static int costOf(String kind, int depth, String law, int length) {
        return Probe.told("place m deep 0;place p deep " + depth + ";way m p wide long " + length + ";diver a " + kind
            + " gas 900;breath " + law + ";").cost(0, 0);
    }

    private static int breathedAt(String kind, int depth, String law) {
        DrownedCave x = Probe.told("place m deep 9;place p deep " + depth + ";way m p wide long 1;diver a " + kind
            + " gas 900;breath " + law + ";");
        x.swim(0, 0);
        int before = x.diver(0, 2);
        x.hour();
        return before - x.diver(0, 2);
    }

    private static void cost() {
        Probe.sentence("COST of a WAY to a DIVER: its length times the BREATH there");
        Probe.due("the least", costOf("old", 0, "1", 1), 1);
        Probe.due("long 9", costOf("old", 0, "1", 9), 9);
        Probe.due("the most", costOf("afraid", 5, "20", 9), 198);
    }

    private static void blind() {
        Probe.sentence("A WAY is BLIND if its silt and the hour's rain, together, are 6 or more");
        for (int rain = 0; rain < 10; rain++) {
            DrownedCave x = Probe.told(FLAT + "rain " + rain + ";");
            Probe.due("silt 0, rain " + rain, x.way(0, 6), rain >= 6 ? 1 : 0);
            for (int swum = 1; swum < 4; swum++) {
                boolean moved = x.swim(0, 0) >= 0;
                Probe.due("swum " + swum + " times by rain " + rain, moved, 2 * (swum - 1) + rain < 6);
                Probe.due("silt " + x.way(0, 4) + ", rain " + rain, x.way(0, 6), x.way(0, 4) + rain >= 6 ? 1 : 0);
            }
        }
        DrownedCave odd = Probe.told(FLAT + "rain 0 0 2 3;");
        odd.swim(0, 0);
        odd.swim(0, 1);
        odd.swim(0, 1);
        Probe.due("silt 6, rain 0", odd.way(1, 6), 1);
        odd.hour();
        Probe.due("silt 5, rain 0", odd.way(1, 6), 0);
        odd.hour();
        Probe.due("silt 4, rain 2", odd.way(1, 6), 1);
        odd.hour();
        Probe.due("silt 3, rain 3", odd.way(1, 6), 1);
    }

    // ---- swimming and laying

    private static void swim() {
        Probe.sentence("SWIM: a DIVER, not DROWNED, at one end of a WAY that is not BLIND, or has thread, who has as much gas as "
            + "it COSTS");
        DrownedCave x = Probe.told(FLAT);
        Probe.due("at neither end", x.swim(0, 1), -1);
        Probe.due("at the first end", x.swim(0, 0), 1);
        Probe.due("at the second end", x.swim(0, 1), 2);
        Probe.due("at neither end any more", x.swim(0, 0), -1);
        Probe.due("and back from the first end", x.swim(0, 1), 1);
        Probe.due("and back from the second end", x.swim(0, 0), 0);

        DrownedCave blind = Probe.told(FLAT + "rain 5 6;");
        Probe.due("rain 5", blind.swim(1, 0), 1);
        blind.undo();
        blind.lay(0, 0);
        blind.hour();
        Probe.due("blind, by thread", blind.swim(1, 0), 1);
        Probe.due("blind, without", blind.swim(1, 1), -1);
        blind.stone(0);
        Probe.due("the thread is cut", blind.swim(1, 0), -1);

        DrownedCave gas = Probe.told("place m deep 0;place p deep 5;way m p wide long 9;diver a plain gas 54;diver b plain gas 53;");
        Probe.due("one less than it costs", gas.swim(1, 0), -1);
        Probe.due("what it costs", gas.swim(0, 0), 1);
        Probe.due("nothing is left", gas.diver(0, 2), 0);
        Probe.due("that is not drowned", gas.diver(0, 4), 0);
        Probe.due("but can't go back", gas.swim(0, 0), -1);

        DrownedCave dead = withTheFirstDrowned();
        Probe.due("drowned", dead.swim(0, 0), -1);
        Probe.due("one who is not", dead.swim(2, 0), 1);
    }

    private static DrownedCave withTheFirstDrowned() {
        DrownedCave x = Probe.told(POOR);
        x.swim(0, 0);
        x.swim(1, 0);
        x.hour();
        Probe.due("the first one drowns", x.hour(), 1);
        return x;
    }

    private static void silt() {
        Probe.sentence("is at the other end, with so much less; its silt is 2 more (narrow: 3), 9 at most");
        DrownedCave x = Probe.told(FLAT);
        x.lay(0, 0);
        int[] wide = {2, 4, 6, 8, 9, 9};
        for (int i = 0; i < wide.length; i++) {
            Probe.due("silt of a wide way", x.way(0, 4), wide[i]);
            Probe.due("gas", x.diver(0, 2), 899 - i);
            Probe.due("the other end", x.swim(0, 0), i % 2 == 0 ? 0 : 1);
        }
        DrownedCave y = Probe.told(FLAT);
        y.swim(0, 0);
        y.lay(0, 1);
        int[] narrow = {3, 6, 9, 9};
        for (int due : narrow) {
            Probe.due("silt of a narrow way", y.way(1, 4), due);
            y.swim(0, 1);
        }
        Probe.due("of that way alone", y.way(0, 4), 2);
        DrownedCave z = Probe.told(FLAT);
        z.swim(0, 0);
        z.lay(0, 1);
        z.swim(0, 1);
        z.hour();
        z.swim(0, 1);
        Probe.due("5 and 3", z.way(1, 4), 8);
        z.swim(0, 1);
        Probe.due("8 and 3", z.way(1, 4), 9);
    }

    private static void lay() {
        Probe.sentence("LAY: likewise, of a WAY that has no thread (and is not BLIND): it has thread then");
        DrownedCave x = Probe.told(FLAT);
        Probe.due("at neither end", x.lay(0, 1), -1);
        Probe.due("no thread", x.lay(0, 0), 1);
        Probe.due("it has then", x.way(0, 5), 1);
        Probe.due("so much less gas", x.diver(0, 2), 899);
        Probe.due("silt likewise", x.way(0, 4), 2);
        Probe.due("thread is there", x.lay(1, 0), -1);
        Probe.due("from the other end, too", x.lay(0, 0), -1);
        Probe.due("a narrow one", x.lay(0, 1), 2);
        Probe.due("silt likewise", x.way(1, 4), 3);
        x.stone(0);
        Probe.due("cut: laid anew", x.lay(1, 0), 1);

        DrownedCave blind = Probe.told(FLAT + "rain 5 6;");
        Probe.due("rain 5", blind.lay(0, 0), 1);
        blind.undo();
        blind.hour();
        Probe.due("blind", blind.lay(0, 0), -1);
        Probe.due("no thread by that", blind.way(0, 5), 0);

        DrownedCave gas = Probe.told("place m deep 0;place p deep 5;way m p wide long 9;diver a plain gas 54;diver b plain gas 53;");
        Probe.due("one less than it costs", gas.lay(1, 0), -1);
        Probe.due("no thread by that", gas.count(6), 0);
        Probe.due("what it costs", gas.lay(0, 0), 1);
        Probe.due("nothing is left", gas.diver(0, 2), 0);
        Probe.due("drowned", withTheFirstDrowned().lay(0, 0), -1);
    }

    // ---- staging, taking, sharing

    private static void stage() {
        Probe.sentence("STAGE: so much gas of a DIVER who has it is left at their PLACE");
        DrownedCave x = Probe.told("place m deep 0;place p deep 0;way m p wide long 1;diver a plain gas 50;diver b plain gas 99;");
        Probe.due("more than they have", x.stage(0, 51), -1);
        Probe.due("all that they have", x.stage(0, 50), 50);
        Probe.due("nothing is left with them", x.diver(0, 2), 0);
        Probe.due("no more", x.stage(0, 1), -1);
        x.swim(1, 0);
        Probe.due("at their place", x.stage(1, 98), 98);
        Probe.due("not at another", x.place(0, 1), 50);

        Probe.sentence("STAGE (1 to 99): what is there then; NONE: others, it can't be.");
        DrownedCave rich = Probe.told(FLAT);
        Probe.due("1", rich.stage(0, 1), 1);
        Probe.due("99", rich.stage(0, 99), 100);
        Probe.due("by another one", rich.stage(1, 99), 199);
        String before = Probe.state(rich);
        for (int gas : new int[] {0, -1, 100, 101, Integer.MIN_VALUE, Integer.MAX_VALUE}) {
            Probe.due("stage(0, " + gas + ")", rich.stage(0, gas), -1);
        }
        for (int other : Probe.others(2)) {
            Probe.due("stage(" + other + ", 1)", rich.stage(other, 1), -1);
        }
        Probe.same("nothing is changed by that", Probe.state(rich), before);
    }

    private static void take() {
        Probe.sentence("TAKE: so much of what is there is theirs");
        DrownedCave x = Probe.told("place m deep 0;place p deep 0;way m p wide long 1;diver a plain gas 50;diver b plain gas 99;");
        Probe.due("nothing is there", x.take(0, 1), -1);
        x.stage(1, 20);
        Probe.due("more than there is", x.take(0, 21), -1);
        Probe.due("all that there is", x.take(0, 20), 70);
        Probe.due("nothing is left there", x.place(0, 1), 0);
        x.stage(1, 20);
        x.swim(0, 0);
        Probe.due("what is at another place", x.take(0, 1), -1);

        Probe.sentence("TAKE (1 to 99): what they have then; NONE: others, it can't be.");
        DrownedCave rich = Probe.told("place m deep 0;diver a plain gas 700;diver b plain gas 5;");
        rich.stage(0, 99);
        rich.stage(0, 99);
        rich.stage(0, 99);
        Probe.due("1", rich.take(1, 1), 6);
        Probe.due("99", rich.take(1, 99), 105);
        String before = Probe.state(rich);
        for (int gas : new int[] {0, -1, 100, 101, Integer.MIN_VALUE, Integer.MAX_VALUE}) {
            Probe.due("take(1, " + gas + ")", rich.take(1, gas), -1);
        }
        for (int other : Probe.others(2)) {
            Probe.due("take(" + other + ", 1)", rich.take(other, 1), -1);
        }
        Probe.same("nothing is changed by that", Probe.state(rich), before);
    }

    private static void share() {
        Probe.sentence("SHARE: so much of the first one's, who has it, is the second one's, in the same PLACE");
        DrownedCave x = Probe.told("place m deep 0;place p deep 0;way m p wide long 1;diver a plain gas 50;diver b plain gas 99;");
        Probe.due("more than the first one has", x.share(0, 1, 51), false);
        Probe.due("all that the first one has", x.share(0, 1, 50), true);
        Probe.due("the first one's", x.diver(0, 2), 0);
        Probe.due("the second one's", x.diver(1, 2), 149);
        Probe.due("nothing more", x.share(0, 1, 1), false);
        x.swim(1, 0);
        Probe.due("in another place", x.share(1, 0, 1), false);
        x.swim(1, 0);
        Probe.due("in the same one again", x.share(1, 0, 1), true);

        Probe.sentence("SHARE (1 to 99): true; false: others, the same, it can't be.");
        DrownedCave rich = Probe.told("place m deep 0;diver a plain gas 700;diver b plain gas 5;");
        Probe.due("1", rich.share(0, 1, 1), true);
        Probe.due("99", rich.share(0, 1, 99), true);
        String before = Probe.state(rich);
        for (int gas : new int[] {0, -1, 100, 101, Integer.MIN_VALUE, Integer.MAX_VALUE}) {
            Probe.due("share(0, 1, " + gas + ")", rich.share(0, 1, gas), false);
        }
        for (int other : Probe.others(2)) {
            Probe.due("share(" + other + ", 1, 1)", rich.share(other, 1, 1), false);
            Probe.due("share(0, " + other + ", 1)", rich.share(0, other, 1), false);
            Probe.due("share(" + other + ", " + other + ", 1)", rich.share(other, other, 1), false);
        }
        Probe.due("the same", rich.share(0, 0, 1), false);
        Probe.due("the same", rich.share(1, 1, 1), false);
        Probe.same("nothing is changed by that", Probe.state(rich), before);
    }

    private static void whoCantHandle() {
        Probe.sentence("Neither who does one of these three nor who gets by it is DROWNED");
        DrownedCave x = withTheFirstDrowned();
        x.swim(2, 0);
        x.stage(2, 20);
        String before = Probe.state(x);
        Probe.due("takes", x.take(0, 1), -1);
        Probe.due("gets", x.share(2, 0, 1), false);
        Probe.due("gives", x.share(0, 2, 1), false);
        Probe.due("stages", x.stage(0, 1), -1);
        Probe.same("nothing is changed by that", Probe.state(x), before);
        Probe.due("the others take", x.take(1, 1), 5);
        Probe.due("the others share", x.share(2, 1, 1), true);

        Probe.sentence("all are in some PLACE");
        DrownedCave bare = Probe.told(NOWHERE);
        before = Probe.state(bare);
        Probe.due("stage nowhere", bare.stage(0, 1), -1);
        Probe.due("take nowhere", bare.take(0, 1), -1);
        Probe.due("share nowhere", bare.share(0, 1, 1), false);
        Probe.same("nothing is changed by that", Probe.state(bare), before);
    }

    private static void nowhereMoreThan999() {
        Probe.sentence("nowhere, with nobody, is more than 999 by it");
        DrownedCave staged = Probe.told(FLAT);
        for (int i = 1; i <= 9; i++) {
            staged.stage(0, 99);
        }
        staged.stage(1, 98);
        Probe.due("989", staged.place(0, 1), 989);
        Probe.due("1000 at a place", staged.stage(1, 11), -1);
        Probe.due("999 at a place", staged.stage(1, 10), 999);
        Probe.due("no more there", staged.stage(1, 1), -1);
        staged.swim(1, 0);
        Probe.due("at another place", staged.stage(1, 1), 1);

        DrownedCave taken = Probe.told(FLAT);
        taken.stage(1, 99);
        taken.stage(1, 99);
        Probe.due("99 more", taken.take(0, 99), 999);
        Probe.due("1000 with one", taken.take(0, 1), -1);
        taken.stage(0, 1);
        Probe.due("1000 with one, by two", taken.take(0, 2), -1);
        Probe.due("999 with one", taken.take(0, 1), 999);

        DrownedCave shared = Probe.told(FLAT);
        Probe.due("999 by sharing", shared.share(0, 1, 99), true);
        Probe.due("1000 by sharing", shared.share(0, 1, 1), false);
        shared.stage(1, 2);
        Probe.due("1000 by sharing, by three", shared.share(0, 1, 3), false);
        Probe.due("999 by sharing", shared.share(0, 1, 2), true);
        Probe.due("what the first one has left", shared.diver(0, 2), 799);
    }

    private static void stone() {
        Probe.sentence("STONE: a WAY has thread no more");
        DrownedCave x = Probe.told(FLAT);
        x.lay(0, 0);
        x.lay(0, 1);
        Probe.due("stone(1)", x.stone(1), true);
        Probe.due("that way", x.way(1, 5), 0);
        Probe.due("that way alone", x.way(0, 5), 1);

        Probe.sentence("STONE: true; false: others, no thread.");
        String before = Probe.state(x);
        Probe.due("no thread", x.stone(1), false);
        for (int other : Probe.others(2)) {
            Probe.due("stone(" + other + ")", x.stone(other), false);
        }
        Probe.same("nothing is changed by that", Probe.state(x), before);
        Probe.due("a new object", new DrownedCave().stone(0), false);
    }

    // ---- hours

    private static void hoursUnderWater() {
        Probe.sentence("each DIVER who is not DROWNED and not at the MOUTH has been under water an hour more, and breathes");
        DrownedCave x = withTheFirstDrowned();
        Probe.due("the drowned one's hours", x.diver(0, 3), 2);
        Probe.due("another one's", x.diver(1, 3), 2);
        Probe.due("one's at the mouth", x.diver(2, 3), 0);
        x.hour();
        Probe.due("the drowned one's stay", x.diver(0, 3), 2);
        Probe.due("another one's are one more", x.diver(1, 3), 3);
        Probe.due("one's at the mouth stay", x.diver(2, 3), 0);
        Probe.due("who is at the mouth does not breathe", x.diver(2, 2), 90);

        Probe.sentence("so much less gas as the BREATH of their PLACE (as it was ahead of that hour)");
        DrownedCave ahead = Probe.told("place m deep 0;place p deep 0;way m p wide long 1;diver a plain gas 100;rain 0 9;"
            + "breath 2 + hours * 3 + white + silt * 9;");
        ahead.swim(0, 0);
        int[] gas = {98, 96, 82, 74, 54};
        for (int i = 0; i < gas.length; i++) {
            Probe.due("gas ahead of hour " + i, ahead.diver(0, 2), gas[i]);
            ahead.hour();
        }
    }

    private static void drowning() {
        Probe.sentence("who has less than that has 0 and is DROWNED");
        DrownedCave x = Probe.told("place m deep 0;place p deep 4;way m p wide long 1;diver a plain gas 10;diver b plain gas 9;"
            + "diver c plain gas 5;diver d plain gas 11;");
        x.lay(0, 0);
        for (int diver = 1; diver < 4; diver++) {
            x.swim(diver, 0);
        }
        Probe.due("who has 4, and who has 0", x.hour(), 6);
        Probe.due("who had 5 has 0", x.diver(0, 2), 0);
        Probe.due("and is not drowned", x.diver(0, 4), 0);
        Probe.due("who had 4 has 0", x.diver(1, 2), 0);
        Probe.due("and is drowned", x.diver(1, 4), 1);
        Probe.due("who had 0 has 0", x.diver(2, 2), 0);
        Probe.due("and is drowned", x.diver(2, 4), 1);
        Probe.due("who had 6 has 1", x.diver(3, 2), 1);

        Probe.sentence("HOUR: who DROWNS by it, as bits.");
        Probe.due("not who was drowned ahead", x.hour(), 9);
        Probe.due("nobody twice", x.hour(), 0);
        Probe.due("who is drowned", x.count(5), 15);
        Probe.due("of nothing", new DrownedCave().hour(), 0);
    }

    private static void atTheMouth() {
        Probe.sentence("those at the MOUTH, or nowhere, have been 0 hours under water then, and breathe nothing");
        DrownedCave x = Probe.told(FLAT);
        x.swim(0, 0);
        x.hour();
        x.hour();
        x.swim(0, 0);
        Probe.due("ahead of that hour", x.diver(0, 3), 2);
        int gas = x.diver(0, 2);
        x.hour();
        Probe.due("behind it", x.diver(0, 3), 0);
        Probe.due("nothing is breathed", x.diver(0, 2), gas);
        DrownedCave empty = Probe.told("place m deep 9;diver a plain gas 1;");
        empty.stage(0, 1);
        Probe.due("who has nothing at the mouth does not drown", empty.hour(), 0);
        Probe.due("nor is drowned", empty.count(5), 0);
        DrownedCave bare = Probe.told(NOWHERE);
        Probe.due("nobody drowns nowhere", bare.hour(), 0);
        Probe.due("no hours", bare.diver(0, 3), 0);
        Probe.due("all gas", bare.count(8), 18);
        Probe.due("nothing is breathed nowhere", bare.spent(), 0);
        Probe.due("but it is the next hour", bare.count(3), 1);
    }

    private static void hourOfWays() {
        Probe.sentence("the silt of all WAYS is 1 less (0 at least), but 1 more (9 at most) if its rain is 7 or more; it is the "
            + "next hour");
        DrownedCave x = Probe.told(FLAT + "rain 0 6 6 7 8 9;");
        x.swim(0, 0);
        int[] first = {2, 1, 0, 0, 1, 2, 3};
        int[] second = {0, 0, 0, 0, 1, 2, 3};
        for (int hour = 0; hour < first.length; hour++) {
            Probe.due("the hour", x.count(3), hour);
            Probe.due("silt ahead of hour " + hour, x.way(0, 4), first[hour]);
            Probe.due("silt of the other way", x.way(1, 4), second[hour]);
            x.hour();
        }
        DrownedCave white = Probe.told(FLAT + "rain 7;");
        for (int hour = 0; hour < 12; hour++) {
            Probe.due("silt ahead of hour " + hour, white.way(1, 4), Math.min(9, hour));
            white.hour();
        }
        DrownedCave clear = Probe.told(FLAT + "rain 6;");
        clear.hour();
        Probe.due("rain 6 is not 7", clear.count(7), 0);
    }

    // ---- undoing

    private static void undo() {
        Probe.sentence("UNDO: all of these, the last 16, one by one");
        for (int last = 0; last < 7; last++) {
            DrownedCave x = Probe.told(FLAT);
            for (int deed = 0; deed < last; deed++) {
                done(x, deed);
            }
            String ahead = Probe.state(x);
            Probe.due("deed " + last, done(x, last), true);
            Probe.due("deed " + last + " is undone", x.undo(), true);
            Probe.same("as ahead of deed " + last, Probe.state(x), ahead);
        }
        DrownedCave all = Probe.told(FLAT);
        String first = Probe.state(all);
        for (int deed = 0; deed < 7; deed++) {
            Probe.due("deed " + deed, done(all, deed), true);
        }
        for (int deed = 6; deed >= 0; deed--) {
            Probe.due("deed " + deed + " is undone", all.undo(), true);
            Probe.due("as many as ahead of it", all.count(12), deed);
        }
        Probe.same("as at first", Probe.state(all), first);
        Probe.due("no more", all.undo(), false);
    }

    private static boolean done(DrownedCave x, int deed) {
        switch (deed) {
            case 0: return x.swim(0, 0) == 1;
            case 1: return x.lay(1, 0) == 1;
            case 2: return x.stage(0, 9) == 9;
            case 3: return x.take(1, 8) > 0;
            case 4: return x.share(1, 0, 7);
            case 5: return x.stone(0);
            default: return x.hour() == 0;
        }
    }

    private static void undoSixteen() {
        Probe.sentence("UNDO: true; false: nothing can be.");
        DrownedCave x = Probe.told(FLAT);
        Probe.due("nothing yet", x.undo(), false);
        for (int i = 1; i <= 40; i++) {
            x.hour();
            Probe.due("what can be undone behind " + i, x.count(12), Math.min(16, i));
        }
        Probe.due("what can't be is not kept", x.swim(0, 1), -1);
        for (int i = 1; i <= 16; i++) {
            Probe.due("undo " + i, x.undo(), true);
            Probe.due("the hour", x.count(3), 40 - i);
            Probe.due("what can be undone", x.count(12), 16 - i);
        }
        Probe.due("a seventeenth", x.undo(), false);
        Probe.due("the hour stays", x.count(3), 24);
        x.hour();
        Probe.due("what is done then", x.undo(), true);
        Probe.due("that alone", x.undo(), false);
        for (int i = 0; i < 15; i++) {
            x.hour();
        }
        x.undo();
        x.stage(0, 1);
        x.stage(0, 1);
        Probe.due("14 hours, two stages", x.count(12), 16);
        Probe.due("a question, what is found, a mark or a dive can't be undone",
            x.find(0, 1) && x.mark(0, false) && x.open() == 3 && x.dive() == 0, true);
        Probe.due("as many as ahead", x.count(12), 16);
        for (int i = 0; i < 16; i++) {
            Probe.due("undo", x.undo(), true);
        }
        Probe.due("none is left", x.undo(), false);
        Probe.due("the hour is that of the first", x.count(3), 24);
        Probe.due("of nothing", new DrownedCave().undo(), false);
    }

    // ---- judging

    private static void judgedLines() {
        Probe.sentence("JUDGED: the DIVE from the begin: the first line (from 0) that can't be (stone of a WAY without thread, or "
            + "none, too; lines that can't be are left out)");
        DrownedCave x = Probe.told(POOR);
        x.lay(2, 0);
        x.hour();
        x.stage(0, 14);
        judge(x, "lay a 0;", -1, -1, 0);
        judge(x, "stage a 14;take b 14;share b c 33;", -1, -1, 0);
        judge(x, "stage a 15;", 0, -1, 0);
        judge(x, "hour;stone 0;", 1, -1, 0);
        judge(x, "hour;stone 7;", 1, -1, 0);
        judge(x, "hour;hour;swim a 7;", 2, -1, 0);
        judge(x, "hour;hour;lay a 1;", 2, -1, 0);
        judge(x, "lay a 0;lay b 0;stone 0;stone 0;", 1, -1, 0);
        judge(x, "lay a 0;stone 0;lay b 0;", -1, -1, 0);
        judge(x, "take a 1;stage a 1;take a 1;take a 1;", 0, -1, 0);
        judge(x, "share a b 15;share a b 14;share a b 1;", 0, -1, 0);
        judge(x, "share a b 14;share b c 33;share c a 99;", -1, -1, 0);
        judge(x, "hour;".repeat(39) + "take a 1;", 39, -1, 0);
        judge(x, "take a 1;" + "hour;".repeat(39), 0, -1, 0);
        judge(x, "", -1, -1, 0);
        Probe.due("the hour as it was", x.count(3), 1);
        Probe.due("gas as it was", x.diver(0, 2), 0);
    }

    private static void judgedDrowning() {
        Probe.sentence("the first line by which one DROWNS (an hour); how many have at last");
        DrownedCave x = Probe.told(POOR);
        judge(x, "swim a 0;hour;", -1, -1, 0);
        judge(x, "swim a 0;hour;hour;", -1, 2, 1);
        judge(x, "swim a 0;swim b 0;hour;hour;", -1, 3, 1);
        judge(x, "swim a 0;swim b 0;hour;hour;hour;", -1, 3, 2);
        judge(x, "swim a 0;swim b 0;stage b 5;hour;hour;hour;", -1, 4, 2);
        judge(x, "swim a 0;hour;hour;swim a 0;hour;", 3, 2, 1);
        judge(x, "swim a 0;swim b 0;share b a 1;hour;hour;", -1, -1, 0);
        judge(x, "swim a 0;swim b 0;share b a 1;hour;hour;hour;", -1, 5, 2);
        judge(x, "lay a 0;swim b 0;swim c 0;stage a 9;stage b 14;stage c 85;hour;", -1, 6, 3);
        judge(x, "swim a 0;" + "hour;".repeat(39), -1, 2, 1);
        DrownedCave rich = Probe.told("place m deep 0;place p deep 0;way m p wide long 1;diver a plain gas 39;");
        judge(rich, "swim a 0;" + "hour;".repeat(39), -1, 39, 1);
        DrownedCave bare = Probe.told(NOWHERE);
        judge(bare, "swim a 0;stage a 1;take a 1;share a b 1;hour;", 0, -1, 0);
        judge(bare, "hour;hour;share a b 1;", 2, -1, 0);

        Probe.sentence("JUDGED, what 0, 1: lines (NONE: none), 2: how many; -2: others.");
        for (int what : Probe.others(3)) {
            Probe.due("judged(" + what + ")", x.judged(what), -2);
            Probe.due("judged(" + what + ") of nothing", new DrownedCave().judged(what), -2);
        }
        judge(new DrownedCave(), "", -1, -1, 0);
    }

    private static void judge(DrownedCave x, String dive, int bad, int death, int dead) {
        int fault = Probe.dive(x, dive);
        Probe.due("dive " + dive, fault, 0);
        Probe.due("can't be: " + dive, x.judged(0), bad);
        Probe.due("drowns: " + dive, x.judged(1), death);
        Probe.due("have: " + dive, x.judged(2), dead);
    }

    // ---- what the questions answer to others

    private static void questions() {
        DrownedCave x = withTheFirstDrowned();
        x.stage(2, 7);

        Probe.sentence("Of a PLACE, what 0: deep, 1: gas staged there, 2: DIVERS that are there, as bits; NONE: others.");
        int[][] places = {{0, 7, 4}, {4, 0, 3}};
        for (int place = 0; place < 2; place++) {
            for (int what = 0; what < 3; what++) {
                Probe.due("place(" + place + ", " + what + ")", x.place(place, what), places[place][what]);
            }
        }
        for (int what = 0; what < 3; what++) {
            for (int other : Probe.others(2)) {
                Probe.due("place(" + other + ", " + what + ")", x.place(other, what), -1);
            }
        }
        for (int other : Probe.others(3)) {
            Probe.due("place(0, " + other + ")", x.place(0, other), -1);
        }

        Probe.sentence("Of a WAY, what 0: one end, 1: the other one, 2: length, 3: 1 narrow, 4: silt, 5: 1 thread, 6: 1 BLIND; "
            + "NONE: others.");
        DrownedCave y = Probe.told(FLAT + "rain 0 6;");
        y.swim(0, 0);
        y.lay(0, 1);
        y.hour();
        int[][] ways = {{0, 1, 1, 0, 1, 0, 1}, {2, 1, 1, 1, 2, 1, 1}};
        for (int way = 0; way < 2; way++) {
            for (int what = 0; what < 7; what++) {
                Probe.due("way(" + way + ", " + what + ")", y.way(way, what), ways[way][what]);
            }
        }
        for (int what = 0; what < 7; what++) {
            for (int other : Probe.others(2)) {
                Probe.due("way(" + other + ", " + what + ")", y.way(other, what), -1);
            }
        }
        for (int other : Probe.others(7)) {
            Probe.due("way(1, " + other + ")", y.way(1, other), -1);
        }
        questionsOfDivers(x);
    }

    private static void questionsOfDivers(DrownedCave x) {
        Probe.sentence("Of a DIVER, what 0: KIND (0 plain, 1 old, 2 afraid, 3 calm), 1: where (NONE: nowhere), 2: gas, 3: hours "
            + "under water, 4: 1 DROWNED; -2: others.");
        int[][] divers = {{0, 1, 0, 2, 1}, {0, 1, 4, 2, 0}, {0, 0, 83, 0, 0}};
        for (int diver = 0; diver < 3; diver++) {
            for (int what = 0; what < 5; what++) {
                Probe.due("diver(" + diver + ", " + what + ")", x.diver(diver, what), divers[diver][what]);
            }
        }
        for (int what = 0; what < 5; what++) {
            for (int other : Probe.others(3)) {
                Probe.due("diver(" + other + ", " + what + ")", x.diver(other, what), -2);
            }
        }
        for (int other : Probe.others(5)) {
            Probe.due("diver(0, " + other + ")", x.diver(0, other), -2);
        }
        Probe.due("nowhere", Probe.told(NOWHERE).diver(1, 1), -1);

        Probe.sentence("COST of a WAY to a DIVER; NONE: others.");
        DrownedCave y = Probe.told(FLAT);
        Probe.due("wherever they are", y.cost(0, 1), 1);
        for (int other : Probe.others(2)) {
            Probe.due("cost(" + other + ", 0)", y.cost(other, 0), -1);
            Probe.due("cost(0, " + other + ")", y.cost(0, other), -1);
            Probe.due("cost(" + other + ", " + other + ")", y.cost(other, other), -1);
        }
        Probe.due("of one who is drowned", x.cost(0, 0), 5);
        Probe.due("nowhere", Probe.told(NOWHERE).cost(0, 0), -1);
    }

    private static void refusals() {
        DrownedCave x = Probe.told(FLAT);
        x.swim(0, 0);
        String before = Probe.state(x);

        Probe.sentence("SWIM: where they are then; NONE: others, it can't be.");
        for (int other : Probe.others(2)) {
            Probe.due("swim(" + other + ", 0)", x.swim(other, 0), -1);
            Probe.due("swim(0, " + other + ")", x.swim(0, other), -1);
            Probe.due("swim(" + other + ", " + other + ")", x.swim(other, other), -1);
        }
        Probe.due("not at hand", x.swim(1, 1), -1);
        Probe.same("nothing is changed by that", Probe.state(x), before);
        Probe.due("nowhere", Probe.told(NOWHERE).swim(0, 0), -1);

        Probe.sentence("LAY: where they are then; NONE: others, it can't be.");
        for (int other : Probe.others(2)) {
            Probe.due("lay(" + other + ", 0)", x.lay(other, 0), -1);
            Probe.due("lay(0, " + other + ")", x.lay(0, other), -1);
            Probe.due("lay(" + other + ", " + other + ")", x.lay(other, other), -1);
        }
        Probe.due("not at hand", x.lay(1, 1), -1);
        Probe.same("nothing is changed by that", Probe.state(x), before);
        Probe.due("nowhere", Probe.told(NOWHERE).lay(0, 0), -1);
    }
}
