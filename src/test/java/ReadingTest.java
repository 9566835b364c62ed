/** Promises 1 to 4: a new object, the tape, and the texts of caves and dives with their faults. */
public final class ReadingTest {
    private static final String TWO = "place aa deep 1 ; place bb deep 1 ; diver dd old gas 9 ; diver ee old gas 9 ; ";

    private ReadingTest() {
    }

    public static void main(String[] args) {
        newObject();
        feeding();
        fullTapes();
        emptyTexts();
        tokens();
        firstWords();
        placeFaults();
        wayFaults();
        diverFaults();
        rainFaults();
        breathFaults();
        diveFaults();
        whatACaveBrings();
        caveBehindCave();
        whatAFaultLeaves();
        Probe.close();
    }

    private static void newObject() {
        DrownedCave x = new DrownedCave();
        for (int what = 0; what <= 13; what++) {
            Probe.due("count(" + what + ") of a new object", x.count(what), 0);
        }
        Probe.due("undo() of a new object", x.undo(), false);
        Probe.due("judged(0) of a new object", x.judged(0), -1);
    }

    private static void feeding() {
        DrownedCave x = new DrownedCave();
        Probe.due("feed, the highest byte first", x.feed(0x6861000000000000L, 0x6c6cL, 0), 4);
        Probe.due("'hall' can't stand", x.cave(), 1);
        Probe.due("signs left out", x.feed(0x090a0b1f207e7f80L, -1L, 0), 3);
        Probe.due("10, 32 and 126 are on the tape: 126 is none", x.cave(), 1 + 16 * 2);
        for (int i = 1; i <= 41; i++) {
            long blanks = 0x2020202020202020L;
            Probe.due("feed of 24 blanks, " + i, x.feed(blanks, blanks, blanks), 24 * i);
        }
        Probe.due("the tape is nearly full", x.feed(0x2020202020202020L, 0, 0), 992);
        Probe.due("the tape's last sign", x.feed(0x2020202020202061L, 0x6161L, 0), 1000);
        Probe.due("no more than 1,000", x.feed(0x61L, 0x61L, 0x61L), 1000);
        Probe.due("count(13)", x.count(13), 1000);
        Probe.due("the last sign is read", x.cave(), 1 + 16 * 999);
        Probe.due("what reads the tape takes it", x.count(13), 0);
    }

    private static void fullTapes() {
        DrownedCave x = new DrownedCave();
        Probe.due("1,000 blanks", Probe.cave(x, " ".repeat(1000)), 0);
        Probe.due("a word at the very end", Probe.cave(x, " ".repeat(996) + "rain"), 1 + 16 * 1000);
        Probe.due("a number at the very end", Probe.cave(x, "rain" + " ".repeat(995) + "9"), 1 + 16 * 1000);
        Probe.due("a sign at the very end", Probe.cave(x, "rain 9" + " ".repeat(993) + ";"), 0);
        Probe.due("its rain", x.count(4), 9);
    }

    private static void emptyTexts() {
        DrownedCave x = new DrownedCave();
        Probe.due("an empty cave", x.cave(), 0);
        Probe.due("an empty dive", x.dive(), 0);
        Probe.due("blanks alone", Probe.cave(x, " \n "), 0);
        Probe.due("a sign alone", Probe.cave(x, ";"), 1);
    }

    private static void tokens() {
        good("no blanks are needed", "place a deep 1;place b deep 2;way a b wide long3;diver c old gas 9;rain 1;breath(1);");
        good("a letter may stand right behind a number", "breath 1and 2or\n3;");
        bad("a number with a letter behind is two tokens", "place a deep 1b", 1, "b");
        good("words of eight letters, numbers of four digits", "place abcdefgh deep 0009;");
        bad("a word of nine letters, at its first sign", "place abcdefghi deep 1;", 1, "abcdefghi");
        bad("a number of five digits, at its first sign", "place a deep 00001;", 1, "00001");
        bad("a capital", "place A deep 1;", 1, "A");
        bad("a capital behind letters", "place aA deep 1;", 1, "A");
        bad("a sign that is none", "place a deep 1 , ;", 1, ",");
        bad("a sign in its wrong place", "place ( deep 1 ;", 1, "(");
        Probe.due("the end is at the text's length", Probe.cave(new DrownedCave(), "place a deep 1  "), 1 + 16 * 16);
        good("facts can be names", "place depth deep 1; place white deep 1; diver silt old gas 1; diver hours calm gas 2;");
        String[] taken = ("place deep way long diver gas rain breath narrow wide swim lay stage take share stone hour "
            + "plain old afraid calm not and or").split(" ");
        for (String word : taken) {
            bad("no name: " + word, "place " + word, 1, word);
            bad("no name: " + word, "diver " + word, 1, word);
            bad("no name behind way: " + word, TWO + "way " + word, 1, word);
            bad("no name behind way's first: " + word, TWO + "way aa " + word, 1, word);
        }
    }

    private static void firstWords() {
        bad("a dive's word in a cave", "hour ;", 1, "hour");
        bad("a name first", "aa", 1, "aa");
        bad("a number first", "7", 1, "7");
        bad("two signs ;", "rain 1 ; ;", 1, ";");
        badDive("a cave's word in a dive", "rain", 1, "rain");
        badDive("a name first", "dd", 1, "dd");
        badDive("a number first", "7", 1, "7");
        badDive("a sign first", "hour ; ;", 1, ";");
    }

    private static void placeFaults() {
        bad("no deep", "place aa 1", 1, "1");
        bad("no number", "place aa deep deep", 1, "deep");
        bad("deep 10", "place aa deep 10", 4, "10");
        good("deep 0 and 9", "place aa deep 0 ; place bb deep 9 ;");
        bad("no ;", "place aa deep 1 place", 1, "place");
        bad("told already", "place aa deep 1 ; place aa", 3, "aa");
        bad("told already as a diver", TWO + "place dd", 3, "dd");
        String seven = "place a deep 1;place b deep 1;place c deep 1;place d deep 1;place e deep 1;place f deep 1;place g deep 1;";
        good("seven places", seven);
        bad("an eighth place", seven + "place ", 5, "place ");
    }

    private static void wayFaults() {
        bad("the first is no place", TWO + "way cc", 2, "cc");
        bad("the first is a diver", TWO + "way dd", 2, "dd");
        bad("the second is no place", TWO + "way aa cc", 2, "cc");
        bad("the second is a diver", TWO + "way aa dd", 2, "dd");
        bad("the second is the first", TWO + "way aa aa", 3, "aa");
        bad("told already", TWO + "way aa bb wide long 1 ; way aa bb", 3, "bb");
        bad("told already from the other end", TWO + "way aa bb wide long 1 ; way bb aa", 3, "aa");
        bad("no width", TWO + "way aa bb long 1", 1, "long");
        bad("nothing behind the places", TWO + "way aa bb ;", 1, ";");
        bad("nothing behind the width", TWO + "way aa bb wide ;", 1, ";");
        bad("nothing behind long", TWO + "way aa bb wide long ;", 1, ";");
        bad("a number for a width", TWO + "way aa bb 1", 1, "1");
        bad("no long", TWO + "way aa bb narrow 1", 1, "1");
        bad("long 0", TWO + "way aa bb narrow long 0", 4, "0");
        bad("long 10", TWO + "way aa bb narrow long 10", 4, "10");
        good("long 1", TWO + "way aa bb narrow long 1 ;");
        good("long 9", TWO + "way bb aa wide long 9 ;");
        String nine = "place a deep 1;place b deep 1;place c deep 1;place d deep 1;place e deep 1;"
            + "way a b wide long 1;way a c wide long 1;way a d wide long 1;way a e wide long 1;"
            + "way b c wide long 1;way b d wide long 1;way b e wide long 1;way c d wide long 1;";
        good("eight ways", nine);
        bad("a ninth way", nine + "way c e", 5, "way c e");
        bad("the word way comes ahead of what is wrong behind it", nine + "way c c", 5, "way c c");
    }

    private static void diverFaults() {
        bad("told already", TWO + "diver dd", 3, "dd");
        bad("told already as a place", TWO + "diver aa", 3, "aa");
        bad("no kind", "diver dd shy", 1, "shy");
        bad("a word that is no kind", "diver dd wide", 1, "wide");
        bad("no gas", "diver dd old 9", 1, "9");
        bad("gas 0", "diver dd old gas 0", 4, "0");
        bad("gas 901", "diver dd old gas 901", 4, "901");
        good("gas 1 and 900, all kinds", "diver a plain gas 1;diver b old gas 900;diver c afraid gas 1;diver d calm gas 1;");
        bad("a fifth diver", TWO + "diver ff old gas 1 ; diver gg old gas 1 ; diver ", 5, "diver ");
    }

    private static void rainFaults() {
        bad("no number", "rain ;", 1, ";");
        bad("rain 10", "rain 1 10", 4, "10");
        good("twelve", "rain 0 1 2 3 4 5 6 7 8 9 0 1 ;");
        bad("a thirteenth", "rain 0 1 2 3 4 5 6 7 8 9 0 1 6", 5, "6");
        bad("a thirteenth, the highest", "rain 0 1 2 3 4 5 6 7 8 8 0 1 9", 5, "9");
        bad("a thirteenth that is no rain either: the least", "rain 0 1 2 3 4 5 6 7 8 9 0 1 10", 4, "10");
        bad("a word behind twelve", "rain 0 1 2 3 4 5 6 7 8 9 0 1 x", 1, "x");
        bad("a word within", "rain 1 x", 1, "x");
        bad("a second time", "rain 0 ; rain", 3, "rain");
    }

    private static void breathFaults() {
        good("all of E", "breath not depth + 2 * ( white - silt ) < hours and 1 = 1 or 9999 ;");
        bad("nothing", "breath ;", 1, ";");
        bad("a name", TWO + "breath aa", 1, "aa");
        bad("two values", "breath 1 2", 1, "2");
        bad("two comparisons", "breath 1 < 2 < 3", 1, "< 3");
        bad("two comparisons, the other one", "breath 1 < 2 = 3", 1, "=");
        bad("a comparison without a right side", "breath 1 < ;", 1, ";");
        bad("a sum without a right side", "breath 1 + ;", 1, ";");
        bad("no sign stands first", "breath - 1", 1, "-");
        bad("a product without a right side", "breath 1 * ;", 1, ";");
        bad("and without a right side", "breath 1 and ;", 1, ";");
        bad("not without a PART", "breath not ;", 1, ";");
        bad("an open (", "breath ( 1 ;", 1, ";");
        bad("a ) too much", "breath ( 1 ) )", 1, ")");
        bad("an empty ( )", "breath ( )", 1, ")");
        good("within four", "breath not ( not ( 1 ) ) ;");
        good("four ( )", "breath ( ( ( ( 1 ) ) ) ) ;");
        good("side by side", "breath ( ( ( ( 1 ) + ( 2 ) ) ) ) * ( ( ( ( 3 ) ) ) ) ;");
        bad("a number within five", "breath ( ( ( ( ( 7 ) ) ) ) ) ;", 5, "7");
        bad("a fact within five of both", "breath not ( not ( not depth", 5, "depth");
        bad("not within five", "breath not not not not not not 1", 5, "not 1");
        bad("( within five", "breath ( ( ( ( ( (", 5, "(");
        bad("what can't stand there within five: the least", "breath not not not not not ;", 1, ";");
        bad("a second time", "breath 1 ; breath", 3, "breath");
    }

    private static void diveFaults() {
        badDive("no name", "swim 1", 1, "1");
        badDive("a word that is no name", "swim rain", 1, "rain");
        for (String deed : new String[] {"swim", "lay", "stage", "take", "share", "share ee"}) {
            badDive("no diver", deed + " xx", 2, "xx");
            badDive("a place", deed + " aa", 2, "aa");
        }
        for (String deed : new String[] {"swim dd", "lay dd", "stone"}) {
            badDive("no number", deed + " ;", 1, ";");
            badDive("way 8", deed + " 8", 4, "8");
            goodDive("way 0 and 7, told or not", deed + " 0 ; " + deed + " 7 ;");
        }
        for (String deed : new String[] {"stage dd", "take dd", "share dd ee"}) {
            badDive("no number", deed + " ;", 1, ";");
            badDive("0", deed + " 0", 4, "0");
            badDive("100", deed + " 100", 4, "100");
            goodDive("1 and 99", deed + " 1 ; " + deed + " 99 ;");
        }
        badDive("share with oneself", "share dd dd", 3, "dd");
        badDive("one name alone", "share dd 5", 1, "5");
        badDive("a name behind stone", "stone dd", 1, "dd");
        badDive("a number behind hour", "hour 1", 1, "1");
        Probe.due("no ; at the end", Probe.dive(Probe.told(TWO), "hour"), 1 + 16 * 4);
        goodDive("40 lines", "hour;".repeat(40));
        badDive("a 41st line", "hour;".repeat(40) + "lay", 5, "lay");
        badDive("a 41st line that is none: the least", "hour;".repeat(40) + "aa", 1, "aa");
    }

    private static void whatACaveBrings() {
        DrownedCave x = Probe.told(TWO + "way aa bb wide long 1 ;");
        x.lay(0, 0);
        x.stage(0, 2);
        x.stage(1, 3);
        x.hour();
        x.find(0, 1);
        x.mark(2, false);
        Probe.due("dive()", Probe.dive(x, "hour;"), 0);
        Probe.due("a new cave", Probe.cave(x, TWO + "way bb aa wide long 2 ; rain 3 4 ;"), 0);
        int[] due = {2, 1, 2, 0, 3, 0, 0, 0, 18, 0, 0, 0, 0, 0};
        for (int what = 0; what < due.length; what++) {
            Probe.due("count(" + what + ") behind a new cave", x.count(what), due[what]);
        }
        Probe.due("all are at the mouth", x.place(0, 2), 3);
        Probe.due("nothing was breathed", x.spent(), 0);
        Probe.due("nobody has been under water", x.diver(0, 3), 0);
        Probe.due("nothing is staged at the mouth", x.place(0, 1), 0);
        Probe.due("no mark is there", x.mark(2, true), false);
        Probe.due("nothing can be undone", x.undo(), false);
        Probe.due("without places", Probe.cave(x, "diver z plain gas 5;"), 0);
        Probe.due("nowhere", x.diver(0, 1), -1);
    }

    private static void caveBehindCave() {
        String[] texts = {TWO + "way aa bb wide long 1 ; rain 5 ; breath 7 ;", "place m deep 3 ; diver a old gas 9 ;",
            "place m deep 3 ; place p deep 4 ; way p m narrow long 2 ; diver a plain gas 9 ;", "diver z calm gas 3 ;", ""};
        int[][] counts = {{2, 1, 2, 5, 18, 7}, {1, 0, 1, 0, 9, -1}, {2, 1, 1, 0, 9, 10}, {0, 0, 1, 0, 3, -1}, {0, 0, 0, 0, 0, -1}};
        DrownedCave x = new DrownedCave();
        for (int i = 0; i < 50; i++) {
            x = i % 20 == 0 ? new DrownedCave() : x;
            int next = i % 2 == 0 ? i / 10 : i / 2 % 5;
            int[] due = counts[next];
            Probe.due("cave()", Probe.cave(x, texts[next]), 0);
            Probe.due("places", x.count(0), due[0]);
            Probe.due("ways", x.count(1), due[1]);
            Probe.due("divers", x.count(2), due[2]);
            Probe.due("rain", x.count(4), due[3]);
            Probe.due("gas of all", x.count(8), due[4]);
            Probe.due("where the first one is", x.diver(0, 1), due[2] == 0 ? -2 : due[0] == 0 ? -1 : 0);
            int cost = x.cost(0, 0);
            Probe.due("what the first way costs", cost, next == 0 ? 6 : due[5]);
            x.hour();
        }
    }

    private static void whatAFaultLeaves() {
        DrownedCave x = Probe.told(TWO + "way aa bb wide long 1 ;");
        Probe.due("dive()", Probe.dive(x, "hour;stone 1;"), 0);
        x.lay(0, 0);
        x.mark(1, false);
        Probe.due("a cave with a fault", Probe.cave(x, "place zz deep 9 ; way"), 1 + 16 * 21);
        Probe.due("its places stay", x.count(0), 2);
        Probe.due("its depth stays", x.place(0, 0), 1);
        Probe.due("its dive stays", x.count(10), 2);
        Probe.due("its thread stays", x.count(6), 1);
        Probe.due("a dive with a fault", Probe.dive(x, "hour;hour;hour;stone 9"), 4 + 16 * 21);
        Probe.due("the dive before stays", x.count(10), 2);
        Probe.due("judged(0)", x.judged(0), 1);
        Probe.due("the tape is empty", x.count(13), 0);
        Probe.due("the mark stays", x.mark(1, true), true);
        Probe.due("a dive changes nothing else", Probe.dive(x, "hour;"), 0);
        Probe.due("its thread stays", x.count(6), 1);
        Probe.due("it is another dive", x.count(10), 1);
    }

    private static void good(String why, String text) {
        Probe.due(why + ": " + text, Probe.cave(new DrownedCave(), text), 0);
    }

    private static void bad(String why, String text, int kind, String part) {
        Probe.due(why + ": " + text, Probe.cave(new DrownedCave(), text), Probe.fault(kind, text, part));
    }

    private static void goodDive(String why, String text) {
        Probe.due(why + ": " + text, Probe.dive(Probe.told(TWO), text), 0);
    }

    private static void badDive(String why, String text, int kind, String part) {
        Probe.due(why + ": " + text, Probe.dive(Probe.told(TWO), text), Probe.fault(kind, text, part));
    }
}
