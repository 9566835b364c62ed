import java.util.Arrays;

/**
 * The edges of texts, promises 1 to 4: each sentence of the document that bounds an object's calls, the tape,
 * its tokens, a cave, a dive, a law or a fault has a test of its own here, under the sentence itself.
 */
public final class TextEdgesTest {
    private static final String TWO = "place aa deep 1;place bb deep 2;diver dd old gas 9;diver ee old gas 9;";
    private static final String SEVEN = "place a deep 3;place b deep 1;place c deep 4;place d deep 0;place e deep 5;"
        + "place f deep 9;place g deep 2;";
    private static final String EIGHT = SEVEN + "way b a wide long 1;way a c narrow long 2;way d a wide long 3;"
        + "way a e narrow long 4;way f a wide long 5;way a g narrow long 6;way b c wide long 7;way d b narrow long 9;";
    private static final String FOUR = "diver q plain gas 1;diver r old gas 900;diver s afraid gas 33;diver t calm gas 4;";
    private static final String TAKEN = "place deep way long diver gas rain breath narrow wide swim lay stage take "
        + "share stone hour plain old afraid calm not and or";

    private TextEdgesTest() {
    }

    public static void main(String[] args) {
        calls();
        tape();
        tokens();
        places();
        ways();
        divers();
        rainAndBreath();
        dives();
        names();
        laws();
        placesOfFaults();
        theLeastFault();
        firstKindInCaves();
        firstKindInDives();
        otherKinds();
        whatACaveBrings();
        caveBehindCave();
        whatADiveIs();
        whatAFaultLeaves();
        Probe.close();
    }

    // ---- an object's calls, and the tape

    private static void calls() {
        Probe.sentence("An object is used for at most 512 calls after it has been made");
        DrownedCave hours = new DrownedCave();
        DrownedCave fed = new DrownedCave();
        DrownedCave read = new DrownedCave();
        DrownedCave judged = new DrownedCave();
        DrownedCave rested = new DrownedCave();
        DrownedCave turned = new DrownedCave();
        for (int i = 1; i < 512; i++) {
            hours.hour();
            fed.feed(Probe.eight("rainrain", 0), 0, 0);
            read.cave();
            judged.judged(i % 3);
            Probe.restsThrows(rested, 0, 0, 0, 4);
            if (i % 2 == 1) {
                turned.hour();
            } else {
                turned.undo();
            }
        }
        Probe.due("511 hours", hours.count(3), 511);
        Probe.due("511 feeds", fed.count(13), 1000);
        Probe.due("511 caves", read.cave(), 0);
        Probe.due("511 times judged", judged.judged(0), -1);
        Probe.due("511 times none such", rested.rests(0, 0, 0, 3), 3);
        Probe.due("255 times undone, and once more", turned.undo(), true);
        DrownedCave rainy = Probe.told("rain 1 2 3 4 5 6 7 8 9 0 1 2;");
        for (int hour = 0; hour < 508; hour++) {
            rainy.hour();
        }
        Probe.due("two feeds, a cave, 508 hours", rainy.count(4), 5);
        DrownedCave busy = Probe.told(EIGHT + FOUR);
        int told = (EIGHT.length() + FOUR.length() + 23) / 24 + 1;
        for (int call = told; call < 511; call++) {
            busy.years(call, 99, 0);
        }
        Probe.due("years to the end", busy.years(1, 99, 1) >= 0, true);
    }

    private static void tape() {
        Probe.sentence("The TAPE has at most 1,000 signs");
        DrownedCave x = new DrownedCave();
        Probe.due("the thousandth is read", Probe.cave(x, " ".repeat(993) + "rain 9;"), 0);
        Probe.due("its rain", x.count(4), 9);
        Probe.due("the thousand and first is not", Probe.cave(x, " ".repeat(994) + "rain 9;"), 1 + 16 * 1000);
        Probe.due("nor is its number", Probe.cave(x, " ".repeat(996) + "rain 9;"), 1 + 16 * 1000);

        Probe.sentence("10 and 32 .. 126");
        for (int sign = 0; sign < 256; sign++) {
            boolean isOne = sign == 10 || sign >= 32 && sign <= 126;
            Probe.due("feed of " + sign, new DrownedCave().feed(0, sign, 0), isOne ? 1 : 0);
            Probe.due("feed of " + sign + ", the highest", new DrownedCave().feed((long) sign << 56, 0, 0), isOne ? 1 : 0);
        }

        Probe.sentence("what reads it takes it: it is empty then");
        String[] texts = {"rain 1;", "rain 1", "hour;", "hour"};
        for (String text : texts) {
            DrownedCave taken = new DrownedCave();
            int fault = text.startsWith("rain") ? Probe.cave(taken, text) : Probe.dive(taken, text);
            Probe.due("read: " + text, fault, text.endsWith(";") ? 0 : 1 + 16 * text.length());
            Probe.due("behind " + text, taken.count(13), 0);
            Probe.due("an empty cave behind it", taken.cave(), 0);
            Probe.due("what comes behind the tape then", taken.feed('a', 0, 0), 1);
        }

        Probe.sentence("Up to 24 signs come behind the TAPE: the bytes of a, b, c, of each the highest first");
        String whole = "place a deep 1;rain 9 8;";
        DrownedCave once = new DrownedCave();
        Probe.due("24 at once", once.feed(Probe.eight(whole, 0), Probe.eight(whole, 8), Probe.eight(whole, 16)), 24);
        Probe.due("in their order", once.cave(), 0);
        Probe.due("the last ones", once.count(4), 9);
        Probe.due("none", once.feed(0, 0, 0), 0);
        for (int at = 0; at < 24; at++) {
            long sign = (long) 'z' << 56 - at % 8 * 8;
            Probe.due("one at " + at, new DrownedCave().feed(at < 8 ? sign : 0, at / 8 == 1 ? sign : 0, at < 16 ? 0 : sign), 1);
        }

        Probe.sentence("others than 10 and 32 .. 126, and what is beyond 1,000, are left out: how many there are");
        DrownedCave gaps = new DrownedCave();
        Probe.due("-1 is eight others", gaps.feed(-1, -1, Long.MIN_VALUE), 0);
        Probe.due("others leave no gap", gaps.feed(Probe.eight("ra\u00ffi\tn 9", 0), ';', 0), 7);
        Probe.due("it is rain 9;", gaps.cave(), 0);
        Probe.due("its rain", gaps.count(4), 9);
        Probe.feed(gaps, " ".repeat(990));
        Probe.due("990", gaps.count(13), 990);
        Probe.due("ten of 24", gaps.feed(Probe.eight("    rain", 0), Probe.eight(" 7;wrong", 0), Probe.eight("wrong   ", 0)), 1000);
        Probe.due("no more", gaps.feed(0, 0, ';'), 1000);
        Probe.due("nothing on a full one", gaps.feed(0, 0, 0), 1000);
        Probe.due("only these were read: rain 7 has no ;", gaps.cave(), 1 + 16 * 1000);
    }

    // ---- tokens

    private static void tokens() {
        Probe.sentence("TOKENS, each as long as can be");
        bad("placea deep 1;", 1, "placea");
        bad("place a deep12;", 4, "12");
        bad("breath notdepth;", 1, "notdepth");

        Probe.sentence("blanks (10, 32) between where one likes");
        good("place a deep 1;place b deep 1;way a b wide long 1;diver d old gas 9;rain 1 2;breath(1)<2;");
        good("\n\n  place\n\na  deep \n 1\n\n;\n rain\n3\n4\n; \n");
        good(" ");
        good("\n");
        bad("pla ce a deep 1;", 1, "pla");
        bad("rain 1 0;place a deep 1 0;", 1, "0;");

        Probe.sentence("WORDS (letters a .. z, 8 at most)");
        good("place aaaaaaaa deep 1;place zzzzzzzz deep 2;place aaaaaaa deep 3;place aaaaaaab deep 4;place z deep 5;");
        bad("place aaaaaaaaa deep 1;", 1, "aaaaaaaaa");
        bad("place abcdefghi deep 1;", 1, "abcdefghi");
        bad("place a`", 1, "`");
        bad("place a{", 1, "{");
        bad("place aZ", 1, "Z");

        Probe.sentence("NUMBERS (1 to 4 digits; a letter may stand right behind)");
        good("rain 0 00 000 0000 9 09 009 0009;");
        bad("rain 00000;", 1, "00000");
        bad("rain 1 4294967297;", 1, "4294967297");
        bad("rain " + "0".repeat(995), 1, "0".repeat(995));
        good("breath 9999;");
        good("breath 1and 2or 3;");
        bad("rain 9/", 1, "/");
        bad("rain 9:", 1, ":");
        good("diver d old gas9;");
        bad("rain 1x", 1, "x");

        Probe.sentence("the signs ( ) < = + - * ;");
        good("breath(1+2-3*4)<5;");
        good("breath(1)=2;");

        Probe.sentence("All else (a longer WORD or NUMBER, too, at its first sign) is none");
        for (char sign = 33; sign < 127; sign++) {
            if (!Character.isLetterOrDigit(sign) || Character.isUpperCase(sign)) {
                bad("rain 1;" + sign, 1, String.valueOf(sign));
            }
        }
        bad("rain 1;placeplace a deep 1;", 1, "placeplace");
        bad("rain 1;" + "z".repeat(993), 1, "z".repeat(993));
        bad("place a deep12345;", 1, "12345");
        bad("breath 12345", 1, "12345");
    }

    // ---- caves

    private static void places() {
        Probe.sentence("CAVE: any number of");
        DrownedCave none = Probe.told("");
        Probe.due("no places", none.count(0), 0);
        Probe.due("no ways", none.count(1), 0);
        Probe.due("no divers", none.count(2), 0);
        good("place a deep 1;");
        good("diver a old gas 1;");
        good("rain 0;");
        good("breath 0;");
        good("breath 0;rain 0;" + FOUR + EIGHT);

        Probe.sentence("place: 7 at most, numbered as told");
        DrownedCave seven = Probe.told(SEVEN);
        Probe.due("seven", seven.count(0), 7);
        int[] depths = {3, 1, 4, 0, 5, 9, 2};
        for (int place = 0; place < 7; place++) {
            Probe.due("place(" + place + ", 0)", seven.place(place, 0), depths[place]);
        }
        bad(SEVEN + "place h deep 1;", 5, "place h");

        Probe.sentence("deep 0 to 9");
        Probe.due("deep 0", Probe.told("place a deep 0;").place(0, 0), 0);
        Probe.due("deep 9", Probe.told("place a deep 9;").place(0, 0), 9);
        bad("place a deep 10;", 4, "10");
        bad("place a deep 9999;", 4, "9999");
        bad("place a deep -1;", 1, "-");

        Probe.sentence("the first one told is the MOUTH");
        DrownedCave late = Probe.told("rain 0;diver d old gas 5;place z deep 3;place a deep 1;");
        Probe.due("where all are", late.diver(0, 1), 0);
        Probe.due("who is there", late.place(0, 2), 1);
        Probe.due("how far", late.far(0), 0);
        Probe.due("led", late.led(), 1);
    }

    private static void ways() {
        Probe.sentence("way: 8 at most, numbered as told");
        DrownedCave eight = Probe.told(EIGHT);
        Probe.due("eight", eight.count(1), 8);
        int[][] due = {{1, 0, 1, 0}, {0, 2, 2, 1}, {3, 0, 3, 0}, {0, 4, 4, 1}, {5, 0, 5, 0}, {0, 6, 6, 1}, {1, 2, 7, 0}, {3, 1, 9, 1}};
        for (int way = 0; way < 8; way++) {
            for (int what = 0; what < 4; what++) {
                Probe.due("way(" + way + ", " + what + ")", eight.way(way, what), due[way][what]);
            }
        }
        bad(EIGHT + "way c d wide long 1;", 5, "way c");

        Probe.sentence("between two PLACES told, not the same, each two have one at most");
        bad("place a deep 1;way a b wide long 1;place b deep 1;", 2, "b wide");
        bad("place a deep 1;way b a wide long 1;place b deep 1;", 2, "b a");
        bad(TWO + "way aa aa wide long 1;", 3, "aa wide");
        bad(TWO + "way bb bb wide long 1;", 3, "bb wide");
        bad(TWO + "way aa bb wide long 1;way aa bb wide long 2;", 3, "bb wide long 2");
        bad(TWO + "way aa bb wide long 1;way bb aa narrow long 1;", 3, "aa narrow");
        bad(EIGHT.replace("way d b narrow long 9;", "way c b wide long 9;"), 3, "b wide long 9");
        good(SEVEN + "way a b wide long 1;way b c wide long 1;way a c wide long 1;");

        Probe.sentence("WIDTH: narrow, wide; long 1 to 9");
        Probe.due("narrow", Probe.told(TWO + "way aa bb narrow long 1;").way(0, 3), 1);
        Probe.due("wide", Probe.told(TWO + "way aa bb wide long 1;").way(0, 3), 0);
        bad(TWO + "way aa bb broad long 1;", 1, "broad");
        bad(TWO + "way aa bb deep long 1;", 1, "deep");
        Probe.due("long 1", Probe.told(TWO + "way aa bb wide long 1;").way(0, 2), 1);
        Probe.due("long 9", Probe.told(TWO + "way aa bb wide long 9;").way(0, 2), 9);
        bad(TWO + "way aa bb wide long 0;", 4, "0");
        bad(TWO + "way aa bb wide long 10;", 4, "10");
        bad(TWO + "way aa bb wide long 9999;", 4, "9999");
    }

    private static void divers() {
        Probe.sentence("diver: 4 at most, numbered as told");
        DrownedCave four = Probe.told(FOUR);
        Probe.due("four", four.count(2), 4);
        int[] gas = {1, 900, 33, 4};
        for (int diver = 0; diver < 4; diver++) {
            Probe.due("gas of " + diver, four.diver(diver, 2), gas[diver]);
        }
        bad(FOUR + "diver u calm gas 1;", 5, "diver u");

        Probe.sentence("KIND: plain, old, afraid, calm; gas 1 to 900");
        for (int kind = 0; kind < 4; kind++) {
            Probe.due("kind " + kind, four.diver(kind, 0), kind);
        }
        bad("diver q bold gas 1;", 1, "bold");
        bad("diver q wide gas 1;", 1, "wide");
        bad("diver q gas 1;", 1, "gas");
        Probe.due("gas 1", Probe.told("diver q old gas 1;").diver(0, 2), 1);
        Probe.due("gas 900", Probe.told("diver q old gas 900;").diver(0, 2), 900);
        bad("diver q old gas 0;", 4, "0");
        bad("diver q old gas 901;", 4, "901");
        bad("diver q old gas 9999;", 4, "9999");
    }

    private static void rainAndBreath() {
        Probe.sentence("rain 0 to 9 of one hour behind another, 1 to 12, again and again (0)");
        bad("rain;", 1, ";");
        bad("rain 10;", 4, "10");
        bad("rain 0 9 10;", 4, "10");
        bad("rain 9999;", 4, "9999");
        bad("rain 1 2 3 4 5 6 7 8 9 0 1 2 3;", 5, "3");
        DrownedCave one = Probe.told("rain 9;");
        DrownedCave twelve = Probe.told("rain 1 2 3 4 5 6 7 8 9 0 8 6;");
        DrownedCave dry = Probe.told("place a deep 1;");
        int[] rain = {1, 2, 3, 4, 5, 6, 7, 8, 9, 0, 8, 6};
        for (int hour = 0; hour < 37; hour++) {
            Probe.due("rain of hour " + hour + ", of one", one.count(4), 9);
            Probe.due("rain of hour " + hour + ", of twelve", twelve.count(4), rain[hour % 12]);
            Probe.due("rain of hour " + hour + ", of none", dry.count(4), 0);
            one.hour();
            twelve.hour();
            dry.hour();
        }

        Probe.sentence("rain, breath: once each");
        bad("rain 0;rain 1;", 3, "rain 1");
        bad("rain 1 2 3 4 5 6 7 8 9 0 1 2;breath 1;rain 1;", 3, "rain 1;");
        bad("breath 1;rain 1;breath 1;", 3, "breath 1;");
        good("breath 1;rain 1;");
    }

    // ---- dives

    private static void dives() {
        Probe.sentence("DIVE: any number of");
        DrownedCave x = Probe.told(TWO);
        Probe.due("none", x.dive(), 0);
        Probe.due("how many", x.count(10), 0);
        Probe.due("one", Probe.dive(x, "hour;"), 0);
        Probe.due("how many", x.count(10), 1);
        Probe.due("all seven", Probe.dive(x, "swim dd 1;lay dd 1;stage dd 1;take dd 1;share dd ee 1;stone 1;hour;"), 0);
        Probe.due("how many", x.count(10), 7);
        Probe.due("of a new object", Probe.dive(new DrownedCave(), "hour;stone 7;"), 0);
        Probe.due("of a new object, which has no divers", Probe.dive(new DrownedCave(), "swim dd 1;"), 2 + 16 * 5);

        Probe.sentence("a DIVER by a WAY, 0 to 7");
        for (String deed : new String[] {"swim", "lay"}) {
            goodDive(deed + " dd 0;" + deed + " ee 7;");
            badDive(deed + " dd 8;", 4, "8");
            badDive(deed + " dd 9999;", 4, "9999");
        }

        Probe.sentence("a DIVER 1 to 99");
        for (String deed : new String[] {"stage", "take"}) {
            goodDive(deed + " dd 1;" + deed + " ee 99;");
            badDive(deed + " dd 0;", 4, "0");
            badDive(deed + " dd 100;", 4, "100");
            badDive(deed + " dd 9999;", 4, "9999");
        }

        Probe.sentence("two DIVERS, not the same, 1 to 99");
        goodDive("share dd ee 1;share ee dd 99;");
        badDive("share dd dd 1;", 3, "dd 1");
        badDive("share ee ee 1;", 3, "ee 1");
        badDive("share dd ee 0;", 4, "0");
        badDive("share dd ee 100;", 4, "100");
        badDive("share dd ee 9999;", 4, "9999");

        Probe.sentence("a WAY), 40 lines at most");
        goodDive("stone 0;stone 7;");
        badDive("stone 8;", 4, "8");
        badDive("stone 9999;", 4, "9999");
        DrownedCave full = Probe.told(TWO);
        Probe.due("40 lines", Probe.dive(full, "stage dd 1;".repeat(39) + "hour;"), 0);
        Probe.due("how many", full.count(10), 40);
        for (String deed : new String[] {"swim", "lay", "stage", "take", "share", "stone", "hour"}) {
            badDive("hour;".repeat(40) + deed, 5, deed);
        }
    }

    private static void names() {
        Probe.sentence("A NAME is another WORD than place, deep, way, long, diver, gas, rain, breath, narrow, wide, swim, "
            + "lay, stage, take, share, stone, hour, the KINDS, not, and, or");
        for (String word : TAKEN.split(" ")) {
            bad("place " + word + " deep 1;", 1, word + " deep 1");
            bad("diver " + word + " old gas 1;", 1, word + " old gas 1");
            bad(TWO + "way " + word + " aa wide long 1;", 1, word + " aa wide long 1");
            bad(TWO + "way aa " + word + " wide long 1;", 1, word + " wide long 1");
            for (String deed : new String[] {"swim", "lay", "stage", "take", "share", "share dd"}) {
                badDive(deed + " " + word + " 1;", 1, word + " 1;");
            }
            good("place x" + word + " deep 1;diver " + word + "x old gas 1;");
        }
        good("place depth deep 1;place white deep 1;diver silt old gas 1;diver hours old gas 1;way depth white wide long 1;");

        Probe.sentence("no two (PLACES, DIVERS) are alike");
        bad("place a deep 1;place b deep 1;place a deep 1;", 3, "a deep 1;");
        bad("diver a old gas 1;diver b old gas 1;diver a old gas 1;", 3, "a old");
        bad("place a deep 1;place b deep 1;diver b old gas 1;", 3, "b old");
        bad("diver a old gas 1;diver b old gas 1;place b deep 1;", 3, "b deep");
        good("place a deep 1;place aa deep 1;diver aaa old gas 1;diver aaaa old gas 1;");
    }

    // ---- laws

    private static void laws() {
        Probe.sentence("TEST { and TEST or or TEST }, from the left");
        law("3 + ( 1 or 1 and 0 )", 3);
        law("3 + ( 0 and 0 or 1 )", 4);
        bad("breath 1 and;", 1, ";");
        bad("breath or 1;", 1, "or");

        Probe.sentence("TEST: SUM, or SUM < SUM, or SUM = SUM");
        bad("breath 1 + 1 < 1 + 1 = 0;", 1, "= 0");
        bad("breath 1 = 1 < 2;", 1, "< 2");
        law("3 + ( 1 + 1 = 1 + 1 )", 4);
        law("3 + ( 2 - 1 < 1 + 1 )", 4);

        Probe.sentence("SUM: PRODUCT { + or - PRODUCT }; PRODUCT: PART { * PART }");
        law("9 - 3 - 2", 4);
        law("2 + 2 * 3", 8);
        bad("breath + 1;", 1, "+");
        bad("breath - 1;", 1, "-");
        bad("breath 1 - - 1;", 1, "- 1");
        bad("breath 2 * ;", 1, ";");

        Probe.sentence("PART: a NUMBER, a fact, not PART, ( E )");
        law("0", 1);
        law("3 + not not 9", 4);
        law("( 2 + 1 ) * 3", 9);
        bad("breath ();", 1, ")");
        bad("breath ( 1;", 1, ";");
        bad("breath ( 1 2 );", 1, "2");
        bad("breath ( 1 ) );", 1, ");");
        bad("breath not;", 1, ";");
        bad("breath fact;", 1, "fact");

        Probe.sentence("no PART lies within 5 of not and ( )");
        law("( ( ( ( 7 ) ) ) )", 7);
        law("not not not not 7", 1);
        bad("breath ( not ( not ( hours ) ) );", 5, "hours");
        law("not ( not ( 0 + 0 ) ) + ( ( ( ( 4 ) ) ) )", 4);
        bad("breath ( ( ( ( ( 7 ) ) ) ) );", 5, "7");
        bad("breath ( ( ( ( ( ( 7 ) ) ) ) ) );", 5, "( 7");
        bad("breath not not not not not depth;", 5, "depth");
        bad("breath not not not not not not 1;", 5, "not 1");
        bad("breath ( ( ( ( 1 + ( 2 ) ) ) ) );", 5, "2");
        bad("breath 1 + ( ( ( ( 1 < ( 2 ) ) ) ) );", 5, "2");

        facts();

        Probe.sentence("Of not, and, or, < and = comes 1 or 0; what is not 0 is so; ints wrap");
        String[] ones = {"not 0", "5 and 7", "0 - 5 and 0 - 7", "0 or 9", "0 - 9 or 0", "0 - 1 < 0", "7 = 7", "not not 7",
            "9999 * 9999 * 9999 < 0", "9999 * 9999 * 22 < 0", "0 < 0 - 9999 * 9999 * 22",
            "2 * 2048 * 1024 * 1024 = 0", "1024 * 1024 * 2048 < 0", "0 - 1024 * 1024 * 2048 = 1024 * 1024 * 2048"};
        String[] zeros = {"not 5", "not ( 0 - 5 )", "5 and 0", "0 and 5", "0 or 0", "0 < 0", "1 < 0", "7 = 8", "not not 0"};
        for (String one : ones) {
            law("5 + ( " + one + " )", 6);
        }
        for (String zero : zeros) {
            law("5 + ( " + zero + " )", 5);
        }

        Probe.sentence("Without breath: 1 + depth");
        for (int depth = 0; depth < 10; depth++) {
            DrownedCave x = Probe.told("place m deep 0;place p deep " + depth + ";way m p wide long 1;diver a plain gas 9;");
            Probe.due("at " + depth, x.cost(0, 0), 1 + depth);
        }
        String without = "place m deep 0;place p deep 3;way m p wide long 1;diver a plain gas 9;";
        DrownedCave again = Probe.told("breath not 0 + 9 * 9;");
        for (int i = 0; i < 4; i++) {
            Probe.due("a cave without it behind one with it", Probe.cave(again, without), 0);
            Probe.due("its cost", again.cost(0, 0), 4);
        }
    }

    private static void facts() {
        Probe.sentence("depth (of the deeper end; of the PLACE, if one stays there)");
        String flat = "diver a plain gas 900;";
        Probe.due("the second end", Probe.told("place m deep 2;place p deep 7;way m p wide long 1;" + flat).cost(0, 0), 8);
        Probe.due("the first end", Probe.told("place m deep 2;place p deep 7;way p m wide long 1;" + flat).cost(0, 0), 8);
        Probe.due("both", Probe.told("place m deep 7;place p deep 7;way p m wide long 1;" + flat).cost(0, 0), 8);
        DrownedCave stays = Probe.told("place m deep 9;place p deep 3;way m p wide long 1;" + flat);
        stays.swim(0, 0);
        Probe.due("by swimming", stays.spent(), 10);
        stays.hour();
        Probe.due("by staying", stays.spent(), 14);

        Probe.sentence("white (the hour's rain)");
        DrownedCave rainy = Probe.told("place m deep 0;place p deep 0;way m p wide long 1;" + flat + "rain 0 9;breath 2 + white;");
        Probe.due("rain 0", rainy.cost(0, 0), 2);
        rainy.hour();
        Probe.due("rain 9", rainy.cost(0, 0), 11);

        Probe.sentence("silt (of the WAY; 0, if one stays)");
        DrownedCave silty = Probe.told("place m deep 0;place p deep 0;way m p wide long 1;" + flat + "breath 2 + silt;");
        Probe.due("silt 0", silty.cost(0, 0), 2);
        silty.lay(0, 0);
        for (int i = 0; i < 4; i++) {
            silty.swim(0, 0);
        }
        Probe.due("silt 9", silty.cost(0, 0), 11);
        silty.undo();
        silty.undo();
        int spent = silty.spent();
        silty.hour();
        Probe.due("by staying", silty.spent() - spent, 2);

        Probe.sentence("hours (how many one has been under water)");
        DrownedCave old = Probe.told("place m deep 0;place p deep 0;way m p wide long 1;" + flat + "breath 2 + hours;");
        Probe.due("none", old.cost(0, 0), 2);
        old.swim(0, 0);
        Probe.due("none yet", old.cost(0, 0), 2);
        old.hour();
        old.hour();
        Probe.due("two", old.cost(0, 0), 4);
    }

    // ---- faults

    private static void placesOfFaults() {
        Probe.sentence("kind + 16 * the place (from 0) of a token");
        bad("x", 1, "x");
        bad(" x", 1, "x");
        bad("\n\n\n  x", 1, "x");
        bad(" ".repeat(999) + "x", 1, "x");
        Probe.due("the word, not its end", Probe.cave(new DrownedCave(), "  hour;"), 1 + 16 * 2);

        Probe.sentence("the end being one at the text's length");
        String[] texts = {"place", "place ", "place a", "place a deep", "place a deep 1", "place a deep 1\n\n", "rain", "rain 1",
            "rain 1 ", "breath", "breath 1", "breath (", "breath not", "breath ( 1", "breath 1 +", "breath 1 < ", "diver",
            "diver d", "diver d old", "diver d old gas", "diver d old gas 1"};
        for (String text : texts) {
            Probe.due("the end of " + text, Probe.cave(new DrownedCave(), text), 1 + 16 * text.length());
        }
        Probe.due("at 1,000", Probe.cave(new DrownedCave(), "rain 1" + " ".repeat(994)), 1 + 16 * 1000);
        for (String text : new String[] {"hour", "hour ", "swim", "swim dd", "swim dd 1", "share dd", "share dd ee", "stone", "stone 1"}) {
            Probe.due("the end of " + text, Probe.dive(Probe.told(TWO), text), 1 + 16 * text.length());
        }
        good("");
        goodDive("");
    }

    private static void theLeastFault() {
        Probe.sentence("of the first token from the left that is wrong the least");
        for (String text : new String[] {"place ,", "place x ,", "place x deep ,", "way ;", "way aa ;", "way aa bb ;", "way aa bb wide ;",
            "way aa bb wide long ;", "diver ;", "diver x ;", "diver x old ;", "diver x old gas ;", "rain ;", "breath ;", "breath ( ;",
            "breath not ;", "breath 1 < ;", "breath 1 * ;", "place x deep 10", "way aa cc", "way aa aa", "place aa", "rain 10"}) {
            int place = (TWO + text).lastIndexOf(' ') + 1;
            int kind = text.endsWith("0") ? 4 : text.endsWith("cc") ? 2 : text.endsWith("aa") ? 3 : 1;
            Probe.due("more is wrong behind: " + text, Probe.cave(new DrownedCave(), TWO + text + " ; , place"), kind + 16 * place);
            Probe.due("all is right behind: " + text, Probe.cave(new DrownedCave(), TWO + text + "; rain 1;"), kind + 16 * place);
        }
        for (String text : new String[] {"swim ;", "swim dd ;", "lay ;", "stage ;", "take dd ;", "share dd ;", "share dd ee ;", "stone ;",
            "hour ,", "swim dd 8", "share dd xx", "share dd dd"}) {
            int place = text.lastIndexOf(' ') + 1;
            int kind = text.endsWith("8") ? 4 : text.endsWith("xx") ? 2 : text.endsWith("dd") ? 3 : 1;
            Probe.due("more is wrong behind: " + text, Probe.dive(Probe.told(TWO), text + " ; , swim"), kind + 16 * place);
            Probe.due("all is right behind: " + text, Probe.dive(Probe.told(TWO), text + "; hour;"), kind + 16 * place);
        }
        bad("place a deep 10;place a deep 1;", 4, "10");
        bad("place a deep 1;place a deep 10;hour", 3, "a deep 10");
        bad("rain 1 2 3 4 5 6 7 8 9 0 1 2 10;", 4, "10");
        bad("rain 1 2 3 4 5 6 7 8 9 0 1 2 12345;", 1, "12345");
        bad("rain 1 2 3 4 5 6 7 8 9 0 1 2 x;", 1, "x");
        bad(SEVEN + "place a deep 10;", 5, "place a deep 10");
        bad(EIGHT + "way a a wide long 0;", 5, "way a a");
        bad(EIGHT + "way x y wide long 0;", 5, "way x");
        bad(FOUR + "diver q bold gas 0;", 5, "diver q bold");
        bad("rain 1;rain 10;", 3, "rain 10");
        bad("breath ( ( ( ( ( x", 1, "x");
        bad("breath ( ( ( ( ( )", 1, ")");
        bad("breath ( ( ( ( ( 12345", 1, "12345");
        bad("breath ( ( ( ( (", 1, "");
        badDive("hour;".repeat(40) + "rain", 1, "rain");
        badDive("hour;".repeat(40) + ";", 1, ";");
        badDive("hour;".repeat(40) + "swim xx 8;", 5, "swim");
        badDive("swim xx 8;", 2, "xx");
        badDive("share xx xx 0;", 2, "xx xx");
        badDive("share dd xx 0;", 2, "xx");
    }

    private static void firstKindInCaves() {
        Probe.sentence("1 it is none, or can't stand there");
        String[][] lines = {{"place", "x", "deep", "1", ";"}, {"way", "aa", "bb", "wide", "long", "1", ";"},
            {"diver", "x", "old", "gas", "1", ";"}, {"rain", "1", ";"}, {"breath", "1", ";"}};
        String[] wrong = {",", "A", "abcdefghi", "12345", "hour", "(", "="};
        for (String[] line : lines) {
            for (int at = 0; at < line.length; at++) {
                String ahead = TWO + String.join(" ", Arrays.copyOf(line, at)) + " ";
                for (String token : wrong) {
                    boolean isPart = line[0].equals("breath") && (at == 1 && token.equals("(") || at == 2 && token.equals("="));
                    if (!isPart) {
                        bad(ahead + token, 1, token);
                    }
                }
                if (at > 0) {
                    bad(ahead, 1, "");
                }
            }
        }
        bad(TWO + "place 1", 1, "1");
        bad(TWO + "place x deep deep", 1, "deep");
        bad(TWO + "place x deep 1 2", 1, "2");
        bad(TWO + ";", 1, ";");
        bad(TWO + "aa", 1, "aa");
    }

    private static void firstKindInDives() {
        Probe.sentence("1 it is none, or can't stand there");
        String[][] lines = {{"swim", "dd", "1", ";"}, {"lay", "dd", "1", ";"}, {"stage", "dd", "1", ";"},
            {"take", "dd", "1", ";"}, {"share", "dd", "ee", "1", ";"}, {"stone", "1", ";"}, {"hour", ";"}};
        String[] wrong = {",", "A", "abcdefghi", "12345", "rain", "(", "="};
        for (String[] line : lines) {
            for (int at = 0; at < line.length; at++) {
                String ahead = String.join(" ", Arrays.copyOf(line, at)) + " ";
                for (String token : wrong) {
                    badDive(ahead + token, 1, token);
                }
                if (at > 0) {
                    badDive(ahead, 1, "");
                }
            }
        }
        badDive("swim 1", 1, "1");
        badDive("stone dd", 1, "dd");
        badDive("hour 1", 1, "1");
        badDive("dd", 1, "dd");
        badDive(";", 1, ";");
        badDive("place", 1, "place");
    }

    private static void otherKinds() {
        Probe.sentence("2 a NAME of no PLACE (behind way, its second), of no DIVER (behind swim, lay, stage, take, share, its "
            + "second) told");
        bad(TWO + "way cc bb wide long 1;", 2, "cc");
        bad(TWO + "way dd bb wide long 1;", 2, "dd bb");
        bad(TWO + "way aa cc wide long 1;", 2, "cc");
        bad(TWO + "way aa ee wide long 1;", 2, "ee wide");
        bad("way aa aa wide long 1;", 2, "aa aa");
        for (String deed : new String[] {"swim", "lay", "stage", "take", "share", "share dd", "share ee"}) {
            badDive(deed + " xx 1;", 2, "xx");
            badDive(deed + " aa 1;", 2, "aa");
        }

        Probe.sentence("3 a NAME told already; the second one of way that is the first one, or between which and that there is "
            + "one told (from either), of share that is the first one; rain, breath a second time");
        bad(TWO + "place aa", 3, "aa");
        bad(TWO + "place ee", 3, "ee");
        bad(TWO + "diver dd", 3, "dd");
        bad(TWO + "diver bb", 3, "bb");
        bad(TWO + "way bb bb", 3, "bb");
        bad(TWO + "way aa bb wide long 1;way aa bb", 3, "bb");
        bad(TWO + "way aa bb wide long 1;way bb aa", 3, "aa");
        badDive("share ee ee", 3, "ee");
        bad("rain 1;breath 1;rain", 3, "rain");
        bad("breath 1;rain 1;breath", 3, "breath");

        Probe.sentence("4 a NUMBER that is not as told");
        bad("place a deep 10", 4, "10");
        bad(TWO + "way aa bb wide long 0", 4, "0");
        bad("diver d old gas 901", 4, "901");
        bad("rain 0 10", 4, "10");
        badDive("swim dd 8", 4, "8");
        badDive("lay dd 8", 4, "8");
        badDive("stage dd 0", 4, "0");
        badDive("take dd 100", 4, "100");
        badDive("share dd ee 100", 4, "100");
        badDive("stone 8", 4, "8");

        Probe.sentence("5 one too many: the words place of an eighth, way of a ninth, diver of a fifth, a thirteenth NUMBER of "
            + "rain, the first word of a 41st line of a DIVE; not, or a PART, within 5 others");
        bad(SEVEN + "place", 5, "place");
        bad(EIGHT + "way", 5, "way");
        bad(FOUR + "diver", 5, "diver");
        bad("rain 1 1 1 1 1 1 1 1 1 1 1 1 0", 5, "0");
        bad("rain 1 1 1 1 1 1 1 1 1 1 1 1 9", 5, "9");
        badDive("hour;".repeat(40) + "stone", 5, "stone");
        bad("breath not ( not ( not not", 5, "not");
        bad("breath not ( not ( not white", 5, "white");
        bad("breath not ( not ( not 3", 5, "3");
        bad("breath not ( not ( not (", 5, "(");
    }

    // ---- what is read

    private static DrownedCave used() {
        DrownedCave x = Probe.told(TWO + "way aa bb wide long 1;rain 1 2;");
        x.lay(0, 0);
        x.stage(0, 2);
        x.stage(1, 3);
        x.hour();
        x.find(0, 1);
        x.mark(0, false);
        x.mark(3, false);
        Probe.dive(x, "hour;");
        return x;
    }

    private static void whatACaveBrings() {
        Probe.sentence("Without a FAULT a CAVE is the CAVE from then on: hour 0, all DIVERS at the MOUTH with the gas told "
            + "(without PLACES: nowhere), no thread, no silt, nothing staged, no DIVE, nothing FOUND, nothing can be undone, no "
            + "MARK is there.");
        DrownedCave x = used();
        Probe.due("the next cave", Probe.cave(x, TWO + "way aa bb wide long 1;rain 7 2;"), 0);
        int[] counts = {2, 1, 2, 0, 7, 0, 0, 0, 18, 0, 0, 0, 0, 0};
        for (int what = 0; what < counts.length; what++) {
            Probe.due("count(" + what + ")", x.count(what), counts[what]);
        }
        Probe.due("all at the mouth", x.place(0, 2), 3);
        Probe.due("hours under water", x.diver(0, 3), 0);
        Probe.due("gas told", x.diver(0, 2), 9);
        Probe.due("thread", x.way(0, 5), 0);
        Probe.due("silt", x.way(0, 4), 0);
        Probe.due("staged at the mouth", x.place(0, 1), 0);
        Probe.due("staged elsewhere", x.place(1, 1), 0);
        Probe.due("breathed", x.spent(), 0);
        Probe.due("undone", x.undo(), false);
        Probe.due("the first mark", x.mark(0, true), false);
        Probe.due("the last mark", x.mark(3, true), false);
        Probe.due("judged", x.judged(2), 0);
        DrownedCave empty = used();
        Probe.due("an empty cave", empty.cave(), 0);
        for (int what = 0; what < 14; what++) {
            Probe.due("count(" + what + ") of nothing", empty.count(what), 0);
        }
        DrownedCave bare = used();
        Probe.due("without places", Probe.cave(bare, "diver dd old gas 9;diver ee old gas 9;"), 0);
        Probe.due("nowhere", bare.diver(0, 1), -1);
        Probe.due("nowhere, the second one, too", bare.diver(1, 1), -1);
        DrownedCave dead = Probe.told("place m deep 9;place p deep 9;way m p wide long 1;diver a plain gas 11;");
        dead.swim(0, 0);
        Probe.due("one drowns", dead.hour(), 1);
        Probe.due("the cave anew", Probe.cave(dead, "place m deep 9;diver a plain gas 11;"), 0);
        Probe.due("nobody is drowned", dead.count(5), 0);
    }

    private static void caveBehindCave() {
        Probe.sentence("Without a FAULT a CAVE is the CAVE from then on");
        DrownedCave often = Probe.told(EIGHT + FOUR + "rain 1 2 3;breath 1;");
        for (int i = 0; i < 4; i++) {
            Probe.due("cave behind cave", Probe.cave(often, TWO + "way aa bb wide long 1;rain 4 5;breath not 0 + 2;"), 0);
            Probe.due("its gas", often.count(8), 18);
            Probe.due("its places", often.count(0), 2);
            Probe.due("its ways", often.open(), 1);
            Probe.due("its divers", often.count(2), 2);
            Probe.due("its rain", often.count(4), 4);
            Probe.due("its breath", often.cost(0, 0), 2);
        }
        Probe.due("a lesser one", Probe.cave(often, "place m deep 0;place p deep 0;way m p wide long 1;diver a plain gas 7;breath 5;"), 0);
        Probe.due("its breath", often.cost(0, 0), 5);
        Probe.due("its gas", often.count(8), 7);
        Probe.due("a lesser one yet", Probe.cave(often, "place m deep 0;place p deep 0;way m p wide long 1;diver a plain gas 8;breath 6;"), 0);
        Probe.due("its breath", often.cost(0, 0), 6);
        Probe.due("its gas", often.count(8), 8);
        int[] breaths = {1, 9, 3, 8, 1, 7, 12};
        String[] laws = {"not ( 1 + 2 )", "9", "1 + 2", "8", "not ( 3 * 4 )", "7", "3 * 4"};
        for (int i = 0; i < laws.length; i++) {
            Probe.due("law behind law", Probe.cave(often, "place m deep 0;place p deep 0;way m p wide long 1;diver a plain gas 8;breath "
                + laws[i] + ";"), 0);
            Probe.due("breath " + laws[i], often.cost(0, 0), breaths[i]);
        }
    }

    private static void whatADiveIs() {
        Probe.sentence("A DIVE is the DIVE.");
        DrownedCave x = used();
        String before = Probe.state(x);
        Probe.due("another one", Probe.dive(x, "hour;hour;stone 0;"), 0);
        Probe.same("nothing else is changed by it", Probe.state(x), before);
        Probe.due("its lines", x.count(10), 3);
        Probe.due("it is judged", x.judged(0), 2);
        Probe.due("an empty one", x.dive(), 0);
        Probe.due("no lines", x.count(10), 0);
        Probe.due("nothing is judged", x.judged(0), -1);

        Probe.sentence("At first: nothing.");
        DrownedCave first = new DrownedCave();
        for (int what = 0; what < 14; what++) {
            Probe.due("count(" + what + ")", first.count(what), 0);
        }
        Probe.due("place", first.place(0, 0), -1);
        Probe.due("way", first.way(0, 0), -1);
        Probe.due("diver", first.diver(0, 0), -2);
        Probe.due("undo", first.undo(), false);
        for (int mark = 0; mark < 4; mark++) {
            Probe.due("mark " + mark, first.mark(mark, true), false);
        }
        Probe.due("judged", first.judged(0), -1);
        Probe.due("spent", first.spent(), 0);
    }

    private static void whatAFaultLeaves() {
        Probe.sentence("0, or its FAULT (all stays then).");
        String faulty = SEVEN + "way a b wide long 9;" + FOUR + "rain 9 9 9;breath 20;place";
        DrownedCave x = used();
        String before = Probe.state(x);
        int cost = x.cost(0, 0);
        Probe.due("a cave with a fault at its end", Probe.cave(x, faulty), Probe.fault(5, faulty, "place"));
        Probe.same("all is as it was", Probe.state(x), before);
        Probe.due("its depth", x.place(0, 0), 1);
        Probe.due("its length", x.way(0, 2), 1);
        Probe.due("its kind", x.diver(0, 0), 1);
        Probe.due("its law", x.cost(0, 0), cost);
        Probe.due("its dive", x.count(10), 1);
        Probe.due("its marks", x.mark(3, true), true);
        DrownedCave undone = used();
        Probe.cave(undone, faulty);
        Probe.due("what can be undone", undone.undo(), true);
        Probe.due("its hour", undone.count(3), 0);

        Probe.sentence("The TAPE is read as a DIVE, likewise.");
        DrownedCave y = used();
        before = Probe.state(y);
        Probe.due("a dive with a fault at its end", Probe.dive(y, "stone 0;hour;hour;stone 8"), 4 + 16 * 24);
        Probe.same("all is as it was", Probe.state(y), before);
        Probe.due("the dive ahead is judged", y.judged(0), -1);
        Probe.due("its one line", y.count(10), 1);
    }

    // ---- what the tests share

    private static void good(String text) {
        Probe.due("cave: " + text, Probe.cave(new DrownedCave(), text), 0);
    }

    private static void bad(String text, int kind, String part) {
        Probe.due("cave: " + text, Probe.cave(new DrownedCave(), text), Probe.fault(kind, text, part));
    }

    private static void goodDive(String text) {
        Probe.due("dive: " + text, Probe.dive(Probe.told(TWO), text), 0);
    }

    private static void badDive(String text, int kind, String part) {
        Probe.due("dive: " + text, Probe.dive(Probe.told(TWO), text), Probe.fault(kind, text, part));
    }

    /** What a plain diver breathes by a law. */
    private static void law(String law, int due) {
        DrownedCave x = Probe.told("place m deep 0;place p deep 0;way m p wide long 1;diver a plain gas 9;breath " + law + ";");
        Probe.due("breath " + law, x.cost(0, 0), Math.max(1, due));
    }
}
