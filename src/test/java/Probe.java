import java.util.NoSuchElementException;

/** What the tests share: an object that is told texts, and a count of answers that are not as due. */
final class Probe {
    private static int wrong = 0;
    private static int asked = 0;
    private static String sentence = "";
    private static int askedOfSentence = 1;

    private Probe() {
    }

    static void due(String call, long got, long want) {
        asked++;
        askedOfSentence++;
        if (got != want) {
            wrong++;
            String held = sentence.isEmpty() ? "" : "[" + sentence + "] ";
            System.out.println(held + call + " answered " + got + ", due is " + want);
        }
    }

    static void due(String call, boolean got, boolean want) {
        due(call, got ? 1 : 0, want ? 1 : 0);
    }

    /** What is asked from here on holds the class to this sentence, in the document's own words. */
    static void sentence(String words) {
        endSentence();
        sentence = words;
        askedOfSentence = 0;
    }

    private static void endSentence() {
        if (askedOfSentence == 0) {
            wrong++;
            System.out.println("[" + sentence + "] has no test");
        }
    }

    /** Ends the program, with 1 if an answer was wrong or if none was asked for. */
    static void close() {
        endSentence();
        System.out.println(asked + " answers, " + wrong + " wrong");
        System.exit(wrong == 0 && asked > 0 ? 0 : 1);
    }

    /** The eight bytes of a text from a place on, as feed takes them; 0 where the text has ended. */
    static long eight(String text, int from) {
        long packed = 0;
        for (int i = from; i < from + 8; i++) {
            packed = packed << 8 | (i < text.length() ? text.charAt(i) & 255 : 0);
        }
        return packed;
    }

    static void feed(DrownedCave x, String text) {
        for (int i = 0; i < text.length(); i += 24) {
            x.feed(eight(text, i), eight(text, i + 8), eight(text, i + 16));
        }
    }

    static int cave(DrownedCave x, String text) {
        feed(x, text);
        return x.cave();
    }

    static int dive(DrownedCave x, String text) {
        feed(x, text);
        return x.dive();
    }

    static DrownedCave told(String text) {
        DrownedCave x = new DrownedCave();
        int fault = cave(x, text);
        if (fault != 0) {
            due("cave() of a good text: " + text, fault, 0);
        }
        return x;
    }

    /** A FAULT of a kind at the place at which the text's part stands last. */
    static int fault(int kind, String text, String part) {
        return kind + 16 * text.lastIndexOf(part);
    }

    /** Numbers that are none of 0 to below the bound, with those that look like one by a wrap or a shift. */
    static int[] others(int bound) {
        return new int[] {Integer.MIN_VALUE, Integer.MIN_VALUE + 1, -65536, -256, -64, -32, -31, -3, -2, -1,
            bound, bound + 1, 32, 33, 64, 256, 65536, 1 << 30, Integer.MAX_VALUE};
    }

    /** All that can be asked about what is there, but for the DIVE; a call for each part of it. */
    static String state(DrownedCave x) {
        return world(x) + " t " + x.count(12) + " " + x.count(13);
    }

    /** What UNDO and MARKS bring back, what was told and what is FOUND; a call for each part of it. */
    static String world(DrownedCave x) {
        StringBuilder world = new StringBuilder();
        for (int what = 0; what < 10; what++) {
            world.append(x.count(what)).append(' ');
        }
        for (int place = 0; place < x.count(0); place++) {
            world.append("p ").append(x.place(place, 1)).append(' ').append(x.place(place, 2)).append(' ');
        }
        for (int way = 0; way < x.count(1); way++) {
            world.append("w ").append(x.way(way, 4)).append(' ').append(x.way(way, 5)).append(' ');
        }
        for (int diver = 0; diver < x.count(2); diver++) {
            world.append("d ");
            for (int what = 1; what < 5; what++) {
                world.append(x.diver(diver, what)).append(' ');
            }
        }
        return world.append("s ").append(x.spent()).append(' ').append(x.count(11)).toString();
    }

    static void same(String why, String got, String want) {
        if (!got.equals(want)) {
            System.out.println(why + ": " + got + " is not " + want);
        }
        due(why, got.equals(want), true);
    }

    static boolean restsThrows(DrownedCave x, int lose, int goes, int yields, int what) {
        try {
            x.rests(lose, goes, yields, what);
            return false;
        } catch (NoSuchElementException e) {
            return true;
        }
    }
}
