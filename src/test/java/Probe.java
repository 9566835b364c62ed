import java.util.NoSuchElementException;

/** What the tests share: an object that is told texts, and a count of answers that are not as due. */
final class Probe {
    private static int wrong = 0;
    private static int asked = 0;

    private Probe() {
    }

    static void due(String call, long got, long want) {
        asked++;
        if (got != want) {
            wrong++;
            System.out.println(call + " answered " + got + ", due is " + want);
        }
    }

    static void due(String call, boolean got, boolean want) {
        due(call, got ? 1 : 0, want ? 1 : 0);
    }

    /** Ends the program, with 1 if an answer was wrong or if none was asked for. */
    static void close() {
        System.out.println(asked + " answers, " + wrong + " wrong");
        System.exit(wrong == 0 && asked > 0 ? 0 : 1);
    }

    /** The eight bytes of a text from a place on, as feed takes them; 0 where the text has ended. */
    static long eight(String text, int from) {
        long packed = 0;
        for (int i = from; i < from + 8; i++) {
            packed = packed << 8 | (i < text.length() ? text.charAt(i) & 255 : 0);
        }
        return packed;
    }

    static void feed(DrownedCave x, String text) {
        for (int i = 0; i < text.length(); i += 24) {
            x.feed(eight(text, i), eight(text, i + 8), eight(text, i + 16));
        }
    }

    static int cave(DrownedCave x, String text) {
        feed(x, text);
        return x.cave();
    }

    static int dive(DrownedCave x, String text) {
        feed(x, text);
        return x.dive();
    }

    static DrownedCave told(String text) {
        DrownedCave x = new DrownedCave();
        due("cave() of a good text: " + text, cave(x, text), 0);
        return x;
    }

    /** A FAULT of a kind at the place at which the text's part stands last. */
    static int fault(int kind, String text, String part) {
        return kind + 16 * text.lastIndexOf(part);
    }

    static boolean restsThrows(DrownedCave x, int lose, int goes, int yields, int what) {
        try {
            x.rests(lose, goes, yields, what);
            return false;
        } catch (NoSuchElementException e) {
            return true;
        }
    }
}
