import java.io.IOException;
import java.nio.file.Files;
import java.nio.file.Path;

/**
 * What the tests of boundary cases share: each check stands behind a sentence of the document, quoted word for word,
 * and a wrong answer is told with it.
 */
abstract class Sentences {
    static final int NONE = -1, BAD = -2, STATE = -3, FULL = -4, NOT = -5;
    static final int NOTHING = -11, CAST = -12, PLACE = -13, SIZE = -14;
    static final long NO = Long.MIN_VALUE;
    static final int LOW = Integer.MIN_VALUE, HIGH = Integer.MAX_VALUE;
    static final int RULE = 0, WAIT = 1, NIGHT = 2, TOLD = 3, LONG = 4, BEST = 5, DARK = 6;
    /** What would() and gone() are asked. */
    static final int OVER = 0, LOST = 1, WORTH = 2, STAND = 10, WATER = 20;

    private static final Path DOCUMENT = Path.of("../shared/DOC.md");

    private static String document = null;
    private static String sentence = "";
    private static int sentences, checks, checksBefore, wrong;

    /** The checks behind this are for these words, which stand in this part of the document. */
    static void says(String part, String words) {
        endSentence();
        sentence = part + ": \"" + words + "\"";
        sentences++;
        if (document == null) {
            document = read(DOCUMENT);
        }
        if (!document.isEmpty() && !document.contains(words)) {
            wrong++;
            System.out.println(sentence + " does not stand in the document");
        }
    }

    private static void endSentence() {
        if (!sentence.isEmpty() && checks == checksBefore) {
            wrong++;
            System.out.println(sentence + " has no check");
        }
        checksBefore = checks;
    }

    static String read(Path path) {
        try {
            return Files.exists(path) ? Files.readString(path) : "";
        } catch (IOException e) {
            return "";
        }
    }

    static void due(String call, long got, long want) {
        checks++;
        if (got != want) {
            wrong++;
            System.out.println(sentence + ": " + call + " answered " + got + ", due is " + want);
        }
    }

    /** What a call answers to each of some numbers. */
    interface Call {
        long of(int n);
    }

    static void each(String call, Call answered, long want, int... numbers) {
        for (int n : numbers) {
            due(call + " with " + n, answered.of(n), want);
        }
    }

    /** The numbers that are the first ones too small and too large, and the farthest. */
    static int[] outside(int least, int most) {
        return new int[] {LOW, least - 1, most + 1, HIGH};
    }

    static void feed(SlowWells x, String text) {
        for (int i = 0; i < text.length(); i += 4) {
            int n = Math.min(4, text.length() - i), bytes = 0;
            for (int k = 0; k < n; k++) {
                bytes = bytes << 8 | text.charAt(i + k);
            }
            due("feed of " + text, x.feed(bytes, n) < 0 ? 0 : 1, 1);
        }
    }

    static int waste(SlowWells x, String text) {
        feed(x, text);
        return x.waste();
    }

    /** A new object, of which this waste holds. */
    static SlowWells with(String text) {
        SlowWells x = new SlowWells();
        due("waste of " + text, waste(x, text), 0);
        return x;
    }

    /** A new object with RULES 0 .. 6 of KINDS 0 .. 6, all with the same v, and a waste that holds. */
    static SlowWells withKinds(int v, String text) {
        SlowWells x = new SlowWells();
        for (int kind = 0; kind <= 6; kind++) {
            x.rule(kind, v);
        }
        due("waste of " + text, waste(x, text), 0);
        return x;
    }

    static void fault(String text, int place) {
        SlowWells x = new SlowWells();
        due("waste of " + text, waste(x, text), -10 - place);
    }

    static void noFault(String text) {
        SlowWells x = new SlowWells();
        due("waste of " + text, waste(x, text), 0);
    }

    static String times(int n, String text) {
        return text.repeat(n);
    }

    static void end() {
        endSentence();
        sentence = "";
        System.out.println(sentences + " sentences, " + checks + " checks, " + wrong + " wrong");
        if (wrong != 0) {
            System.exit(1);
        }
    }
}
